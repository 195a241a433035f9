def sX4_enter (A : IA) (p0 : Int32) : Option (IA) :=
  if p0 = (-5) then (some A) else ((sX5_append (A 2) (A 3 0) p0).bind fun z1 => bd (sc (setR A 2 z1.2.1) 3 z1.2.2) fun A1 => if z1.1 = 0 then (some A1) else (bd (sc A1 0 ((A1 0 0) ||| (1 <<< (p0 &&& 31)))) fun A2 => some A2))
abbrev rmX4_enter : Room := { frames := 1, cells := 0, slots := 0, locals := 22 }
theorem hdX4_enter : yX4_enter.cls = RX4 ∧ yX4_enter.cls ≠ "java/lang/invoke/MethodHandle" ∧ yX4_enter.cls ≠ "java/lang/invoke/VarHandle" ∧ (parseMethodDescriptor yX4_enter.desc).map (fun d => d.parameters.length) = some 1 := by decide +kernel
set_option maxHeartbeats 4000000 in
set_option maxRecDepth 100000 in
theorem kX4_enter {l : Launch} {g : GG} {sz : Nat} {ad : Nat → Nat} {A : IA} {p0 : Int32} {b : IA} (hsem : sX4_enter A p0 = some b) : MetV l yX4_enter wsX4_enter rmX4_enter g [.ref (ad 0), .int p0] (wRe g ad A) sz (wRe g ad b) := by
  refine Met.ofW (cc := cX4_enter) (maxL := 2) (ret := none) (by decide) rfl ?_
  intro p e s m args below meth c s₁ B hml hv
  obtain ⟨rfl, hsz, hP, hD0, hKK⟩ := hv
  subst hsz
  have hx := B.exec
  have hb := B.bytes
  have hr := B.returns
  have hts := atoms_spec (ws := wsX4_enter) B.pre
  have hown : s.vm.findClass RX4 = some m.cls := findClass_of_methodNamed B.named
  have hlocks := B.notSynchronized
  have hK := hKK.1
  have hD := hD0.self (sz := s.heap.size)
  generalize hZe : va_A (wRe g ad A) s.heap.size = Z at hD ⊢
  have hZ : ∀ q : Nat, s.heap.size ≤ q → Z q := fun q h => by rw [← hZe]; exact Or.inr h
  have hS : va_S Z s.heap s.heap [] := va_S.rf
  have hP : va_P g.1 vwCl (wRe g ad A) s.heap := hP
  have hD : va_D Z (wRe g ad A) := hD
  have hl := lv_entry ([.ref (ad 0), .int p0]) (n := 2) (Nat.le_of_ble_eq_true rfl)
  rw [lg_entry_eq]
  generalize (lg_sl ([.ref (ad 0), .int p0]) ++ List.replicate (2 - (lg_sl ([.ref (ad 0), .int p0])).length) Slot.unset).toArray = ls at hl ⊢
  have hl : lv_has ls 2 [(0, .ref (ad 0)), (1, .int p0)] := hl
  unfold sX4_enter at hsem
  refine lv_iload_n hx hb dX4_enter_0 rfl (lv_at hl 1 rfl) ?_
  refine lv_bipush (v := (-5)) hx hb dX4_enter_1 (by decide) ?_
  refine lv_icmp_eq (tgt := 29) hx hb dX4_enter_3 (by decide) (fun c1 => ?_) (fun c1 => ?_)
  · rw [if_pos c1] at hsem
    have eo := (Option.some.inj hsem).symm.symm
    subst eo
    exact W.vret hx hb hr (fun t ht hW => ⟨⟨(), rfl, trivial, ⟨by rw [ht]; exact hP, hD⟩⟩, hS.F ht⟩) hS.2.2 dX4_enter_29
  · rw [if_neg c1] at hsem
    refine lv_aload_n hx hb dX4_enter_6 rfl (lv_at hl 0 rfl) ?_
    refine va_get (D := g.1) (ci := 4) (v := .ref (ad 2)) (C := RX4) (T := TX4) (N := 3) hx hb hts (fun w h => List.mem_cons_of_mem _ (List.mem_append_left _ (List.mem_append_right _ h))) hown hK hP 0 rfl rfl 2 (by decide) (hts (.fieldLink RX4 18 "PauseRegions$Reach" "waiting" "LPauseRegions$Row;") (List.mem_of_getElem? (i := 1) rfl)) (fun _ h9 => h9) rfl dX4_enter_7 ?_
    refine lv_iload_n hx hb dX4_enter_10 rfl (lv_at hl 1 rfl) ?_
    obtain ⟨z1, hc1, hsem⟩ := bn_some hsem
    refine mcIs (C := RX5) (As := [.int p0]) (rest := []) (wr := (wRe_2_3 g ad A)) ⟨hx, hb, hml, hown, hts⟩ hKK hP hD hS hZ [2, 3] [0, 1] rfl rfl (by decide) (by decide) (by decide) (cwV 1 hts gX4_enter_X5_append rfl rfl rfl hdX5_append ⟨Nat.le_of_ble_eq_true rfl, Nat.le_of_ble_eq_true rfl⟩) (kX5_append (l := l) (g := g) (a0 := (ad 2)) (a1 := (ad 3)) (f := (A 2)) (n := (A 3 0)) hc1) (va_recv hK hP (ci := 5) (q0 := 2) rfl rfl) rfl hl.1 rfl (Nat.le_of_ble_eq_true rfl) dX4_enter_11 ⟨Nat.zero_le _, Nat.zero_le _⟩ (fun H locs hP hD hS => ?_)
    obtain ⟨A1, eA1, hsem⟩ := bd_some hsem
    have hP : va_P g.1 vwCl (wRe g ad A1) H := by rw [eA1]; exact hP.sub [0, 1, 2, 3] rfl
    have hD : va_D Z (wRe g ad A1) := by rw [eA1]; exact hD.sub [0, 1, 2, 3] (by decide) rfl
    refine lv_if_eq (tgt := 29) hx hb dX4_enter_14 (by decide) (fun c2 => ?_) (fun c2 => ?_)
    · rw [if_pos c2] at hsem
      have eo := (Option.some.inj hsem).symm.symm
      subst eo
      exact W.vret hx hb hr (fun t ht hW => ⟨⟨(), rfl, trivial, ⟨by rw [ht]; exact hP, hD⟩⟩, hS.F ht⟩) hS.2.2 dX4_enter_29
    · rw [if_neg c2] at hsem
      refine lv_aload_n hx hb dX4_enter_17 rfl (lv_at hl 0 rfl) ?_
      refine lv_dup hx hb dX4_enter_18 rfl ?_
      refine va_get (D := g.1) (ci := 4) (v := .int (A1 0 0)) (C := RX4) (T := TX4) (N := 3) hx hb hts (fun w h => List.mem_cons_of_mem _ (List.mem_append_left _ (List.mem_append_right _ h))) hown hK hP 0 rfl rfl 0 (by decide) (hts (.fieldLink RX4 22 "PauseRegions$Reach" "reached" "I") (List.mem_of_getElem? (i := 2) rfl)) (fun _ h9 => h9) rfl dX4_enter_19 ?_
      refine lv_iconst (v := 1) hx hb dX4_enter_22 (by decide) ?_
      refine lv_iload_n hx hb dX4_enter_23 rfl (lv_at hl 1 rfl) ?_
      refine lv_ishl hx hb dX4_enter_24 ?_
      refine lv_ior hx hb dX4_enter_25 ?_
      refine va_put (D := g.1) (ci := 4) (v := .int ((A1 0 0) ||| (1 <<< (p0 &&& 31)))) (ty := .int) (C := RX4) (T := TX4) (N := 3) hx hb hts (fun w h => List.mem_cons_of_mem _ (List.mem_append_left _ (List.mem_append_right _ h))) tyX4 tyX4_ok nmX4 hown hK hP hD hS 0 rfl rfl 0 (by decide) (hts (.fieldLink RX4 22 "PauseRegions$Reach" "reached" "I") (List.mem_of_getElem? (i := 2) rfl)) (fun _ h9 => h9) rfl (by decide +kernel) rfl rfl (Nat.le_of_ble_eq_true rfl) dX4_enter_26 (fun H locs hP hD hS => ?_)
      obtain ⟨A2, eA2, hsem⟩ := bd_some hsem
      have hP : va_P g.1 vwCl (wRe g ad A2) H := by rw [eA2]; exact hP
      have hD : va_D Z (wRe g ad A2) := by rw [eA2]; exact hD
      have eo := (Option.some.inj hsem).symm.symm
      subst eo
      exact W.vret hx hb hr (fun t ht hW => ⟨⟨(), rfl, trivial, ⟨by rw [ht]; exact hP, hD⟩⟩, hS.F ht⟩) hS.2.2 dX4_enter_29
def sX4_findReached_L15 (Ah : IA) (q1 : Int32 × IA) : Option ((Int32 × IA) ⊕ (IA)) :=
  if 6 ≤ q1.1 then (some (.inr q1.2)) else (ck q1.1 6 ((sX4_enter q1.2 ((Ah 9) q1.1.toNatClampNeg)).bind fun z1 => some (.inl (q1.1 + 1, z1))))
def sX4_findReached_L39 (Ah : IA) (q3 : Int32 × IA) : Option ((Int32 × IA) ⊕ (IA)) :=
  if 32 ≤ q3.1 then (some (.inr q3.2)) else (if (q3.2 3 0) ≤ q3.1 then (some (.inr q3.2)) else ((sX5_itemAt (q3.2 2) (q3.2 3 0) q3.1).bind fun x1 => (sX1_fieldOf Ah x1 0).bind fun x2 => (sX4_enter q3.2 x2).bind fun z2 => (sX1_fieldOf Ah x1 1).bind fun x3 => (sX4_enter z2 x3).bind fun z3 => some (.inl (q3.1 + 1, z3))))
def sX4_findReached (A : IA) (Ah : IA) : Option (IA) :=
  bd (sc A 0 0) fun A1 => bd (sc A1 3 0) fun A2 => (loopN (sX4_findReached_L15 Ah) 2000 (0, A2)).bind fun q2 => (loopN (sX4_findReached_L39 Ah) 2000 (0, q2)).bind fun q4 => some q4
abbrev rmX4_findReached : Room := { frames := 2, cells := 0, slots := 0, locals := 43 }
theorem hdX4_findReached : yX4_findReached.cls = RX4 ∧ yX4_findReached.cls ≠ "java/lang/invoke/MethodHandle" ∧ yX4_findReached.cls ≠ "java/lang/invoke/VarHandle" ∧ (parseMethodDescriptor yX4_findReached.desc).map (fun d => d.parameters.length) = some 1 := by decide +kernel
set_option maxHeartbeats 4000000 in
set_option maxRecDepth 100000 in
theorem kX4_findReached {l : Launch} {g : GG} {sz : Nat} {ad : Nat → Nat} {A : IA} {adh : Nat → Nat} {Ah : IA} {Fh : FA} {b : IA} (hsem : sX4_findReached A Ah = some b) : MetV l yX4_findReached wsX4_findReached rmX4_findReached g [.ref (ad 0), .ref (adh 0)] ((wRe g ad A) ++ (wH g adh Ah Fh)) sz ((wRe g ad b) ++ (wH g adh Ah Fh)) := by
  refine Met.ofW (cc := cX4_findReached) (maxL := 4) (ret := none) (by decide) rfl ?_
  intro p e s m args below meth c s₁ B hml hv
  obtain ⟨rfl, hsz, hP, hD0, hKK⟩ := hv
  subst hsz
  have hx := B.exec
  have hb := B.bytes
  have hr := B.returns
  have hts := atoms_spec (ws := wsX4_findReached) B.pre
  have hown : s.vm.findClass RX4 = some m.cls := findClass_of_methodNamed B.named
  have hlocks := B.notSynchronized
  have hK := hKK.1
  have hD := hD0.self (sz := s.heap.size)
  generalize hZe : va_A ((wRe g ad A) ++ (wH g adh Ah Fh)) s.heap.size = Z at hD ⊢
  have hZ : ∀ q : Nat, s.heap.size ≤ q → Z q := fun q h => by rw [← hZe]; exact Or.inr h
  have hS : va_S Z s.heap s.heap [] := va_S.rf
  have hP : va_P g.1 vwCl ((wRe g ad A) ++ (wH g adh Ah Fh)) s.heap := hP
  have hD : va_D Z ((wRe g ad A) ++ (wH g adh Ah Fh)) := hD
  have hl := lv_entry ([.ref (ad 0), .ref (adh 0)]) (n := 4) (Nat.le_of_ble_eq_true rfl)
  rw [lg_entry_eq]
  generalize (lg_sl ([.ref (ad 0), .ref (adh 0)]) ++ List.replicate (4 - (lg_sl ([.ref (ad 0), .ref (adh 0)])).length) Slot.unset).toArray = ls at hl ⊢
  have hl : lv_has ls 4 [(0, .ref (ad 0)), (1, .ref (adh 0))] := hl
  unfold sX4_findReached at hsem
  refine lv_aload_n hx hb dX4_findReached_0 rfl (lv_at hl 0 rfl) ?_
  refine lv_iconst (v := 0) hx hb dX4_findReached_1 (by decide) ?_
  refine va_put (D := g.1) (ci := 4) (v := .int 0) (ty := .int) (C := RX4) (T := TX4) (N := 3) hx hb hts (fun w h => List.mem_cons_of_mem _ (List.mem_append_left _ (List.mem_append_left _ (List.mem_append_right _ h)))) tyX4 tyX4_ok nmX4 hown hK hP hD hS 0 rfl rfl 0 (by decide) (hts (.fieldLink RX4 22 "PauseRegions$Reach" "reached" "I") (List.mem_of_getElem? (i := 1) rfl)) (fun _ h9 => h9) rfl (by decide +kernel) rfl rfl (Nat.le_of_ble_eq_true rfl) dX4_findReached_2 (fun H locs hP hD hS => ?_)
  obtain ⟨A1, eA1, hsem⟩ := bd_some hsem
  have hP : va_P g.1 vwCl ((wRe g ad A1) ++ (wH g adh Ah Fh)) H := by rw [eA1]; exact hP
  have hD : va_D Z ((wRe g ad A1) ++ (wH g adh Ah Fh)) := by rw [eA1]; exact hD
  refine lv_aload_n hx hb dX4_findReached_5 rfl (lv_at hl 0 rfl) ?_
  refine va_get (D := g.1) (ci := 4) (v := .ref (ad 2)) (C := RX4) (T := TX4) (N := 3) hx hb hts (fun w h => List.mem_cons_of_mem _ (List.mem_append_left _ (List.mem_append_left _ (List.mem_append_right _ h)))) hown hK hP 0 rfl rfl 2 (by decide) (hts (.fieldLink RX4 18 "PauseRegions$Reach" "waiting" "LPauseRegions$Row;") (List.mem_of_getElem? (i := 2) rfl)) (fun _ h9 => h9) rfl dX4_findReached_6 ?_
  refine lv_iconst (v := 0) hx hb dX4_findReached_9 (by decide) ?_
  refine va_put (D := g.1) (ci := 5) (v := .int 0) (ty := .int) (C := RX5) (T := TX5) (N := 2) hx hb hts (fun w h => List.mem_cons_of_mem _ (List.mem_append_left _ (List.mem_append_right _ h))) tyX5 tyX5_ok nmX5 hown hK hP hD hS 2 rfl rfl 1 (by decide) (hts (.fieldLink RX4 26 "PauseRegions$Row" "length" "I") (List.mem_of_getElem? (i := 3) rfl)) (fun _ h9 => h9) rfl (by decide +kernel) rfl rfl (Nat.le_of_ble_eq_true rfl) dX4_findReached_10 (fun H locs hP hD hS => ?_)
  obtain ⟨A2, eA2, hsem⟩ := bd_some hsem
  have hP : va_P g.1 vwCl ((wRe g ad A2) ++ (wH g adh Ah Fh)) H := by rw [eA2]; exact hP
  have hD : va_D Z ((wRe g ad A2) ++ (wH g adh Ah Fh)) := by rw [eA2]; exact hD
  refine lv_iconst (v := 0) hx hb dX4_findReached_13 (by decide) ?_
  refine lv_istore_n (lv' := [(2, .int 0), (0, .ref (ad 0)), (1, .ref (adh 0))]) hx hb dX4_findReached_14 rfl hl (by decide) rfl (fun ls hl => ?_)
  obtain ⟨q2, hc2, hsem⟩ := bn_some hsem
  refine loopM (g := g) hc2 (fun (q1 : Int32 × IA) => [(2, .int q1.1), (0, .ref (ad 0)), (1, .ref (adh 0))]) (fun (q1 : IA) => [(0, .ref (ad 0)), (1, .ref (adh 0))]) (exit := 37) (fun (q1 : Int32 × IA) => (wRe g ad q1.2) ++ (wH g adh Ah Fh)) (fun (q1 : IA) => (wRe g ad q1) ++ (wH g adh Ah Fh)) hP hD hS (lv_sub hl [0, 1, 2] rfl) (fun H locs ls hP hD hS hl => ?_) (fun q1 r hst1 hin1 hout1 H locs ls hP hD hS hl => ?_)
  · have hP : va_P g.1 vwCl ((wRe g ad q2) ++ (wH g adh Ah Fh)) H := hP
    have hD : va_D Z ((wRe g ad q2) ++ (wH g adh Ah Fh)) := hD
    refine lv_iconst (v := 0) hx hb dX4_findReached_37 (by decide) ?_
    refine lv_istore_n (lv' := [(2, .int 0), (0, .ref (ad 0)), (1, .ref (adh 0))]) hx hb dX4_findReached_38 rfl hl (by decide) rfl (fun ls hl => ?_)
    obtain ⟨q4, hc8, hsem⟩ := bn_some hsem
    refine loopM (g := g) hc8 (fun (q3 : Int32 × IA) => [(2, .int q3.1), (0, .ref (ad 0)), (1, .ref (adh 0))]) (fun (q3 : IA) => []) (exit := 91) (fun (q3 : Int32 × IA) => (wRe g ad q3.2) ++ (wH g adh Ah Fh)) (fun (q3 : IA) => (wRe g ad q3) ++ (wH g adh Ah Fh)) hP hD hS (lv_sub hl [0, 1, 2] rfl) (fun H locs ls hP hD hS hl => ?_) (fun q3 r hst1 hin1 hout1 H locs ls hP hD hS hl => ?_)
    · have hP : va_P g.1 vwCl ((wRe g ad q4) ++ (wH g adh Ah Fh)) H := hP
      have hD : va_D Z ((wRe g ad q4) ++ (wH g adh Ah Fh)) := hD
      have eo := (Option.some.inj hsem).symm.symm
      subst eo
      exact W.vret hx hb hr (fun t ht hW => ⟨⟨(), rfl, trivial, ⟨by rw [ht]; exact hP, hD⟩⟩, hS.F ht⟩) hS.2.2 dX4_findReached_91
    · unfold sX4_findReached_L39 at hst1
      have hP : va_P g.1 vwCl ((wRe g ad q3.2) ++ (wH g adh Ah Fh)) H := hP
      have hD : va_D Z ((wRe g ad q3.2) ++ (wH g adh Ah Fh)) := hD
      refine lv_iload_n hx hb dX4_findReached_39 rfl (lv_at hl 0 rfl) ?_
      refine lv_bipush (v := 32) hx hb dX4_findReached_40 (by decide) ?_
      refine lv_icmp_ge (tgt := 91) hx hb dX4_findReached_42 (by decide) (fun c2 => ?_) (fun c2 => ?_)
      · rw [if_pos c2] at hst1
        exact hout1 H locs ls _ (Option.some.inj hst1).symm hP hD hS (lv_sub hl [] rfl)
      · rw [if_neg c2] at hst1
        refine lv_iload_n hx hb dX4_findReached_45 rfl (lv_at hl 0 rfl) ?_
        refine lv_aload_n hx hb dX4_findReached_46 rfl (lv_at hl 1 rfl) ?_
        refine va_get (D := g.1) (ci := 4) (v := .ref (ad 2)) (C := RX4) (T := TX4) (N := 3) hx hb hts (fun w h => List.mem_cons_of_mem _ (List.mem_append_left _ (List.mem_append_left _ (List.mem_append_right _ h)))) hown hK hP 0 rfl rfl 2 (by decide) (hts (.fieldLink RX4 18 "PauseRegions$Reach" "waiting" "LPauseRegions$Row;") (List.mem_of_getElem? (i := 2) rfl)) (fun _ h9 => h9) rfl dX4_findReached_47 ?_
        refine va_get (D := g.1) (ci := 5) (v := .int (q3.2 3 0)) (C := RX5) (T := TX5) (N := 2) hx hb hts (fun w h => List.mem_cons_of_mem _ (List.mem_append_left _ (List.mem_append_right _ h))) hown hK hP 2 rfl rfl 1 (by decide) (hts (.fieldLink RX4 26 "PauseRegions$Row" "length" "I") (List.mem_of_getElem? (i := 3) rfl)) (fun _ h9 => h9) rfl dX4_findReached_50 ?_
        refine lv_icmp_ge (tgt := 91) hx hb dX4_findReached_53 (by decide) (fun c3 => ?_) (fun c3 => ?_)
        · rw [if_pos c3] at hst1
          exact hout1 H locs ls _ (Option.some.inj hst1).symm hP hD hS (lv_sub hl [] rfl)
        · rw [if_neg c3] at hst1
          refine lv_aload_n hx hb dX4_findReached_56 rfl (lv_at hl 1 rfl) ?_
          refine va_get (D := g.1) (ci := 4) (v := .ref (ad 2)) (C := RX4) (T := TX4) (N := 3) hx hb hts (fun w h => List.mem_cons_of_mem _ (List.mem_append_left _ (List.mem_append_left _ (List.mem_append_right _ h)))) hown hK hP 0 rfl rfl 2 (by decide) (hts (.fieldLink RX4 18 "PauseRegions$Reach" "waiting" "LPauseRegions$Row;") (List.mem_of_getElem? (i := 2) rfl)) (fun _ h9 => h9) rfl dX4_findReached_57 ?_
          refine lv_iload_n hx hb dX4_findReached_60 rfl (lv_at hl 0 rfl) ?_
          obtain ⟨x1, hc3, hst1⟩ := bn_some hst1
          refine pcV (C := RX5) (As := [.int q3.1]) (rest := []) ⟨hx, hb, hml, hown, hts⟩ hKK (cwV 1 hts gX4_findReached_X5_itemAt rfl rfl rfl hdX5_itemAt ⟨Nat.le_of_ble_eq_true rfl, Nat.le_of_ble_eq_true rfl⟩) (kX5_itemAt (l := l) (g := g) (hP.sub (ws' := wRow g (ad 2) (ad 3) (q3.2 2) (q3.2 3 0)) [2, 3] rfl) hc3) (va_recv hK hP (ci := 5) (q0 := 2) rfl rfl) rfl hl.1 rfl (Nat.le_of_ble_eq_true rfl) dX4_findReached_61 ⟨Nat.zero_le _, Nat.zero_le _⟩ ?_
          refine lv_istore_n (lv' := [(3, .int x1), (2, .int q3.1), (0, .ref (ad 0)), (1, .ref (adh 0))]) hx hb dX4_findReached_64 rfl hl (by decide) rfl (fun ls hl => ?_)
          refine lv_aload_n hx hb dX4_findReached_65 rfl (lv_at hl 2 rfl) ?_
          refine lv_aload_n hx hb dX4_findReached_66 rfl (lv_at hl 3 rfl) ?_
          refine lv_iload_n hx hb dX4_findReached_67 rfl (lv_at hl 0 rfl) ?_
          refine lv_iconst (v := 0) hx hb dX4_findReached_68 (by decide) ?_
          obtain ⟨x2, hc4, hst1⟩ := bn_some hst1
          refine pcV (C := RX1) (As := [.int x1, .int 0]) (rest := [.ref (ad 0)]) ⟨hx, hb, hml, hown, hts⟩ hKK (cwV 2 hts gX4_findReached_X1_fieldOf rfl rfl rfl hdX1_fieldOf ⟨Nat.le_of_ble_eq_true rfl, Nat.le_of_ble_eq_true rfl⟩) (kX1_fieldOf (l := l) (g := g) (hP.sub (ws' := wH g adh Ah Fh) [4, 5, 6, 7, 8, 9, 10, 11, 12, 13, 14, 15, 16, 17, 18] rfl) hc4) (va_recv hK hP (ci := 1) (q0 := 4) rfl rfl) rfl hl.1 rfl (Nat.le_of_ble_eq_true rfl) dX4_findReached_69 ⟨Nat.zero_le _, Nat.zero_le _⟩ ?_
          obtain ⟨z2, hc5, hst1⟩ := bn_some hst1
          refine mcVs (C := RX4) (As := [.int x2]) (rest := []) (wr := (wH g adh Ah Fh)) ⟨hx, hb, hml, hown, hts⟩ hKK hP hD hS hZ [0, 1, 2, 3] [4, 5, 6, 7, 8, 9, 10, 11, 12, 13, 14, 15, 16, 17, 18] rfl rfl (by decide) (by decide) (by decide) (cwV 1 hts gX4_findReached_X4_enter rfl rfl rfl hdX4_enter ⟨Nat.le_of_ble_eq_true rfl, Nat.le_of_ble_eq_true rfl⟩) (kX4_enter (l := l) (g := g) (ad := ad) (A := q3.2) hc5) (va_recv hK hP (ci := 4) (q0 := 0) rfl rfl) rfl hl.1 rfl (Nat.le_of_ble_eq_true rfl) dX4_findReached_72 ⟨Nat.zero_le _, Nat.zero_le _⟩ (fun H locs hP hD hS => ?_)
          have hP : va_P g.1 vwCl ((wRe g ad z2) ++ (wH g adh Ah Fh)) H := hP.sub [15, 16, 17, 18, 0, 1, 2, 3, 4, 5, 6, 7, 8, 9, 10, 11, 12, 13, 14] rfl
          have hD : va_D Z ((wRe g ad z2) ++ (wH g adh Ah Fh)) := hD.sub [15, 16, 17, 18, 0, 1, 2, 3, 4, 5, 6, 7, 8, 9, 10, 11, 12, 13, 14] (by decide) rfl
          refine lv_aload_n hx hb dX4_findReached_75 rfl (lv_at hl 2 rfl) ?_
          refine lv_aload_n hx hb dX4_findReached_76 rfl (lv_at hl 3 rfl) ?_
          refine lv_iload_n hx hb dX4_findReached_77 rfl (lv_at hl 0 rfl) ?_
          refine lv_iconst (v := 1) hx hb dX4_findReached_78 (by decide) ?_
          obtain ⟨x3, hc6, hst1⟩ := bn_some hst1
          refine pcV (C := RX1) (As := [.int x1, .int 1]) (rest := [.ref (ad 0)]) ⟨hx, hb, hml, hown, hts⟩ hKK (cwV 2 hts gX4_findReached_X1_fieldOf rfl rfl rfl hdX1_fieldOf ⟨Nat.le_of_ble_eq_true rfl, Nat.le_of_ble_eq_true rfl⟩) (kX1_fieldOf (l := l) (g := g) (hP.sub (ws' := wH g adh Ah Fh) [4, 5, 6, 7, 8, 9, 10, 11, 12, 13, 14, 15, 16, 17, 18] rfl) hc6) (va_recv hK hP (ci := 1) (q0 := 4) rfl rfl) rfl hl.1 rfl (Nat.le_of_ble_eq_true rfl) dX4_findReached_79 ⟨Nat.zero_le _, Nat.zero_le _⟩ ?_
          obtain ⟨z3, hc7, hst1⟩ := bn_some hst1
          refine mcVs (C := RX4) (As := [.int x3]) (rest := []) (wr := (wH g adh Ah Fh)) ⟨hx, hb, hml, hown, hts⟩ hKK hP hD hS hZ [0, 1, 2, 3] [4, 5, 6, 7, 8, 9, 10, 11, 12, 13, 14, 15, 16, 17, 18] rfl rfl (by decide) (by decide) (by decide) (cwV 1 hts gX4_findReached_X4_enter rfl rfl rfl hdX4_enter ⟨Nat.le_of_ble_eq_true rfl, Nat.le_of_ble_eq_true rfl⟩) (kX4_enter (l := l) (g := g) (ad := ad) (A := z2) hc7) (va_recv hK hP (ci := 4) (q0 := 0) rfl rfl) rfl hl.1 rfl (Nat.le_of_ble_eq_true rfl) dX4_findReached_82 ⟨Nat.zero_le _, Nat.zero_le _⟩ (fun H locs hP hD hS => ?_)
          have hP : va_P g.1 vwCl ((wRe g ad z3) ++ (wH g adh Ah Fh)) H := hP.sub [15, 16, 17, 18, 0, 1, 2, 3, 4, 5, 6, 7, 8, 9, 10, 11, 12, 13, 14] rfl
          have hD : va_D Z ((wRe g ad z3) ++ (wH g adh Ah Fh)) := hD.sub [15, 16, 17, 18, 0, 1, 2, 3, 4, 5, 6, 7, 8, 9, 10, 11, 12, 13, 14] (by decide) rfl
          refine lv_iinc (v := q3.1 + 1) (lv' := [(2, .int (q3.1 + 1)), (3, .int x1), (0, .ref (ad 0)), (1, .ref (adh 0))]) hx hb dX4_findReached_85 hl (k := 1) rfl rfl (by decide) rfl (fun ls hl => ?_)
          refine lv_goto (tgt := 39) hx hb dX4_findReached_88 (by decide) ?_
          exact hin1 H locs ls _ (Option.some.inj hst1).symm hP hD hS (lv_sub hl [0, 2, 3] rfl)
  · unfold sX4_findReached_L15 at hst1
    have hP : va_P g.1 vwCl ((wRe g ad q1.2) ++ (wH g adh Ah Fh)) H := hP
    have hD : va_D Z ((wRe g ad q1.2) ++ (wH g adh Ah Fh)) := hD
    refine lv_iload_n hx hb dX4_findReached_15 rfl (lv_at hl 0 rfl) ?_
    refine lv_bipush (v := 6) hx hb dX4_findReached_16 (by decide) ?_
    refine lv_icmp_ge (tgt := 37) hx hb dX4_findReached_18 (by decide) (fun c1 => ?_) (fun c1 => ?_)
    · rw [if_pos c1] at hst1
      exact hout1 H locs ls _ (Option.some.inj hst1).symm hP hD hS (lv_sub hl [1, 2] rfl)
    · rw [if_neg c1] at hst1
      refine lv_aload_n hx hb dX4_findReached_21 rfl (lv_at hl 1 rfl) ?_
      refine lv_aload_n hx hb dX4_findReached_22 rfl (lv_at hl 2 rfl) ?_
      refine va_get (D := g.1) (ci := 1) (v := .ref (adh 10)) (C := RX1) (T := TX1) (N := 18) hx hb hts (fun w h => List.mem_cons_of_mem _ (List.mem_append_right _ h)) hown hK hP 4 rfl rfl 9 (by decide) (hts (.fieldLink RX4 29 "PauseRegions$Heap" "roots" "[I") (List.mem_of_getElem? (i := 4) rfl)) (fun _ h9 => h9) rfl dX4_findReached_23 ?_
      refine lv_iload_n hx hb dX4_findReached_26 rfl (lv_at hl 0 rfl) ?_
      obtain ⟨h1, hst1⟩ := ck_some hst1
      refine va_iald (D := g.1) hx hb hK hP 14 0 rfl rfl h1 dX4_findReached_27 ?_
      obtain ⟨z1, hc1, hst1⟩ := bn_some hst1
      refine mcVs (C := RX4) (As := [.int ((Ah 9) q1.1.toNatClampNeg)]) (rest := []) (wr := (wH g adh Ah Fh)) ⟨hx, hb, hml, hown, hts⟩ hKK hP hD hS hZ [0, 1, 2, 3] [4, 5, 6, 7, 8, 9, 10, 11, 12, 13, 14, 15, 16, 17, 18] rfl rfl (by decide) (by decide) (by decide) (cwV 1 hts gX4_findReached_X4_enter rfl rfl rfl hdX4_enter ⟨Nat.le_of_ble_eq_true rfl, Nat.le_of_ble_eq_true rfl⟩) (kX4_enter (l := l) (g := g) (ad := ad) (A := q1.2) hc1) (va_recv hK hP (ci := 4) (q0 := 0) rfl rfl) rfl hl.1 rfl (Nat.le_of_ble_eq_true rfl) dX4_findReached_28 ⟨Nat.zero_le _, Nat.zero_le _⟩ (fun H locs hP hD hS => ?_)
      have hP : va_P g.1 vwCl ((wRe g ad z1) ++ (wH g adh Ah Fh)) H := hP.sub [15, 16, 17, 18, 0, 1, 2, 3, 4, 5, 6, 7, 8, 9, 10, 11, 12, 13, 14] rfl
      have hD : va_D Z ((wRe g ad z1) ++ (wH g adh Ah Fh)) := hD.sub [15, 16, 17, 18, 0, 1, 2, 3, 4, 5, 6, 7, 8, 9, 10, 11, 12, 13, 14] (by decide) rfl
      refine lv_iinc (v := q1.1 + 1) (lv' := [(2, .int (q1.1 + 1)), (0, .ref (ad 0)), (1, .ref (adh 0))]) hx hb dX4_findReached_31 hl (k := 0) rfl rfl (by decide) rfl (fun ls hl => ?_)
      refine lv_goto (tgt := 15) hx hb dX4_findReached_34 (by decide) ?_
      exact hin1 H locs ls _ (Option.some.inj hst1).symm hP hD hS (lv_sub hl [0, 1, 2] rfl)
def sX4_isFar (A : IA) (p0 : Int32) (p1 : Int32) : Option (Int32) :=
  if p0 = (-5) then (some 0) else (ck p0 32 (if ((A 1) p0.toNatClampNeg) = p1 then (some 1) else (some 0)))
abbrev rmX4_isFar : Room := { frames := 0, cells := 0, slots := 0, locals := 0 }
theorem hdX4_isFar : yX4_isFar.cls = RX4 ∧ yX4_isFar.cls ≠ "java/lang/invoke/MethodHandle" ∧ yX4_isFar.cls ≠ "java/lang/invoke/VarHandle" ∧ (parseMethodDescriptor yX4_isFar.desc).map (fun d => d.parameters.length) = some 2 := by decide +kernel
set_option maxHeartbeats 4000000 in
set_option maxRecDepth 100000 in
theorem kX4_isFar {l : Launch} {g : GG} {H0 : Heap} {ad : Nat → Nat} {A : IA} {p0 p1 : Int32} {b : Int32} (hP : va_P g.1 vwCl (wRe g ad A) H0) (hsem : sX4_isFar A p0 p1 = some b) : MetP l yX4_isFar wsX4_isFar rmX4_isFar g H0 [.ref (ad 0), .int p0, .int p1] b := by
  refine Met.ofW (cc := cX4_isFar) (maxL := 3) (ret := (some .boolean)) (by decide) rfl ?_
  intro p e s m args below meth c s₁ B hml hv
  obtain ⟨rfl, hH, hKK⟩ := hv
  subst hH
  have hx := B.exec
  have hb := B.bytes
  have hr := B.returns
  have hts := atoms_spec (ws := wsX4_isFar) B.pre
  have hown : s.vm.findClass RX4 = some m.cls := findClass_of_methodNamed B.named
  have hlocks := B.notSynchronized
  have hK := hKK.1
  have hl := lv_entry ([.ref (ad 0), .int p0, .int p1]) (n := 3) (Nat.le_of_ble_eq_true rfl)
  rw [lg_entry_eq]
  generalize (lg_sl ([.ref (ad 0), .int p0, .int p1]) ++ List.replicate (3 - (lg_sl ([.ref (ad 0), .int p0, .int p1])).length) Slot.unset).toArray = ls at hl ⊢
  have hl : lv_has ls 3 [(0, .ref (ad 0)), (1, .int p0), (2, .int p1)] := hl
  unfold sX4_isFar at hsem
  refine lv_iload_n hx hb dX4_isFar_0 rfl (lv_at hl 1 rfl) ?_
  refine lv_bipush (v := (-5)) hx hb dX4_isFar_1 (by decide) ?_
  refine lv_icmp_eq (tgt := 20) hx hb dX4_isFar_3 (by decide) (fun c1 => ?_) (fun c1 => ?_)
  · rw [if_pos c1] at hsem
    refine lv_iconst (v := 0) hx hb dX4_isFar_20 (by decide) ?_
    have eo := (Option.some.inj hsem).symm.symm
    exact W.zret (v := 0) hx hb hr rfl (fun t ht hW => ⟨⟨_, (), rfl, eo, ht⟩, (va_S.rf (A := fun _ => False) (H0 := s.heap)).F ht⟩) (fun q hq => absurd hq List.not_mem_nil) dX4_isFar_21
  · rw [if_neg c1] at hsem
    refine lv_aload_n hx hb dX4_isFar_6 rfl (lv_at hl 0 rfl) ?_
    refine va_get (D := g.1) (ci := 4) (v := .ref (ad 1)) (C := RX4) (T := TX4) (N := 3) hx hb hts (fun w h => List.mem_cons_of_mem _ (List.mem_append_right _ h)) hown hK hP 0 rfl rfl 1 (by decide) (hts (.fieldLink RX4 9 "PauseRegions$Reach" "far" "[I") (List.mem_of_getElem? (i := 1) rfl)) (fun _ h9 => h9) rfl dX4_isFar_7 ?_
    refine lv_iload_n hx hb dX4_isFar_10 rfl (lv_at hl 1 rfl) ?_
    obtain ⟨h1, hsem⟩ := ck_some hsem
    refine va_iald (D := g.1) hx hb hK hP 1 0 rfl rfl h1 dX4_isFar_11 ?_
    refine lv_iload_n hx hb dX4_isFar_12 rfl (lv_at hl 2 rfl) ?_
    refine lv_icmp_ne (tgt := 20) hx hb dX4_isFar_13 (by decide) (fun c2 => ?_) (fun c2 => ?_)
    · rw [if_neg c2] at hsem
      refine lv_iconst (v := 0) hx hb dX4_isFar_20 (by decide) ?_
      have eo := (Option.some.inj hsem).symm.symm
      exact W.zret (v := 0) hx hb hr rfl (fun t ht hW => ⟨⟨_, (), rfl, eo, ht⟩, (va_S.rf (A := fun _ => False) (H0 := s.heap)).F ht⟩) (fun q hq => absurd hq List.not_mem_nil) dX4_isFar_21
    · rw [if_pos c2] at hsem
      refine lv_iconst (v := 1) hx hb dX4_isFar_16 (by decide) ?_
      refine lv_goto (tgt := 21) hx hb dX4_isFar_17 (by decide) ?_
      have eo := (Option.some.inj hsem).symm.symm
      exact W.zret (v := 1) hx hb hr rfl (fun t ht hW => ⟨⟨_, (), rfl, eo, ht⟩, (va_S.rf (A := fun _ => False) (H0 := s.heap)).F ht⟩) (fun q hq => absurd hq List.not_mem_nil) dX4_isFar_21
def sX4_isNearer (A : IA) (p0 : Int32) (p1 : Int32) : Option (Int32) :=
  ck p0 32 (ck p1 32 (if ((A 1) p0.toNatClampNeg) < ((A 1) p1.toNatClampNeg) then (some 1) else (ck p0 32 (ck p1 32 (if ((A 1) p0.toNatClampNeg) = ((A 1) p1.toNatClampNeg) then (if p1 ≤ p0 then (some 0) else (some 1)) else (some 0))))))
abbrev rmX4_isNearer : Room := { frames := 0, cells := 0, slots := 0, locals := 0 }
theorem hdX4_isNearer : yX4_isNearer.cls = RX4 ∧ yX4_isNearer.cls ≠ "java/lang/invoke/MethodHandle" ∧ yX4_isNearer.cls ≠ "java/lang/invoke/VarHandle" ∧ (parseMethodDescriptor yX4_isNearer.desc).map (fun d => d.parameters.length) = some 2 := by decide +kernel
set_option maxHeartbeats 4000000 in
set_option maxRecDepth 100000 in
theorem kX4_isNearer {l : Launch} {g : GG} {H0 : Heap} {ad : Nat → Nat} {A : IA} {p0 p1 : Int32} {b : Int32} (hP : va_P g.1 vwCl (wRe g ad A) H0) (hsem : sX4_isNearer A p0 p1 = some b) : MetP l yX4_isNearer wsX4_isNearer rmX4_isNearer g H0 [.ref (ad 0), .int p0, .int p1] b := by
  refine Met.ofW (cc := cX4_isNearer) (maxL := 3) (ret := (some .boolean)) (by decide) rfl ?_
  intro p e s m args below meth c s₁ B hml hv
  obtain ⟨rfl, hH, hKK⟩ := hv
  subst hH
  have hx := B.exec
  have hb := B.bytes
  have hr := B.returns
  have hts := atoms_spec (ws := wsX4_isNearer) B.pre
  have hown : s.vm.findClass RX4 = some m.cls := findClass_of_methodNamed B.named
  have hlocks := B.notSynchronized
  have hK := hKK.1
  have hl := lv_entry ([.ref (ad 0), .int p0, .int p1]) (n := 3) (Nat.le_of_ble_eq_true rfl)
  rw [lg_entry_eq]
  generalize (lg_sl ([.ref (ad 0), .int p0, .int p1]) ++ List.replicate (3 - (lg_sl ([.ref (ad 0), .int p0, .int p1])).length) Slot.unset).toArray = ls at hl ⊢
  have hl : lv_has ls 3 [(0, .ref (ad 0)), (1, .int p0), (2, .int p1)] := hl
  unfold sX4_isNearer at hsem
  refine lv_aload_n hx hb dX4_isNearer_0 rfl (lv_at hl 0 rfl) ?_
  refine va_get (D := g.1) (ci := 4) (v := .ref (ad 1)) (C := RX4) (T := TX4) (N := 3) hx hb hts (fun w h => List.mem_cons_of_mem _ (List.mem_append_right _ h)) hown hK hP 0 rfl rfl 1 (by decide) (hts (.fieldLink RX4 9 "PauseRegions$Reach" "far" "[I") (List.mem_of_getElem? (i := 1) rfl)) (fun _ h9 => h9) rfl dX4_isNearer_1 ?_
  refine lv_iload_n hx hb dX4_isNearer_4 rfl (lv_at hl 1 rfl) ?_
  obtain ⟨h1, hsem⟩ := ck_some hsem
  refine va_iald (D := g.1) hx hb hK hP 1 0 rfl rfl h1 dX4_isNearer_5 ?_
  refine lv_aload_n hx hb dX4_isNearer_6 rfl (lv_at hl 0 rfl) ?_
  refine va_get (D := g.1) (ci := 4) (v := .ref (ad 1)) (C := RX4) (T := TX4) (N := 3) hx hb hts (fun w h => List.mem_cons_of_mem _ (List.mem_append_right _ h)) hown hK hP 0 rfl rfl 1 (by decide) (hts (.fieldLink RX4 9 "PauseRegions$Reach" "far" "[I") (List.mem_of_getElem? (i := 1) rfl)) (fun _ h9 => h9) rfl dX4_isNearer_7 ?_
  refine lv_iload_n hx hb dX4_isNearer_10 rfl (lv_at hl 2 rfl) ?_
  obtain ⟨h2, hsem⟩ := ck_some hsem
  refine va_iald (D := g.1) hx hb hK hP 1 0 rfl rfl h2 dX4_isNearer_11 ?_
  refine lv_icmp_lt (tgt := 35) hx hb dX4_isNearer_12 (by decide) (fun c1 => ?_) (fun c1 => ?_)
  · rw [if_pos c1] at hsem
    refine lv_iconst (v := 1) hx hb dX4_isNearer_35 (by decide) ?_
    refine lv_goto (tgt := 40) hx hb dX4_isNearer_36 (by decide) ?_
    have eo := (Option.some.inj hsem).symm.symm
    exact W.zret (v := 1) hx hb hr rfl (fun t ht hW => ⟨⟨_, (), rfl, eo, ht⟩, (va_S.rf (A := fun _ => False) (H0 := s.heap)).F ht⟩) (fun q hq => absurd hq List.not_mem_nil) dX4_isNearer_40
  · rw [if_neg c1] at hsem
    refine lv_aload_n hx hb dX4_isNearer_15 rfl (lv_at hl 0 rfl) ?_
    refine va_get (D := g.1) (ci := 4) (v := .ref (ad 1)) (C := RX4) (T := TX4) (N := 3) hx hb hts (fun w h => List.mem_cons_of_mem _ (List.mem_append_right _ h)) hown hK hP 0 rfl rfl 1 (by decide) (hts (.fieldLink RX4 9 "PauseRegions$Reach" "far" "[I") (List.mem_of_getElem? (i := 1) rfl)) (fun _ h9 => h9) rfl dX4_isNearer_16 ?_
    refine lv_iload_n hx hb dX4_isNearer_19 rfl (lv_at hl 1 rfl) ?_
    obtain ⟨h3, hsem⟩ := ck_some hsem
    refine va_iald (D := g.1) hx hb hK hP 1 0 rfl rfl h3 dX4_isNearer_20 ?_
    refine lv_aload_n hx hb dX4_isNearer_21 rfl (lv_at hl 0 rfl) ?_
    refine va_get (D := g.1) (ci := 4) (v := .ref (ad 1)) (C := RX4) (T := TX4) (N := 3) hx hb hts (fun w h => List.mem_cons_of_mem _ (List.mem_append_right _ h)) hown hK hP 0 rfl rfl 1 (by decide) (hts (.fieldLink RX4 9 "PauseRegions$Reach" "far" "[I") (List.mem_of_getElem? (i := 1) rfl)) (fun _ h9 => h9) rfl dX4_isNearer_22 ?_
    refine lv_iload_n hx hb dX4_isNearer_25 rfl (lv_at hl 2 rfl) ?_
    obtain ⟨h4, hsem⟩ := ck_some hsem
    refine va_iald (D := g.1) hx hb hK hP 1 0 rfl rfl h4 dX4_isNearer_26 ?_
    refine lv_icmp_ne (tgt := 39) hx hb dX4_isNearer_27 (by decide) (fun c2 => ?_) (fun c2 => ?_)
    · rw [if_neg c2] at hsem
      refine lv_iconst (v := 0) hx hb dX4_isNearer_39 (by decide) ?_
      have eo := (Option.some.inj hsem).symm.symm
      exact W.zret (v := 0) hx hb hr rfl (fun t ht hW => ⟨⟨_, (), rfl, eo, ht⟩, (va_S.rf (A := fun _ => False) (H0 := s.heap)).F ht⟩) (fun q hq => absurd hq List.not_mem_nil) dX4_isNearer_40
    · rw [if_pos c2] at hsem
      refine lv_iload_n hx hb dX4_isNearer_30 rfl (lv_at hl 1 rfl) ?_
      refine lv_iload_n hx hb dX4_isNearer_31 rfl (lv_at hl 2 rfl) ?_
      refine lv_icmp_ge (tgt := 39) hx hb dX4_isNearer_32 (by decide) (fun c3 => ?_) (fun c3 => ?_)
      · rw [if_pos c3] at hsem
        refine lv_iconst (v := 0) hx hb dX4_isNearer_39 (by decide) ?_
        have eo := (Option.some.inj hsem).symm.symm
        exact W.zret (v := 0) hx hb hr rfl (fun t ht hW => ⟨⟨_, (), rfl, eo, ht⟩, (va_S.rf (A := fun _ => False) (H0 := s.heap)).F ht⟩) (fun q hq => absurd hq List.not_mem_nil) dX4_isNearer_40
      · rw [if_neg c3] at hsem
        refine lv_iconst (v := 1) hx hb dX4_isNearer_35 (by decide) ?_
        refine lv_goto (tgt := 40) hx hb dX4_isNearer_36 (by decide) ?_
        have eo := (Option.some.inj hsem).symm.symm
        exact W.zret (v := 1) hx hb hr rfl (fun t ht hW => ⟨⟨_, (), rfl, eo, ht⟩, (va_S.rf (A := fun _ => False) (H0 := s.heap)).F ht⟩) (fun q hq => absurd hq List.not_mem_nil) dX4_isNearer_40
def sX4_leadsTo (A : IA) (Ah : IA) (p1 : Int32) (p2 : Int32) : Option (Int32) :=
  (sX1_fieldOf Ah p1 0).bind fun x1 => (sX4_isFar A x1 p2).bind fun x2 => if x2 = 0 then ((sX1_fieldOf Ah p1 1).bind fun x3 => (sX4_isFar A x3 p2).bind fun x4 => if x4 = 0 then (some 0) else (some 1)) else (some 1)
abbrev rmX4_leadsTo : Room := { frames := 1, cells := 0, slots := 0, locals := 22 }
theorem hdX4_leadsTo : yX4_leadsTo.cls = RX4 ∧ yX4_leadsTo.cls ≠ "java/lang/invoke/MethodHandle" ∧ yX4_leadsTo.cls ≠ "java/lang/invoke/VarHandle" ∧ (parseMethodDescriptor yX4_leadsTo.desc).map (fun d => d.parameters.length) = some 3 := by decide +kernel
set_option maxHeartbeats 4000000 in
set_option maxRecDepth 100000 in
theorem kX4_leadsTo {l : Launch} {g : GG} {H0 : Heap} {ad : Nat → Nat} {A : IA} {adh : Nat → Nat} {Ah : IA} {Fh : FA} {p1 p2 : Int32} {b : Int32} (hP : va_P g.1 vwCl ((wRe g ad A) ++ (wH g adh Ah Fh)) H0) (hsem : sX4_leadsTo A Ah p1 p2 = some b) : MetP l yX4_leadsTo wsX4_leadsTo rmX4_leadsTo g H0 [.ref (ad 0), .ref (adh 0), .int p1, .int p2] b := by
  refine Met.ofW (cc := cX4_leadsTo) (maxL := 4) (ret := (some .boolean)) (by decide) rfl ?_
  intro p e s m args below meth c s₁ B hml hv
  obtain ⟨rfl, hH, hKK⟩ := hv
  subst hH
  have hx := B.exec
  have hb := B.bytes
  have hr := B.returns
  have hts := atoms_spec (ws := wsX4_leadsTo) B.pre
  have hown : s.vm.findClass RX4 = some m.cls := findClass_of_methodNamed B.named
  have hlocks := B.notSynchronized
  have hK := hKK.1
  have hl := lv_entry ([.ref (ad 0), .ref (adh 0), .int p1, .int p2]) (n := 4) (Nat.le_of_ble_eq_true rfl)
  rw [lg_entry_eq]
  generalize (lg_sl ([.ref (ad 0), .ref (adh 0), .int p1, .int p2]) ++ List.replicate (4 - (lg_sl ([.ref (ad 0), .ref (adh 0), .int p1, .int p2])).length) Slot.unset).toArray = ls at hl ⊢
  have hl : lv_has ls 4 [(0, .ref (ad 0)), (1, .ref (adh 0)), (2, .int p1), (3, .int p2)] := hl
  unfold sX4_leadsTo at hsem
  refine lv_aload_n hx hb dX4_leadsTo_0 rfl (lv_at hl 0 rfl) ?_
  refine lv_aload_n hx hb dX4_leadsTo_1 rfl (lv_at hl 1 rfl) ?_
  refine lv_iload_n hx hb dX4_leadsTo_2 rfl (lv_at hl 2 rfl) ?_
  refine lv_iconst (v := 0) hx hb dX4_leadsTo_3 (by decide) ?_
  obtain ⟨x1, hc1, hsem⟩ := bn_some hsem
  refine pcV (C := RX1) (As := [.int p1, .int 0]) (rest := [.ref (ad 0)]) ⟨hx, hb, hml, hown, hts⟩ hKK (cwV 2 hts gX4_leadsTo_X1_fieldOf rfl rfl rfl hdX1_fieldOf ⟨Nat.le_of_ble_eq_true rfl, Nat.le_of_ble_eq_true rfl⟩) (kX1_fieldOf (l := l) (g := g) (hP.sub (ws' := wH g adh Ah Fh) [4, 5, 6, 7, 8, 9, 10, 11, 12, 13, 14, 15, 16, 17, 18] rfl) hc1) (va_recv hK hP (ci := 1) (q0 := 4) rfl rfl) rfl hl.1 rfl (Nat.le_of_ble_eq_true rfl) dX4_leadsTo_4 ⟨Nat.zero_le _, Nat.zero_le _⟩ ?_
  refine lv_iload_n hx hb dX4_leadsTo_7 rfl (lv_at hl 3 rfl) ?_
  obtain ⟨x2, hc2, hsem⟩ := bn_some hsem
  refine pcV (C := RX4) (As := [.int x1, .int p2]) (rest := []) ⟨hx, hb, hml, hown, hts⟩ hKK (cwV 2 hts gX4_leadsTo_X4_isFar rfl rfl rfl hdX4_isFar ⟨Nat.le_of_ble_eq_true rfl, Nat.le_of_ble_eq_true rfl⟩) (kX4_isFar (l := l) (g := g) (hP.sub (ws' := wRe g ad A) [0, 1, 2, 3] rfl) hc2) (va_recv hK hP (ci := 4) (q0 := 0) rfl rfl) rfl hl.1 rfl (Nat.le_of_ble_eq_true rfl) dX4_leadsTo_8 ⟨Nat.zero_le _, Nat.zero_le _⟩ ?_
  refine lv_if_ne (tgt := 28) hx hb dX4_leadsTo_11 (by decide) (fun c1 => ?_) (fun c1 => ?_)
  · rw [if_neg c1] at hsem
    refine lv_iconst (v := 1) hx hb dX4_leadsTo_28 (by decide) ?_
    refine lv_goto (tgt := 33) hx hb dX4_leadsTo_29 (by decide) ?_
    have eo := (Option.some.inj hsem).symm.symm
    exact W.zret (v := 1) hx hb hr rfl (fun t ht hW => ⟨⟨_, (), rfl, eo, ht⟩, (va_S.rf (A := fun _ => False) (H0 := s.heap)).F ht⟩) (fun q hq => absurd hq List.not_mem_nil) dX4_leadsTo_33
  · rw [if_pos c1] at hsem
    refine lv_aload_n hx hb dX4_leadsTo_14 rfl (lv_at hl 0 rfl) ?_
    refine lv_aload_n hx hb dX4_leadsTo_15 rfl (lv_at hl 1 rfl) ?_
    refine lv_iload_n hx hb dX4_leadsTo_16 rfl (lv_at hl 2 rfl) ?_
    refine lv_iconst (v := 1) hx hb dX4_leadsTo_17 (by decide) ?_
    obtain ⟨x3, hc3, hsem⟩ := bn_some hsem
    refine pcV (C := RX1) (As := [.int p1, .int 1]) (rest := [.ref (ad 0)]) ⟨hx, hb, hml, hown, hts⟩ hKK (cwV 2 hts gX4_leadsTo_X1_fieldOf rfl rfl rfl hdX1_fieldOf ⟨Nat.le_of_ble_eq_true rfl, Nat.le_of_ble_eq_true rfl⟩) (kX1_fieldOf (l := l) (g := g) (hP.sub (ws' := wH g adh Ah Fh) [4, 5, 6, 7, 8, 9, 10, 11, 12, 13, 14, 15, 16, 17, 18] rfl) hc3) (va_recv hK hP (ci := 1) (q0 := 4) rfl rfl) rfl hl.1 rfl (Nat.le_of_ble_eq_true rfl) dX4_leadsTo_18 ⟨Nat.zero_le _, Nat.zero_le _⟩ ?_
    refine lv_iload_n hx hb dX4_leadsTo_21 rfl (lv_at hl 3 rfl) ?_
    obtain ⟨x4, hc4, hsem⟩ := bn_some hsem
    refine pcV (C := RX4) (As := [.int x3, .int p2]) (rest := []) ⟨hx, hb, hml, hown, hts⟩ hKK (cwV 2 hts gX4_leadsTo_X4_isFar rfl rfl rfl hdX4_isFar ⟨Nat.le_of_ble_eq_true rfl, Nat.le_of_ble_eq_true rfl⟩) (kX4_isFar (l := l) (g := g) (hP.sub (ws' := wRe g ad A) [0, 1, 2, 3] rfl) hc4) (va_recv hK hP (ci := 4) (q0 := 0) rfl rfl) rfl hl.1 rfl (Nat.le_of_ble_eq_true rfl) dX4_leadsTo_22 ⟨Nat.zero_le _, Nat.zero_le _⟩ ?_
    refine lv_if_eq (tgt := 32) hx hb dX4_leadsTo_25 (by decide) (fun c2 => ?_) (fun c2 => ?_)
    · rw [if_pos c2] at hsem
      refine lv_iconst (v := 0) hx hb dX4_leadsTo_32 (by decide) ?_
      have eo := (Option.some.inj hsem).symm.symm
      exact W.zret (v := 0) hx hb hr rfl (fun t ht hW => ⟨⟨_, (), rfl, eo, ht⟩, (va_S.rf (A := fun _ => False) (H0 := s.heap)).F ht⟩) (fun q hq => absurd hq List.not_mem_nil) dX4_leadsTo_33
    · rw [if_neg c2] at hsem
      refine lv_iconst (v := 1) hx hb dX4_leadsTo_28 (by decide) ?_
      refine lv_goto (tgt := 33) hx hb dX4_leadsTo_29 (by decide) ?_
      have eo := (Option.some.inj hsem).symm.symm
      exact W.zret (v := 1) hx hb hr rfl (fun t ht hW => ⟨⟨_, (), rfl, eo, ht⟩, (va_S.rf (A := fun _ => False) (H0 := s.heap)).F ht⟩) (fun q hq => absurd hq List.not_mem_nil) dX4_leadsTo_33
def sX4_measureTo_L36 (Ah : IA) (q1 : Int32 × Int32 × IA) (q2 : Int32 × Int32 × IA) : Option ((Int32 × Int32 × IA) ⊕ (Int32 × IA)) :=
  if 32 ≤ q2.2.1 then (some (.inr (q2.1, q2.2.2))) else ((sX1_isThere Ah q2.2.1).bind fun x1 => if x1 = 0 then (some (.inl (q2.1, q2.2.1 + 1, q2.2.2))) else (ck q2.2.1 32 (if ((q2.2.2 1) q2.2.1.toNatClampNeg) = 0 then ((sX4_leadsTo q2.2.2 Ah q2.2.1 q1.2.1).bind fun x2 => if x2 = 0 then (some (.inl (q2.1, q2.2.1 + 1, q2.2.2))) else (ck q2.2.1 32 (bd (wr q2.2.2 1 q2.2.1.toNatClampNeg (q1.2.1 + 1)) fun A3 => some (.inl (1, q2.2.1 + 1, A3))))) else (some (.inl (q2.1, q2.2.1 + 1, q2.2.2))))))
def sX4_measureTo_L20 (Ah : IA) (q1 : Int32 × Int32 × IA) : Option ((Int32 × Int32 × IA) ⊕ (IA)) :=
  if 32 ≤ q1.2.1 then (some (.inr q1.2.2)) else (if q1.1 = 0 then (some (.inr q1.2.2)) else ((loopN (sX4_measureTo_L36 Ah q1) 2000 (0, 0, q1.2.2)).bind fun q3 => some (.inl (q3.1, q1.2.1 + 1, q3.2))))
def sX4_measureTo (A : IA) (Ah : IA) (p1 : Int32) : Option (IA) :=
  (sJ7_fill_53178 32 (A 1) 0).bind fun z1 => bd (setR A 1 z1) fun A1 => ck p1 32 (bd (wr A1 1 p1.toNatClampNeg 1) fun A2 => (loopN (sX4_measureTo_L20 Ah) 2000 (1, 1, A2)).bind fun q4 => some q4)
abbrev rmX4_measureTo : Room := { frames := 2, cells := 0, slots := 0, locals := 45 }
theorem hdX4_measureTo : yX4_measureTo.cls = RX4 ∧ yX4_measureTo.cls ≠ "java/lang/invoke/MethodHandle" ∧ yX4_measureTo.cls ≠ "java/lang/invoke/VarHandle" ∧ (parseMethodDescriptor yX4_measureTo.desc).map (fun d => d.parameters.length) = some 2 := by decide +kernel
set_option maxHeartbeats 4000000 in
set_option maxRecDepth 100000 in
theorem kX4_measureTo {l : Launch} {g : GG} {sz : Nat} {ad : Nat → Nat} {A : IA} {adh : Nat → Nat} {Ah : IA} {Fh : FA} {p1 : Int32} {b : IA} (hsem : sX4_measureTo A Ah p1 = some b) : MetV l yX4_measureTo wsX4_measureTo rmX4_measureTo g [.ref (ad 0), .ref (adh 0), .int p1] ((wRe g ad A) ++ (wH g adh Ah Fh)) sz ((wRe g ad b) ++ (wH g adh Ah Fh)) := by
  refine Met.ofW (cc := cX4_measureTo) (maxL := 6) (ret := none) (by decide) rfl ?_
  intro p e s m args below meth c s₁ B hml hv
  obtain ⟨rfl, hsz, hP, hD0, hKK⟩ := hv
  subst hsz
  have hx := B.exec
  have hb := B.bytes
  have hr := B.returns
  have hts := atoms_spec (ws := wsX4_measureTo) B.pre
  have hown : s.vm.findClass RX4 = some m.cls := findClass_of_methodNamed B.named
  have hlocks := B.notSynchronized
  have hK := hKK.1
  have hD := hD0.self (sz := s.heap.size)
  generalize hZe : va_A ((wRe g ad A) ++ (wH g adh Ah Fh)) s.heap.size = Z at hD ⊢
  have hZ : ∀ q : Nat, s.heap.size ≤ q → Z q := fun q h => by rw [← hZe]; exact Or.inr h
  have hS : va_S Z s.heap s.heap [] := va_S.rf
  have hP : va_P g.1 vwCl ((wRe g ad A) ++ (wH g adh Ah Fh)) s.heap := hP
  have hD : va_D Z ((wRe g ad A) ++ (wH g adh Ah Fh)) := hD
  have hl := lv_entry ([.ref (ad 0), .ref (adh 0), .int p1]) (n := 6) (Nat.le_of_ble_eq_true rfl)
  rw [lg_entry_eq]
  generalize (lg_sl ([.ref (ad 0), .ref (adh 0), .int p1]) ++ List.replicate (6 - (lg_sl ([.ref (ad 0), .ref (adh 0), .int p1])).length) Slot.unset).toArray = ls at hl ⊢
  have hl : lv_has ls 6 [(0, .ref (ad 0)), (1, .ref (adh 0)), (2, .int p1)] := hl
  unfold sX4_measureTo at hsem
  refine lv_aload_n hx hb dX4_measureTo_0 rfl (lv_at hl 0 rfl) ?_
  refine va_get (D := g.1) (ci := 4) (v := .ref (ad 1)) (C := RX4) (T := TX4) (N := 3) hx hb hts (fun w h => List.mem_cons_of_mem _ (List.mem_append_left _ (List.mem_append_right _ h))) hown hK hP 0 rfl rfl 1 (by decide) (hts (.fieldLink RX4 9 "PauseRegions$Reach" "far" "[I") (List.mem_of_getElem? (i := 1) rfl)) (fun _ h9 => h9) rfl dX4_measureTo_1 ?_
  refine lv_iconst (v := 0) hx hb dX4_measureTo_4 (by decide) ?_
  obtain ⟨z1, hc1, hsem⟩ := bn_some hsem
  refine mcSs (As := [.ref (ad 1), .int 0]) (rest := []) (wr := (wRe_1 g ad A) ++ (wH g adh Ah Fh)) ⟨hx, hb, hml, hown, hts⟩ hKK hP hD hS hZ [1] [0, 2, 3, 4, 5, 6, 7, 8, 9, 10, 11, 12, 13, 14, 15, 16, 17, 18] rfl rfl (by decide) (by decide) (by decide) (va_cwS 2 hts gX4_measureTo_J7_fill_53178 rfl rfl rfl hdJ7_fill_53178 ⟨Nat.le_of_ble_eq_true rfl, Nat.le_of_ble_eq_true rfl⟩) (kJ7_fill_53178 (l := l) (g := g) (a0 := (ad 1)) (z := 32) (f := (A 1)) hc1) rfl hl.1 rfl (Nat.le_of_ble_eq_true rfl) dX4_measureTo_5 ⟨Nat.zero_le _, Nat.zero_le _⟩ (fun H locs hP hD hS => ?_)
  obtain ⟨A1, eA1, hsem⟩ := bd_some hsem
  have hP : va_P g.1 vwCl ((wRe g ad A1) ++ (wH g adh Ah Fh)) H := by rw [eA1]; exact hP.sub [0, 18, 1, 2, 3, 4, 5, 6, 7, 8, 9, 10, 11, 12, 13, 14, 15, 16, 17] rfl
  have hD : va_D Z ((wRe g ad A1) ++ (wH g adh Ah Fh)) := by rw [eA1]; exact hD.sub [0, 18, 1, 2, 3, 4, 5, 6, 7, 8, 9, 10, 11, 12, 13, 14, 15, 16, 17] (by decide) rfl
  refine lv_aload_n hx hb dX4_measureTo_8 rfl (lv_at hl 0 rfl) ?_
  refine va_get (D := g.1) (ci := 4) (v := .ref (ad 1)) (C := RX4) (T := TX4) (N := 3) hx hb hts (fun w h => List.mem_cons_of_mem _ (List.mem_append_left _ (List.mem_append_right _ h))) hown hK hP 0 rfl rfl 1 (by decide) (hts (.fieldLink RX4 9 "PauseRegions$Reach" "far" "[I") (List.mem_of_getElem? (i := 1) rfl)) (fun _ h9 => h9) rfl dX4_measureTo_9 ?_
  refine lv_iload_n hx hb dX4_measureTo_12 rfl (lv_at hl 2 rfl) ?_
  refine lv_iconst (v := 1) hx hb dX4_measureTo_13 (by decide) ?_
  obtain ⟨h1, hsem⟩ := ck_some hsem
  refine va_iast (D := g.1) hx hb hK hP hD hS 1 0 rfl rfl h1 dX4_measureTo_14 (fun H locs hP hD hS => ?_)
  obtain ⟨A2, eA2, hsem⟩ := bd_some hsem
  have hP : va_P g.1 vwCl ((wRe g ad A2) ++ (wH g adh Ah Fh)) H := by rw [eA2]; exact hP
  have hD : va_D Z ((wRe g ad A2) ++ (wH g adh Ah Fh)) := by rw [eA2]; exact hD
  refine lv_iconst (v := 1) hx hb dX4_measureTo_15 (by decide) ?_
  refine lv_istore_n (lv' := [(3, .int 1), (0, .ref (ad 0)), (1, .ref (adh 0)), (2, .int p1)]) hx hb dX4_measureTo_16 rfl hl (by decide) rfl (fun ls hl => ?_)
  refine lv_iconst (v := 1) hx hb dX4_measureTo_17 (by decide) ?_
  refine lv_istore (lv' := [(4, .int 1), (3, .int 1), (0, .ref (ad 0)), (1, .ref (adh 0)), (2, .int p1)]) hx hb dX4_measureTo_18 hl (by decide) rfl (fun ls hl => ?_)
  obtain ⟨q4, hc5, hsem⟩ := bn_some hsem
  refine loopM (g := g) hc5 (fun (q1 : Int32 × Int32 × IA) => [(4, .int q1.2.1), (3, .int q1.1), (0, .ref (ad 0)), (1, .ref (adh 0))]) (fun (q1 : IA) => []) (exit := 99) (fun (q1 : Int32 × Int32 × IA) => (wRe g ad q1.2.2) ++ (wH g adh Ah Fh)) (fun (q1 : IA) => (wRe g ad q1) ++ (wH g adh Ah Fh)) hP hD hS (lv_sub hl [0, 1, 2, 3] rfl) (fun H locs ls hP hD hS hl => ?_) (fun q1 r hst1 hin1 hout1 H locs ls hP hD hS hl => ?_)
  · have hP : va_P g.1 vwCl ((wRe g ad q4) ++ (wH g adh Ah Fh)) H := hP
    have hD : va_D Z ((wRe g ad q4) ++ (wH g adh Ah Fh)) := hD
    have eo := (Option.some.inj hsem).symm.symm
    subst eo
    exact W.vret hx hb hr (fun t ht hW => ⟨⟨(), rfl, trivial, ⟨by rw [ht]; exact hP, hD⟩⟩, hS.F ht⟩) hS.2.2 dX4_measureTo_99
  · unfold sX4_measureTo_L20 at hst1
    have hP : va_P g.1 vwCl ((wRe g ad q1.2.2) ++ (wH g adh Ah Fh)) H := hP
    have hD : va_D Z ((wRe g ad q1.2.2) ++ (wH g adh Ah Fh)) := hD
    refine lv_iload hx hb dX4_measureTo_20 (lv_at hl 0 rfl) ?_
    refine lv_bipush (v := 32) hx hb dX4_measureTo_22 (by decide) ?_
    refine lv_icmp_ge (tgt := 99) hx hb dX4_measureTo_24 (by decide) (fun c1 => ?_) (fun c1 => ?_)
    · rw [if_pos c1] at hst1
      exact hout1 H locs ls _ (Option.some.inj hst1).symm hP hD hS (lv_sub hl [] rfl)
    · rw [if_neg c1] at hst1
      refine lv_iload_n hx hb dX4_measureTo_27 rfl (lv_at hl 1 rfl) ?_
      refine lv_if_eq (tgt := 99) hx hb dX4_measureTo_28 (by decide) (fun c2 => ?_) (fun c2 => ?_)
      · rw [if_pos c2] at hst1
        exact hout1 H locs ls _ (Option.some.inj hst1).symm hP hD hS (lv_sub hl [] rfl)
      · rw [if_neg c2] at hst1
        refine lv_iconst (v := 0) hx hb dX4_measureTo_31 (by decide) ?_
        refine lv_istore_n (lv' := [(3, .int 0), (4, .int q1.2.1), (0, .ref (ad 0)), (1, .ref (adh 0))]) hx hb dX4_measureTo_32 rfl hl (by decide) rfl (fun ls hl => ?_)
        refine lv_iconst (v := 0) hx hb dX4_measureTo_33 (by decide) ?_
        refine lv_istore (lv' := [(5, .int 0), (3, .int 0), (4, .int q1.2.1), (0, .ref (ad 0)), (1, .ref (adh 0))]) hx hb dX4_measureTo_34 hl (by decide) rfl (fun ls hl => ?_)
        obtain ⟨q3, hc4, hst1⟩ := bn_some hst1
        refine loopM (g := g) hc4 (fun (q2 : Int32 × Int32 × IA) => [(5, .int q2.2.1), (3, .int q2.1), (4, .int q1.2.1), (0, .ref (ad 0)), (1, .ref (adh 0))]) (fun (q2 : Int32 × IA) => [(3, .int q2.1), (4, .int q1.2.1), (0, .ref (ad 0)), (1, .ref (adh 0))]) (exit := 93) (fun (q2 : Int32 × Int32 × IA) => (wRe g ad q2.2.2) ++ (wH g adh Ah Fh)) (fun (q2 : Int32 × IA) => (wRe g ad q2.2) ++ (wH g adh Ah Fh)) hP hD hS (lv_sub hl [0, 1, 2, 3, 4] rfl) (fun H locs ls hP hD hS hl => ?_) (fun q2 r hst2 hin2 hout2 H locs ls hP hD hS hl => ?_)
        · have hP : va_P g.1 vwCl ((wRe g ad q3.2) ++ (wH g adh Ah Fh)) H := hP
          have hD : va_D Z ((wRe g ad q3.2) ++ (wH g adh Ah Fh)) := hD
          refine lv_iinc (v := q1.2.1 + 1) (lv' := [(4, .int (q1.2.1 + 1)), (3, .int q3.1), (0, .ref (ad 0)), (1, .ref (adh 0))]) hx hb dX4_measureTo_93 hl (k := 1) rfl rfl (by decide) rfl (fun ls hl => ?_)
          refine lv_goto (tgt := 20) hx hb dX4_measureTo_96 (by decide) ?_
          exact hin1 H locs ls _ (Option.some.inj hst1).symm hP hD hS (lv_sub hl [0, 1, 2, 3] rfl)
        · unfold sX4_measureTo_L36 at hst2
          have hP : va_P g.1 vwCl ((wRe g ad q2.2.2) ++ (wH g adh Ah Fh)) H := hP
          have hD : va_D Z ((wRe g ad q2.2.2) ++ (wH g adh Ah Fh)) := hD
          refine lv_iload hx hb dX4_measureTo_36 (lv_at hl 0 rfl) ?_
          refine lv_bipush (v := 32) hx hb dX4_measureTo_38 (by decide) ?_
          refine lv_icmp_ge (tgt := 93) hx hb dX4_measureTo_40 (by decide) (fun c3 => ?_) (fun c3 => ?_)
          · rw [if_pos c3] at hst2
            exact hout2 H locs ls _ (Option.some.inj hst2).symm hP hD hS (lv_sub hl [1, 2, 3, 4] rfl)
          · rw [if_neg c3] at hst2
            refine lv_aload_n hx hb dX4_measureTo_43 rfl (lv_at hl 4 rfl) ?_
            refine lv_iload hx hb dX4_measureTo_44 (lv_at hl 0 rfl) ?_
            obtain ⟨x1, hc2, hst2⟩ := bn_some hst2
            refine pcV (C := RX1) (As := [.int q2.2.1]) (rest := []) ⟨hx, hb, hml, hown, hts⟩ hKK (cwV 1 hts gX4_measureTo_X1_isThere rfl rfl rfl hdX1_isThere ⟨Nat.le_of_ble_eq_true rfl, Nat.le_of_ble_eq_true rfl⟩) (kX1_isThere (l := l) (g := g) (hP.sub (ws' := wH g adh Ah Fh) [4, 5, 6, 7, 8, 9, 10, 11, 12, 13, 14, 15, 16, 17, 18] rfl) hc2) (va_recv hK hP (ci := 1) (q0 := 4) rfl rfl) rfl hl.1 rfl (Nat.le_of_ble_eq_true rfl) dX4_measureTo_46 ⟨Nat.zero_le _, Nat.zero_le _⟩ ?_
            refine lv_if_eq (tgt := 87) hx hb dX4_measureTo_49 (by decide) (fun c4 => ?_) (fun c4 => ?_)
            · rw [if_pos c4] at hst2
              refine lv_iinc (v := q2.2.1 + 1) (lv' := [(5, .int (q2.2.1 + 1)), (3, .int q2.1), (4, .int q1.2.1), (0, .ref (ad 0)), (1, .ref (adh 0))]) hx hb dX4_measureTo_87 hl (k := 0) rfl rfl (by decide) rfl (fun ls hl => ?_)
              refine lv_goto (tgt := 36) hx hb dX4_measureTo_90 (by decide) ?_
              exact hin2 H locs ls _ (Option.some.inj hst2).symm hP hD hS (lv_sub hl [0, 1, 2, 3, 4] rfl)
            · rw [if_neg c4] at hst2
              refine lv_aload_n hx hb dX4_measureTo_52 rfl (lv_at hl 3 rfl) ?_
              refine va_get (D := g.1) (ci := 4) (v := .ref (ad 1)) (C := RX4) (T := TX4) (N := 3) hx hb hts (fun w h => List.mem_cons_of_mem _ (List.mem_append_left _ (List.mem_append_right _ h))) hown hK hP 0 rfl rfl 1 (by decide) (hts (.fieldLink RX4 9 "PauseRegions$Reach" "far" "[I") (List.mem_of_getElem? (i := 1) rfl)) (fun _ h9 => h9) rfl dX4_measureTo_53 ?_
              refine lv_iload hx hb dX4_measureTo_56 (lv_at hl 0 rfl) ?_
              obtain ⟨h2, hst2⟩ := ck_some hst2
              refine va_iald (D := g.1) hx hb hK hP 1 0 rfl rfl h2 dX4_measureTo_58 ?_
              refine lv_if_ne (tgt := 87) hx hb dX4_measureTo_59 (by decide) (fun c5 => ?_) (fun c5 => ?_)
              · rw [if_neg c5] at hst2
                refine lv_iinc (v := q2.2.1 + 1) (lv' := [(5, .int (q2.2.1 + 1)), (3, .int q2.1), (4, .int q1.2.1), (0, .ref (ad 0)), (1, .ref (adh 0))]) hx hb dX4_measureTo_87 hl (k := 0) rfl rfl (by decide) rfl (fun ls hl => ?_)
                refine lv_goto (tgt := 36) hx hb dX4_measureTo_90 (by decide) ?_
                exact hin2 H locs ls _ (Option.some.inj hst2).symm hP hD hS (lv_sub hl [0, 1, 2, 3, 4] rfl)
              · rw [if_pos c5] at hst2
                refine lv_aload_n hx hb dX4_measureTo_62 rfl (lv_at hl 3 rfl) ?_
                refine lv_aload_n hx hb dX4_measureTo_63 rfl (lv_at hl 4 rfl) ?_
                refine lv_iload hx hb dX4_measureTo_64 (lv_at hl 0 rfl) ?_
                refine lv_iload hx hb dX4_measureTo_66 (lv_at hl 2 rfl) ?_
                obtain ⟨x2, hc3, hst2⟩ := bn_some hst2
                refine pcV (C := RX4) (As := [.ref (adh 0), .int q2.2.1, .int q1.2.1]) (rest := []) ⟨hx, hb, hml, hown, hts⟩ hKK (cwV 3 hts gX4_measureTo_X4_leadsTo rfl rfl rfl hdX4_leadsTo ⟨Nat.le_of_ble_eq_true rfl, Nat.le_of_ble_eq_true rfl⟩) (kX4_leadsTo (l := l) (g := g) hP hc3) (va_recv hK hP (ci := 4) (q0 := 0) rfl rfl) rfl hl.1 rfl (Nat.le_of_ble_eq_true rfl) dX4_measureTo_68 ⟨Nat.zero_le _, Nat.zero_le _⟩ ?_
                refine lv_if_eq (tgt := 87) hx hb dX4_measureTo_71 (by decide) (fun c6 => ?_) (fun c6 => ?_)
                · rw [if_pos c6] at hst2
                  refine lv_iinc (v := q2.2.1 + 1) (lv' := [(5, .int (q2.2.1 + 1)), (3, .int q2.1), (4, .int q1.2.1), (0, .ref (ad 0)), (1, .ref (adh 0))]) hx hb dX4_measureTo_87 hl (k := 0) rfl rfl (by decide) rfl (fun ls hl => ?_)
                  refine lv_goto (tgt := 36) hx hb dX4_measureTo_90 (by decide) ?_
                  exact hin2 H locs ls _ (Option.some.inj hst2).symm hP hD hS (lv_sub hl [0, 1, 2, 3, 4] rfl)
                · rw [if_neg c6] at hst2
                  refine lv_aload_n hx hb dX4_measureTo_74 rfl (lv_at hl 3 rfl) ?_
                  refine va_get (D := g.1) (ci := 4) (v := .ref (ad 1)) (C := RX4) (T := TX4) (N := 3) hx hb hts (fun w h => List.mem_cons_of_mem _ (List.mem_append_left _ (List.mem_append_right _ h))) hown hK hP 0 rfl rfl 1 (by decide) (hts (.fieldLink RX4 9 "PauseRegions$Reach" "far" "[I") (List.mem_of_getElem? (i := 1) rfl)) (fun _ h9 => h9) rfl dX4_measureTo_75 ?_
                  refine lv_iload hx hb dX4_measureTo_78 (lv_at hl 0 rfl) ?_
                  refine lv_iload hx hb dX4_measureTo_80 (lv_at hl 2 rfl) ?_
                  refine lv_iconst (v := 1) hx hb dX4_measureTo_82 (by decide) ?_
                  refine lv_iadd hx hb dX4_measureTo_83 ?_
                  obtain ⟨h3, hst2⟩ := ck_some hst2
                  refine va_iast (D := g.1) hx hb hK hP hD hS 1 0 rfl rfl h3 dX4_measureTo_84 (fun H locs hP hD hS => ?_)
                  obtain ⟨A3, eA3, hst2⟩ := bd_some hst2
                  have hP : va_P g.1 vwCl ((wRe g ad A3) ++ (wH g adh Ah Fh)) H := by rw [eA3]; exact hP
                  have hD : va_D Z ((wRe g ad A3) ++ (wH g adh Ah Fh)) := by rw [eA3]; exact hD
                  refine lv_iconst (v := 1) hx hb dX4_measureTo_85 (by decide) ?_
                  refine lv_istore_n (lv' := [(3, .int 1), (5, .int q2.2.1), (4, .int q1.2.1), (0, .ref (ad 0)), (1, .ref (adh 0))]) hx hb dX4_measureTo_86 rfl hl (by decide) rfl (fun ls hl => ?_)
                  refine lv_iinc (v := q2.2.1 + 1) (lv' := [(5, .int (q2.2.1 + 1)), (3, .int 1), (4, .int q1.2.1), (0, .ref (ad 0)), (1, .ref (adh 0))]) hx hb dX4_measureTo_87 hl (k := 1) rfl rfl (by decide) rfl (fun ls hl => ?_)
                  refine lv_goto (tgt := 36) hx hb dX4_measureTo_90 (by decide) ?_
                  exact hin2 H locs ls _ (Option.some.inj hst2).symm hP hD hS (lv_sub hl [0, 1, 2, 3, 4] rfl)
def sX4_nearestRoot_L5 (A : IA) (Ah : IA) (q1 : Int32 × Int32) : Option ((Int32 × Int32) ⊕ (Int32)) :=
  if 6 ≤ q1.2 then (some (.inr q1.1)) else (ck q1.2 6 (bd ((Ah 9) q1.2.toNatClampNeg) fun x1 => if x1 = (-5) then (some (.inl (q1.1, q1.2 + 1))) else (ck x1 32 (if ((A 1) x1.toNatClampNeg) ≤ 0 then (some (.inl (q1.1, q1.2 + 1))) else (if q1.1 = (-9) then (some (.inl (x1, q1.2 + 1))) else ((sX4_isNearer A x1 q1.1).bind fun x2 => if x2 = 0 then (some (.inl (q1.1, q1.2 + 1))) else (some (.inl (x1, q1.2 + 1)))))))))
def sX4_nearestRoot (A : IA) (Ah : IA) : Option (Int32) :=
  (loopN (sX4_nearestRoot_L5 A Ah) 2000 (((-9), 0))).bind fun q2 => some q2
abbrev rmX4_nearestRoot : Room := { frames := 1, cells := 0, slots := 0, locals := 22 }
theorem hdX4_nearestRoot : yX4_nearestRoot.cls = RX4 ∧ yX4_nearestRoot.cls ≠ "java/lang/invoke/MethodHandle" ∧ yX4_nearestRoot.cls ≠ "java/lang/invoke/VarHandle" ∧ (parseMethodDescriptor yX4_nearestRoot.desc).map (fun d => d.parameters.length) = some 1 := by decide +kernel
set_option maxHeartbeats 4000000 in
set_option maxRecDepth 100000 in
theorem kX4_nearestRoot {l : Launch} {g : GG} {H0 : Heap} {ad : Nat → Nat} {A : IA} {adh : Nat → Nat} {Ah : IA} {Fh : FA} {b : Int32} (hP : va_P g.1 vwCl ((wRe g ad A) ++ (wH g adh Ah Fh)) H0) (hsem : sX4_nearestRoot A Ah = some b) : MetP l yX4_nearestRoot wsX4_nearestRoot rmX4_nearestRoot g H0 [.ref (ad 0), .ref (adh 0)] b := by
  refine Met.ofW (cc := cX4_nearestRoot) (maxL := 5) (ret := (some .int)) (by decide) rfl ?_
  intro p e s m args below meth c s₁ B hml hv
  obtain ⟨rfl, hH, hKK⟩ := hv
  subst hH
  have hx := B.exec
  have hb := B.bytes
  have hr := B.returns
  have hts := atoms_spec (ws := wsX4_nearestRoot) B.pre
  have hown : s.vm.findClass RX4 = some m.cls := findClass_of_methodNamed B.named
  have hlocks := B.notSynchronized
  have hK := hKK.1
  have hl := lv_entry ([.ref (ad 0), .ref (adh 0)]) (n := 5) (Nat.le_of_ble_eq_true rfl)
  rw [lg_entry_eq]
  generalize (lg_sl ([.ref (ad 0), .ref (adh 0)]) ++ List.replicate (5 - (lg_sl ([.ref (ad 0), .ref (adh 0)])).length) Slot.unset).toArray = ls at hl ⊢
  have hl : lv_has ls 5 [(0, .ref (ad 0)), (1, .ref (adh 0))] := hl
  unfold sX4_nearestRoot at hsem
  refine lv_bipush (v := (-9)) hx hb dX4_nearestRoot_0 (by decide) ?_
  refine lv_istore_n (lv' := [(2, .int (-9)), (0, .ref (ad 0)), (1, .ref (adh 0))]) hx hb dX4_nearestRoot_2 rfl hl (by decide) rfl (fun ls hl => ?_)
  refine lv_iconst (v := 0) hx hb dX4_nearestRoot_3 (by decide) ?_
  refine lv_istore_n (lv' := [(3, .int 0), (2, .int (-9)), (0, .ref (ad 0)), (1, .ref (adh 0))]) hx hb dX4_nearestRoot_4 rfl hl (by decide) rfl (fun ls hl => ?_)
  obtain ⟨q2, hc2, hsem⟩ := bn_some hsem
  refine loopP hc2 (fun (q1 : Int32 × Int32) => [(3, .int q1.2), (2, .int q1.1), (0, .ref (ad 0)), (1, .ref (adh 0))]) (fun (q1 : Int32) => [(2, .int q1)]) (exit := 61) (lv_sub hl [0, 1, 2, 3] rfl) (fun ls hl => ?_) (fun q1 r hst1 hin1 hout1 ls hl => ?_)
  · skip
    refine lv_iload_n hx hb dX4_nearestRoot_61 rfl (lv_at hl 0 rfl) ?_
    have eo := (Option.some.inj hsem).symm.symm
    exact W.iret (v := q2) hx hb hr (fun t ht hW => ⟨⟨_, (), rfl, eo, ht⟩, (va_S.rf (A := fun _ => False) (H0 := s.heap)).F ht⟩) (fun q hq => absurd hq List.not_mem_nil) dX4_nearestRoot_62
  · unfold sX4_nearestRoot_L5 at hst1
    refine lv_iload_n hx hb dX4_nearestRoot_5 rfl (lv_at hl 0 rfl) ?_
    refine lv_bipush (v := 6) hx hb dX4_nearestRoot_6 (by decide) ?_
    refine lv_icmp_ge (tgt := 61) hx hb dX4_nearestRoot_8 (by decide) (fun c1 => ?_) (fun c1 => ?_)
    · rw [if_pos c1] at hst1
      exact hout1 ls _ (Option.some.inj hst1).symm (lv_sub hl [1] rfl)
    · rw [if_neg c1] at hst1
      refine lv_aload_n hx hb dX4_nearestRoot_11 rfl (lv_at hl 3 rfl) ?_
      refine va_get (D := g.1) (ci := 1) (v := .ref (adh 10)) (C := RX1) (T := TX1) (N := 18) hx hb hts (fun w h => List.mem_cons_of_mem _ (List.mem_append_left _ (List.mem_append_right _ h))) hown hK hP 4 rfl rfl 9 (by decide) (hts (.fieldLink RX4 29 "PauseRegions$Heap" "roots" "[I") (List.mem_of_getElem? (i := 1) rfl)) (fun _ h9 => h9) rfl dX4_nearestRoot_12 ?_
      refine lv_iload_n hx hb dX4_nearestRoot_15 rfl (lv_at hl 0 rfl) ?_
      obtain ⟨h1, hst1⟩ := ck_some hst1
      refine va_iald (D := g.1) hx hb hK hP 14 0 rfl rfl h1 dX4_nearestRoot_16 ?_
      obtain ⟨x1, ex1, hst1⟩ := bd_some hst1
      rw [← ex1]
      refine lv_istore (lv' := [(4, .int x1), (3, .int q1.2), (2, .int q1.1), (0, .ref (ad 0)), (1, .ref (adh 0))]) hx hb dX4_nearestRoot_17 hl (by decide) rfl (fun ls hl => ?_)
      refine lv_iload hx hb dX4_nearestRoot_19 (lv_at hl 0 rfl) ?_
      refine lv_bipush (v := (-5)) hx hb dX4_nearestRoot_21 (by decide) ?_
      refine lv_icmp_eq (tgt := 55) hx hb dX4_nearestRoot_23 (by decide) (fun c2 => ?_) (fun c2 => ?_)
      · rw [if_pos c2] at hst1
        refine lv_iinc (v := q1.2 + 1) (lv' := [(3, .int (q1.2 + 1)), (4, .int x1), (2, .int q1.1), (0, .ref (ad 0)), (1, .ref (adh 0))]) hx hb dX4_nearestRoot_55 hl (k := 1) rfl rfl (by decide) rfl (fun ls hl => ?_)
        refine lv_goto (tgt := 5) hx hb dX4_nearestRoot_58 (by decide) ?_
        exact hin1 ls _ (Option.some.inj hst1).symm (lv_sub hl [0, 2, 3, 4] rfl)
      · rw [if_neg c2] at hst1
        refine lv_aload_n hx hb dX4_nearestRoot_26 rfl (lv_at hl 3 rfl) ?_
        refine va_get (D := g.1) (ci := 4) (v := .ref (ad 1)) (C := RX4) (T := TX4) (N := 3) hx hb hts (fun w h => List.mem_cons_of_mem _ (List.mem_append_right _ h)) hown hK hP 0 rfl rfl 1 (by decide) (hts (.fieldLink RX4 9 "PauseRegions$Reach" "far" "[I") (List.mem_of_getElem? (i := 2) rfl)) (fun _ h9 => h9) rfl dX4_nearestRoot_27 ?_
        refine lv_iload hx hb dX4_nearestRoot_30 (lv_at hl 0 rfl) ?_
        obtain ⟨h2, hst1⟩ := ck_some hst1
        refine va_iald (D := g.1) hx hb hK hP 1 0 rfl rfl h2 dX4_nearestRoot_32 ?_
        refine lv_if_le (tgt := 55) hx hb dX4_nearestRoot_33 (by decide) (fun c3 => ?_) (fun c3 => ?_)
        · rw [if_pos c3] at hst1
          refine lv_iinc (v := q1.2 + 1) (lv' := [(3, .int (q1.2 + 1)), (4, .int x1), (2, .int q1.1), (0, .ref (ad 0)), (1, .ref (adh 0))]) hx hb dX4_nearestRoot_55 hl (k := 1) rfl rfl (by decide) rfl (fun ls hl => ?_)
          refine lv_goto (tgt := 5) hx hb dX4_nearestRoot_58 (by decide) ?_
          exact hin1 ls _ (Option.some.inj hst1).symm (lv_sub hl [0, 2, 3, 4] rfl)
        · rw [if_neg c3] at hst1
          refine lv_iload_n hx hb dX4_nearestRoot_36 rfl (lv_at hl 2 rfl) ?_
          refine lv_bipush (v := (-9)) hx hb dX4_nearestRoot_37 (by decide) ?_
          refine lv_icmp_eq (tgt := 52) hx hb dX4_nearestRoot_39 (by decide) (fun c4 => ?_) (fun c4 => ?_)
          · rw [if_pos c4] at hst1
            refine lv_iload hx hb dX4_nearestRoot_52 (lv_at hl 0 rfl) ?_
            refine lv_istore_n (lv' := [(2, .int x1), (4, .int x1), (3, .int q1.2), (0, .ref (ad 0)), (1, .ref (adh 0))]) hx hb dX4_nearestRoot_54 rfl hl (by decide) rfl (fun ls hl => ?_)
            refine lv_iinc (v := q1.2 + 1) (lv' := [(3, .int (q1.2 + 1)), (2, .int x1), (4, .int x1), (0, .ref (ad 0)), (1, .ref (adh 0))]) hx hb dX4_nearestRoot_55 hl (k := 2) rfl rfl (by decide) rfl (fun ls hl => ?_)
            refine lv_goto (tgt := 5) hx hb dX4_nearestRoot_58 (by decide) ?_
            exact hin1 ls _ (Option.some.inj hst1).symm (lv_sub hl [0, 1, 3, 4] rfl)
          · rw [if_neg c4] at hst1
            refine lv_aload_n hx hb dX4_nearestRoot_42 rfl (lv_at hl 3 rfl) ?_
            refine lv_iload hx hb dX4_nearestRoot_43 (lv_at hl 0 rfl) ?_
            refine lv_iload_n hx hb dX4_nearestRoot_45 rfl (lv_at hl 2 rfl) ?_
            obtain ⟨x2, hc1, hst1⟩ := bn_some hst1
            refine pcV (C := RX4) (As := [.int x1, .int q1.1]) (rest := []) ⟨hx, hb, hml, hown, hts⟩ hKK (cwV 2 hts gX4_nearestRoot_X4_isNearer rfl rfl rfl hdX4_isNearer ⟨Nat.le_of_ble_eq_true rfl, Nat.le_of_ble_eq_true rfl⟩) (kX4_isNearer (l := l) (g := g) (hP.sub (ws' := wRe g ad A) [0, 1, 2, 3] rfl) hc1) (va_recv hK hP (ci := 4) (q0 := 0) rfl rfl) rfl hl.1 rfl (Nat.le_of_ble_eq_true rfl) dX4_nearestRoot_46 ⟨Nat.zero_le _, Nat.zero_le _⟩ ?_
            refine lv_if_eq (tgt := 55) hx hb dX4_nearestRoot_49 (by decide) (fun c5 => ?_) (fun c5 => ?_)
            · rw [if_pos c5] at hst1
              refine lv_iinc (v := q1.2 + 1) (lv' := [(3, .int (q1.2 + 1)), (4, .int x1), (2, .int q1.1), (0, .ref (ad 0)), (1, .ref (adh 0))]) hx hb dX4_nearestRoot_55 hl (k := 1) rfl rfl (by decide) rfl (fun ls hl => ?_)
              refine lv_goto (tgt := 5) hx hb dX4_nearestRoot_58 (by decide) ?_
              exact hin1 ls _ (Option.some.inj hst1).symm (lv_sub hl [0, 2, 3, 4] rfl)
            · rw [if_neg c5] at hst1
              refine lv_iload hx hb dX4_nearestRoot_52 (lv_at hl 0 rfl) ?_
              refine lv_istore_n (lv' := [(2, .int x1), (4, .int x1), (3, .int q1.2), (0, .ref (ad 0)), (1, .ref (adh 0))]) hx hb dX4_nearestRoot_54 rfl hl (by decide) rfl (fun ls hl => ?_)
              refine lv_iinc (v := q1.2 + 1) (lv' := [(3, .int (q1.2 + 1)), (2, .int x1), (4, .int x1), (0, .ref (ad 0)), (1, .ref (adh 0))]) hx hb dX4_nearestRoot_55 hl (k := 2) rfl rfl (by decide) rfl (fun ls hl => ?_)
              refine lv_goto (tgt := 5) hx hb dX4_nearestRoot_58 (by decide) ?_
              exact hin1 ls _ (Option.some.inj hst1).symm (lv_sub hl [0, 1, 3, 4] rfl)
def sX4_nextOf (A : IA) (Ah : IA) (p1 : Int32) : Option (Int32) :=
  ck p1 32 (bd (((A 1) p1.toNatClampNeg) - 1) fun x1 => (sX1_fieldOf Ah p1 0).bind fun x2 => (sX1_fieldOf Ah p1 1).bind fun x3 => (sX4_isFar A x2 x1).bind fun x4 => if x4 = 0 then ((sX4_isFar A x3 x1).bind fun x6 => if x6 = 0 then (some p1) else (some x3)) else ((sX4_isFar A x3 x1).bind fun x5 => if x5 = 0 then (some x2) else (some (if x3 < x2 then x3 else x2))))
abbrev rmX4_nextOf : Room := { frames := 1, cells := 0, slots := 0, locals := 24 }
theorem hdX4_nextOf : yX4_nextOf.cls = RX4 ∧ yX4_nextOf.cls ≠ "java/lang/invoke/MethodHandle" ∧ yX4_nextOf.cls ≠ "java/lang/invoke/VarHandle" ∧ (parseMethodDescriptor yX4_nextOf.desc).map (fun d => d.parameters.length) = some 2 := by decide +kernel
set_option maxHeartbeats 4000000 in
set_option maxRecDepth 100000 in
theorem kX4_nextOf {l : Launch} {g : GG} {H0 : Heap} {ad : Nat → Nat} {A : IA} {adh : Nat → Nat} {Ah : IA} {Fh : FA} {p1 : Int32} {b : Int32} (hP : va_P g.1 vwCl ((wRe g ad A) ++ (wH g adh Ah Fh)) H0) (hsem : sX4_nextOf A Ah p1 = some b) : MetP l yX4_nextOf wsX4_nextOf rmX4_nextOf g H0 [.ref (ad 0), .ref (adh 0), .int p1] b := by
  refine Met.ofW (cc := cX4_nextOf) (maxL := 6) (ret := (some .int)) (by decide) rfl ?_
  intro p e s m args below meth c s₁ B hml hv
  obtain ⟨rfl, hH, hKK⟩ := hv
  subst hH
  have hx := B.exec
  have hb := B.bytes
  have hr := B.returns
  have hts := atoms_spec (ws := wsX4_nextOf) B.pre
  have hown : s.vm.findClass RX4 = some m.cls := findClass_of_methodNamed B.named
  have hlocks := B.notSynchronized
  have hK := hKK.1
  have hl := lv_entry ([.ref (ad 0), .ref (adh 0), .int p1]) (n := 6) (Nat.le_of_ble_eq_true rfl)
  rw [lg_entry_eq]
  generalize (lg_sl ([.ref (ad 0), .ref (adh 0), .int p1]) ++ List.replicate (6 - (lg_sl ([.ref (ad 0), .ref (adh 0), .int p1])).length) Slot.unset).toArray = ls at hl ⊢
  have hl : lv_has ls 6 [(0, .ref (ad 0)), (1, .ref (adh 0)), (2, .int p1)] := hl
  unfold sX4_nextOf at hsem
  refine lv_aload_n hx hb dX4_nextOf_0 rfl (lv_at hl 0 rfl) ?_
  refine va_get (D := g.1) (ci := 4) (v := .ref (ad 1)) (C := RX4) (T := TX4) (N := 3) hx hb hts (fun w h => List.mem_cons_of_mem _ (List.mem_append_left _ (List.mem_append_right _ h))) hown hK hP 0 rfl rfl 1 (by decide) (hts (.fieldLink RX4 9 "PauseRegions$Reach" "far" "[I") (List.mem_of_getElem? (i := 1) rfl)) (fun _ h9 => h9) rfl dX4_nextOf_1 ?_
  refine lv_iload_n hx hb dX4_nextOf_4 rfl (lv_at hl 2 rfl) ?_
  obtain ⟨h1, hsem⟩ := ck_some hsem
  refine va_iald (D := g.1) hx hb hK hP 1 0 rfl rfl h1 dX4_nextOf_5 ?_
  refine lv_iconst (v := 1) hx hb dX4_nextOf_6 (by decide) ?_
  refine lv_isub hx hb dX4_nextOf_7 ?_
  obtain ⟨x1, ex1, hsem⟩ := bd_some hsem
  rw [← ex1]
  refine lv_istore_n (lv' := [(3, .int x1), (0, .ref (ad 0)), (1, .ref (adh 0)), (2, .int p1)]) hx hb dX4_nextOf_8 rfl hl (by decide) rfl (fun ls hl => ?_)
  refine lv_aload_n hx hb dX4_nextOf_9 rfl (lv_at hl 2 rfl) ?_
  refine lv_iload_n hx hb dX4_nextOf_10 rfl (lv_at hl 3 rfl) ?_
  refine lv_iconst (v := 0) hx hb dX4_nextOf_11 (by decide) ?_
  obtain ⟨x2, hc1, hsem⟩ := bn_some hsem
  refine pcV (C := RX1) (As := [.int p1, .int 0]) (rest := []) ⟨hx, hb, hml, hown, hts⟩ hKK (cwV 2 hts gX4_nextOf_X1_fieldOf rfl rfl rfl hdX1_fieldOf ⟨Nat.le_of_ble_eq_true rfl, Nat.le_of_ble_eq_true rfl⟩) (kX1_fieldOf (l := l) (g := g) (hP.sub (ws' := wH g adh Ah Fh) [4, 5, 6, 7, 8, 9, 10, 11, 12, 13, 14, 15, 16, 17, 18] rfl) hc1) (va_recv hK hP (ci := 1) (q0 := 4) rfl rfl) rfl hl.1 rfl (Nat.le_of_ble_eq_true rfl) dX4_nextOf_12 ⟨Nat.zero_le _, Nat.zero_le _⟩ ?_
  refine lv_istore (lv' := [(4, .int x2), (3, .int x1), (0, .ref (ad 0)), (1, .ref (adh 0)), (2, .int p1)]) hx hb dX4_nextOf_15 hl (by decide) rfl (fun ls hl => ?_)
  refine lv_aload_n hx hb dX4_nextOf_17 rfl (lv_at hl 3 rfl) ?_
  refine lv_iload_n hx hb dX4_nextOf_18 rfl (lv_at hl 4 rfl) ?_
  refine lv_iconst (v := 1) hx hb dX4_nextOf_19 (by decide) ?_
  obtain ⟨x3, hc2, hsem⟩ := bn_some hsem
  refine pcV (C := RX1) (As := [.int p1, .int 1]) (rest := []) ⟨hx, hb, hml, hown, hts⟩ hKK (cwV 2 hts gX4_nextOf_X1_fieldOf rfl rfl rfl hdX1_fieldOf ⟨Nat.le_of_ble_eq_true rfl, Nat.le_of_ble_eq_true rfl⟩) (kX1_fieldOf (l := l) (g := g) (hP.sub (ws' := wH g adh Ah Fh) [4, 5, 6, 7, 8, 9, 10, 11, 12, 13, 14, 15, 16, 17, 18] rfl) hc2) (va_recv hK hP (ci := 1) (q0 := 4) rfl rfl) rfl hl.1 rfl (Nat.le_of_ble_eq_true rfl) dX4_nextOf_20 ⟨Nat.zero_le _, Nat.zero_le _⟩ ?_
  refine lv_istore (lv' := [(5, .int x3), (4, .int x2), (3, .int x1), (0, .ref (ad 0)), (1, .ref (adh 0)), (2, .int p1)]) hx hb dX4_nextOf_23 hl (by decide) rfl (fun ls hl => ?_)
  refine lv_aload_n hx hb dX4_nextOf_25 rfl (lv_at hl 3 rfl) ?_
  refine lv_iload hx hb dX4_nextOf_26 (lv_at hl 1 rfl) ?_
  refine lv_iload_n hx hb dX4_nextOf_28 rfl (lv_at hl 2 rfl) ?_
  obtain ⟨x4, hc3, hsem⟩ := bn_some hsem
  refine pcV (C := RX4) (As := [.int x2, .int x1]) (rest := []) ⟨hx, hb, hml, hown, hts⟩ hKK (cwV 2 hts gX4_nextOf_X4_isFar rfl rfl rfl hdX4_isFar ⟨Nat.le_of_ble_eq_true rfl, Nat.le_of_ble_eq_true rfl⟩) (kX4_isFar (l := l) (g := g) (hP.sub (ws' := wRe g ad A) [0, 1, 2, 3] rfl) hc3) (va_recv hK hP (ci := 4) (q0 := 0) rfl rfl) rfl hl.1 rfl (Nat.le_of_ble_eq_true rfl) dX4_nextOf_29 ⟨Nat.zero_le _, Nat.zero_le _⟩ ?_
  refine lv_if_ne (tgt := 52) hx hb dX4_nextOf_32 (by decide) (fun c1 => ?_) (fun c1 => ?_)
  · rw [if_neg c1] at hsem
    refine lv_aload_n hx hb dX4_nextOf_52 rfl (lv_at hl 3 rfl) ?_
    refine lv_iload hx hb dX4_nextOf_53 (lv_at hl 0 rfl) ?_
    refine lv_iload_n hx hb dX4_nextOf_55 rfl (lv_at hl 2 rfl) ?_
    obtain ⟨x5, hc4, hsem⟩ := bn_some hsem
    refine pcV (C := RX4) (As := [.int x3, .int x1]) (rest := []) ⟨hx, hb, hml, hown, hts⟩ hKK (cwV 2 hts gX4_nextOf_X4_isFar rfl rfl rfl hdX4_isFar ⟨Nat.le_of_ble_eq_true rfl, Nat.le_of_ble_eq_true rfl⟩) (kX4_isFar (l := l) (g := g) (hP.sub (ws' := wRe g ad A) [0, 1, 2, 3] rfl) hc4) (va_recv hK hP (ci := 4) (q0 := 0) rfl rfl) rfl hl.1 rfl (Nat.le_of_ble_eq_true rfl) dX4_nextOf_56 ⟨Nat.zero_le _, Nat.zero_le _⟩ ?_
    refine lv_if_eq (tgt := 72) hx hb dX4_nextOf_59 (by decide) (fun c2 => ?_) (fun c2 => ?_)
    · rw [if_pos c2] at hsem
      refine lv_iload hx hb dX4_nextOf_72 (lv_at hl 1 rfl) ?_
      have eo := (Option.some.inj hsem).symm.symm
      exact W.iret (v := x2) hx hb hr (fun t ht hW => ⟨⟨_, (), rfl, eo, ht⟩, (va_S.rf (A := fun _ => False) (H0 := s.heap)).F ht⟩) (fun q hq => absurd hq List.not_mem_nil) dX4_nextOf_74
    · rw [if_neg c2] at hsem
      refine lv_iload hx hb dX4_nextOf_62 (lv_at hl 1 rfl) ?_
      refine lv_iload hx hb dX4_nextOf_64 (lv_at hl 0 rfl) ?_
      refine va_mmin hx hb (hml.trans hl.1.symm) hown (hts (.methodLink RX4 74 Lib.Math.min.name) (List.mem_of_getElem? (i := 2) rfl)) (hts (.static Lib.Math.min.name) (List.mem_of_getElem? (i := 3) rfl)) (hts (.initialized "java/lang/Math") (List.mem_of_getElem? (i := 4) rfl)) (hts (.code Lib.Math.min.name Lib.Math.min.code 2 (some .int)) (List.mem_of_getElem? (i := 5) rfl)) (Nat.le_of_ble_eq_true rfl) (Nat.le_of_ble_eq_true rfl) (Nat.zero_le _) (Nat.zero_le _) dX4_nextOf_66 ?_
      refine lv_goto (tgt := 74) hx hb dX4_nextOf_69 (by decide) ?_
      have eo := (Option.some.inj hsem).symm.symm
      exact W.iret (v := if x3 < x2 then x3 else x2) hx hb hr (fun t ht hW => ⟨⟨_, (), rfl, eo, ht⟩, (va_S.rf (A := fun _ => False) (H0 := s.heap)).F ht⟩) (fun q hq => absurd hq List.not_mem_nil) dX4_nextOf_74
  · rw [if_pos c1] at hsem
    refine lv_aload_n hx hb dX4_nextOf_35 rfl (lv_at hl 3 rfl) ?_
    refine lv_iload hx hb dX4_nextOf_36 (lv_at hl 0 rfl) ?_
    refine lv_iload_n hx hb dX4_nextOf_38 rfl (lv_at hl 2 rfl) ?_
    obtain ⟨x6, hc5, hsem⟩ := bn_some hsem
    refine pcV (C := RX4) (As := [.int x3, .int x1]) (rest := []) ⟨hx, hb, hml, hown, hts⟩ hKK (cwV 2 hts gX4_nextOf_X4_isFar rfl rfl rfl hdX4_isFar ⟨Nat.le_of_ble_eq_true rfl, Nat.le_of_ble_eq_true rfl⟩) (kX4_isFar (l := l) (g := g) (hP.sub (ws' := wRe g ad A) [0, 1, 2, 3] rfl) hc5) (va_recv hK hP (ci := 4) (q0 := 0) rfl rfl) rfl hl.1 rfl (Nat.le_of_ble_eq_true rfl) dX4_nextOf_39 ⟨Nat.zero_le _, Nat.zero_le _⟩ ?_
    refine lv_if_eq (tgt := 50) hx hb dX4_nextOf_42 (by decide) (fun c3 => ?_) (fun c3 => ?_)
    · rw [if_pos c3] at hsem
      refine lv_iload_n hx hb dX4_nextOf_50 rfl (lv_at hl 5 rfl) ?_
      have eo := (Option.some.inj hsem).symm.symm
      exact W.iret (v := p1) hx hb hr (fun t ht hW => ⟨⟨_, (), rfl, eo, ht⟩, (va_S.rf (A := fun _ => False) (H0 := s.heap)).F ht⟩) (fun q hq => absurd hq List.not_mem_nil) dX4_nextOf_51
    · rw [if_neg c3] at hsem
      refine lv_iload hx hb dX4_nextOf_45 (lv_at hl 0 rfl) ?_
      refine lv_goto (tgt := 51) hx hb dX4_nextOf_47 (by decide) ?_
      have eo := (Option.some.inj hsem).symm.symm
      exact W.iret (v := x3) hx hb hr (fun t ht hW => ⟨⟨_, (), rfl, eo, ht⟩, (va_S.rf (A := fun _ => False) (H0 := s.heap)).F ht⟩) (fun q hq => absurd hq List.not_mem_nil) dX4_nextOf_51
def sX4_walk_L6 (A : IA) (Ah : IA) (p2 : Int32) (q1 : Int32 × Int32) : Option ((Int32 × Int32) ⊕ (Int32)) :=
  if p2 ≤ q1.2 then (some (.inr q1.1)) else (if 32 ≤ q1.2 then (some (.inr q1.1)) else ((sX4_nextOf A Ah q1.1).bind fun x1 => some (.inl (x1, q1.2 + 1))))
def sX4_walk (A : IA) (Ah : IA) (p1 : Int32) (p2 : Int32) : Option (Int32) :=
  (loopN (sX4_walk_L6 A Ah p2) 2000 (p1, 0)).bind fun q2 => some q2
abbrev rmX4_walk : Room := { frames := 2, cells := 0, slots := 0, locals := 49 }
theorem hdX4_walk : yX4_walk.cls = RX4 ∧ yX4_walk.cls ≠ "java/lang/invoke/MethodHandle" ∧ yX4_walk.cls ≠ "java/lang/invoke/VarHandle" ∧ (parseMethodDescriptor yX4_walk.desc).map (fun d => d.parameters.length) = some 3 := by decide +kernel
set_option maxHeartbeats 4000000 in
set_option maxRecDepth 100000 in
theorem kX4_walk {l : Launch} {g : GG} {H0 : Heap} {ad : Nat → Nat} {A : IA} {adh : Nat → Nat} {Ah : IA} {Fh : FA} {p1 p2 : Int32} {b : Int32} (hP : va_P g.1 vwCl ((wRe g ad A) ++ (wH g adh Ah Fh)) H0) (hsem : sX4_walk A Ah p1 p2 = some b) : MetP l yX4_walk wsX4_walk rmX4_walk g H0 [.ref (ad 0), .ref (adh 0), .int p1, .int p2] b := by
  refine Met.ofW (cc := cX4_walk) (maxL := 6) (ret := (some .int)) (by decide) rfl ?_
  intro p e s m args below meth c s₁ B hml hv
  obtain ⟨rfl, hH, hKK⟩ := hv
  subst hH
  have hx := B.exec
  have hb := B.bytes
  have hr := B.returns
  have hts := atoms_spec (ws := wsX4_walk) B.pre
  have hown : s.vm.findClass RX4 = some m.cls := findClass_of_methodNamed B.named
  have hlocks := B.notSynchronized
  have hK := hKK.1
  have hl := lv_entry ([.ref (ad 0), .ref (adh 0), .int p1, .int p2]) (n := 6) (Nat.le_of_ble_eq_true rfl)
  rw [lg_entry_eq]
  generalize (lg_sl ([.ref (ad 0), .ref (adh 0), .int p1, .int p2]) ++ List.replicate (6 - (lg_sl ([.ref (ad 0), .ref (adh 0), .int p1, .int p2])).length) Slot.unset).toArray = ls at hl ⊢
  have hl : lv_has ls 6 [(0, .ref (ad 0)), (1, .ref (adh 0)), (2, .int p1), (3, .int p2)] := hl
  unfold sX4_walk at hsem
  refine lv_iload_n hx hb dX4_walk_0 rfl (lv_at hl 2 rfl) ?_
  refine lv_istore (lv' := [(4, .int p1), (0, .ref (ad 0)), (1, .ref (adh 0)), (2, .int p1), (3, .int p2)]) hx hb dX4_walk_1 hl (by decide) rfl (fun ls hl => ?_)
  refine lv_iconst (v := 0) hx hb dX4_walk_3 (by decide) ?_
  refine lv_istore (lv' := [(5, .int 0), (4, .int p1), (0, .ref (ad 0)), (1, .ref (adh 0)), (2, .int p1), (3, .int p2)]) hx hb dX4_walk_4 hl (by decide) rfl (fun ls hl => ?_)
  obtain ⟨q2, hc2, hsem⟩ := bn_some hsem
  refine loopP hc2 (fun (q1 : Int32 × Int32) => [(5, .int q1.2), (4, .int q1.1), (0, .ref (ad 0)), (1, .ref (adh 0)), (3, .int p2)]) (fun (q1 : Int32) => [(4, .int q1)]) (exit := 34) (lv_sub hl [0, 1, 2, 3, 5] rfl) (fun ls hl => ?_) (fun q1 r hst1 hin1 hout1 ls hl => ?_)
  · skip
    refine lv_iload hx hb dX4_walk_34 (lv_at hl 0 rfl) ?_
    have eo := (Option.some.inj hsem).symm.symm
    exact W.iret (v := q2) hx hb hr (fun t ht hW => ⟨⟨_, (), rfl, eo, ht⟩, (va_S.rf (A := fun _ => False) (H0 := s.heap)).F ht⟩) (fun q hq => absurd hq List.not_mem_nil) dX4_walk_36
  · unfold sX4_walk_L6 at hst1
    refine lv_iload hx hb dX4_walk_6 (lv_at hl 0 rfl) ?_
    refine lv_iload_n hx hb dX4_walk_8 rfl (lv_at hl 4 rfl) ?_
    refine lv_icmp_ge (tgt := 34) hx hb dX4_walk_9 (by decide) (fun c1 => ?_) (fun c1 => ?_)
    · rw [if_pos c1] at hst1
      exact hout1 ls _ (Option.some.inj hst1).symm (lv_sub hl [1] rfl)
    · rw [if_neg c1] at hst1
      refine lv_iload hx hb dX4_walk_12 (lv_at hl 0 rfl) ?_
      refine lv_bipush (v := 32) hx hb dX4_walk_14 (by decide) ?_
      refine lv_icmp_ge (tgt := 34) hx hb dX4_walk_16 (by decide) (fun c2 => ?_) (fun c2 => ?_)
      · rw [if_pos c2] at hst1
        exact hout1 ls _ (Option.some.inj hst1).symm (lv_sub hl [1] rfl)
      · rw [if_neg c2] at hst1
        refine lv_aload_n hx hb dX4_walk_19 rfl (lv_at hl 2 rfl) ?_
        refine lv_aload_n hx hb dX4_walk_20 rfl (lv_at hl 3 rfl) ?_
        refine lv_iload hx hb dX4_walk_21 (lv_at hl 1 rfl) ?_
        obtain ⟨x1, hc1, hst1⟩ := bn_some hst1
        refine pcV (C := RX4) (As := [.ref (adh 0), .int q1.1]) (rest := []) ⟨hx, hb, hml, hown, hts⟩ hKK (cwV 2 hts gX4_walk_X4_nextOf rfl rfl rfl hdX4_nextOf ⟨Nat.le_of_ble_eq_true rfl, Nat.le_of_ble_eq_true rfl⟩) (kX4_nextOf (l := l) (g := g) hP hc1) (va_recv hK hP (ci := 4) (q0 := 0) rfl rfl) rfl hl.1 rfl (Nat.le_of_ble_eq_true rfl) dX4_walk_23 ⟨Nat.zero_le _, Nat.zero_le _⟩ ?_
        refine lv_istore (lv' := [(4, .int x1), (5, .int q1.2), (0, .ref (ad 0)), (1, .ref (adh 0)), (3, .int p2)]) hx hb dX4_walk_26 hl (by decide) rfl (fun ls hl => ?_)
        refine lv_iinc (v := q1.2 + 1) (lv' := [(5, .int (q1.2 + 1)), (4, .int x1), (0, .ref (ad 0)), (1, .ref (adh 0)), (3, .int p2)]) hx hb dX4_walk_28 hl (k := 1) rfl rfl (by decide) rfl (fun ls hl => ?_)
        refine lv_goto (tgt := 6) hx hb dX4_walk_31 (by decide) ?_
        exact hin1 ls _ (Option.some.inj hst1).symm (lv_sub hl [0, 1, 2, 3, 4] rfl)
