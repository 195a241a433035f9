def sX3_dirtyMoved_L2 (A : IA) (q1 : Int32 × IA) : Option ((Int32 × IA) ⊕ (IA)) :=
  if 32 ≤ q1.1 then (some (.inr q1.2)) else (if (A 9 0) ≤ q1.1 then (some (.inr q1.2)) else ((sX5_itemAt (A 1) (A 9 0) q1.1).bind fun x1 => (sX1_cardOfThing q1.2 x1).bind fun x2 => (sX5_append (q1.2 10) (q1.2 18 0) x2).bind fun z1 => bd (sc (setR q1.2 10 z1.2.1) 18 z1.2.2) fun A1h => some (.inl (q1.1 + 1, A1h))))
def sX3_dirtyMoved_L47 (A : IA) (q3 : Int32 × IA) : Option ((Int32 × IA) ⊕ (IA)) :=
  if 20 ≤ q3.1 then (some (.inr q3.2)) else ((sX6_hasBit (A 4 0) q3.1).bind fun x3 => if x3 = 0 then (some (.inl (q3.1 + 1, q3.2))) else ((sX5_append (q3.2 10) (q3.2 18 0) q3.1).bind fun z2 => bd (sc (setR q3.2 10 z2.2.1) 18 z2.2.2) fun A2h => some (.inl (q3.1 + 1, A2h))))
def sX3_dirtyMoved (A : IA) (Ah : IA) : Option (IA) :=
  (loopN (sX3_dirtyMoved_L2 A) 2000 (0, Ah)).bind fun q2 => (loopN (sX3_dirtyMoved_L47 A) 2000 (0, q2)).bind fun q4 => some q4
abbrev rmX3_dirtyMoved : Room := { frames := 2, cells := 0, slots := 0, locals := 42 }
theorem hdX3_dirtyMoved : yX3_dirtyMoved.cls = RX3 ∧ yX3_dirtyMoved.cls ≠ "java/lang/invoke/MethodHandle" ∧ yX3_dirtyMoved.cls ≠ "java/lang/invoke/VarHandle" ∧ (parseMethodDescriptor yX3_dirtyMoved.desc).map (fun d => d.parameters.length) = some 1 := by decide +kernel
set_option maxHeartbeats 4000000 in
set_option maxRecDepth 100000 in
theorem kX3_dirtyMoved {l : Launch} {g : GG} {sz : Nat} {ad : Nat → Nat} {A : IA} {F : FA} {adh : Nat → Nat} {Ah : IA} {Fh : FA} {b : IA} (hsem : sX3_dirtyMoved A Ah = some b) : MetV l yX3_dirtyMoved wsX3_dirtyMoved rmX3_dirtyMoved g [.ref (ad 0), .ref (adh 0)] ((wPa g ad A F) ++ (wH g adh Ah Fh)) sz ((wPa g ad A F) ++ (wH g adh b Fh)) := by
  refine Met.ofW (cc := cX3_dirtyMoved) (maxL := 3) (ret := none) (by decide) rfl ?_
  intro p e s m args below meth c s₁ B hml hv
  obtain ⟨rfl, hsz, hP, hD0, hKK⟩ := hv
  subst hsz
  have hx := B.exec
  have hb := B.bytes
  have hr := B.returns
  have hts := atoms_spec (ws := wsX3_dirtyMoved) B.pre
  have hown : s.vm.findClass RX3 = some m.cls := findClass_of_methodNamed B.named
  have hlocks := B.notSynchronized
  have hK := hKK.1
  have hD := hD0.self (sz := s.heap.size)
  generalize hZe : va_A ((wPa g ad A F) ++ (wH g adh Ah Fh)) s.heap.size = Z at hD ⊢
  have hZ : ∀ q : Nat, s.heap.size ≤ q → Z q := fun q h => by rw [← hZe]; exact Or.inr h
  have hS : va_S Z s.heap s.heap [] := va_S.rf
  have hP : va_P g.1 vwCl ((wPa g ad A F) ++ (wH g adh Ah Fh)) s.heap := hP
  have hD : va_D Z ((wPa g ad A F) ++ (wH g adh Ah Fh)) := hD
  have hl := lv_entry ([.ref (ad 0), .ref (adh 0)]) (n := 3) (Nat.le_of_ble_eq_true rfl)
  rw [lg_entry_eq]
  generalize (lg_sl ([.ref (ad 0), .ref (adh 0)]) ++ List.replicate (3 - (lg_sl ([.ref (ad 0), .ref (adh 0)])).length) Slot.unset).toArray = ls at hl ⊢
  have hl : lv_has ls 3 [(0, .ref (ad 0)), (1, .ref (adh 0))] := hl
  unfold sX3_dirtyMoved at hsem
  refine lv_iconst (v := 0) hx hb dX3_dirtyMoved_0 (by decide) ?_
  refine lv_istore_n (lv' := [(2, .int 0), (0, .ref (ad 0)), (1, .ref (adh 0))]) hx hb dX3_dirtyMoved_1 rfl hl (by decide) rfl (fun ls hl => ?_)
  obtain ⟨q2, hc4, hsem⟩ := bn_some hsem
  refine loopM (g := g) hc4 (fun (q1 : Int32 × IA) => [(2, .int q1.1), (0, .ref (ad 0)), (1, .ref (adh 0))]) (fun (q1 : IA) => [(0, .ref (ad 0)), (1, .ref (adh 0))]) (exit := 45) (fun (q1 : Int32 × IA) => (wPa g ad A F) ++ (wH g adh q1.2 Fh)) (fun (q1 : IA) => (wPa g ad A F) ++ (wH g adh q1 Fh)) hP hD hS (lv_sub hl [0, 1, 2] rfl) (fun H locs ls hP hD hS hl => ?_) (fun q1 r hst1 hin1 hout1 H locs ls hP hD hS hl => ?_)
  · have hP : va_P g.1 vwCl ((wPa g ad A F) ++ (wH g adh q2 Fh)) H := hP
    have hD : va_D Z ((wPa g ad A F) ++ (wH g adh q2 Fh)) := hD
    refine lv_iconst (v := 0) hx hb dX3_dirtyMoved_45 (by decide) ?_
    refine lv_istore_n (lv' := [(2, .int 0), (0, .ref (ad 0)), (1, .ref (adh 0))]) hx hb dX3_dirtyMoved_46 rfl hl (by decide) rfl (fun ls hl => ?_)
    obtain ⟨q4, hc7, hsem⟩ := bn_some hsem
    refine loopM (g := g) hc7 (fun (q3 : Int32 × IA) => [(2, .int q3.1), (0, .ref (ad 0)), (1, .ref (adh 0))]) (fun (q3 : IA) => []) (exit := 79) (fun (q3 : Int32 × IA) => (wPa g ad A F) ++ (wH g adh q3.2 Fh)) (fun (q3 : IA) => (wPa g ad A F) ++ (wH g adh q3 Fh)) hP hD hS (lv_sub hl [0, 1, 2] rfl) (fun H locs ls hP hD hS hl => ?_) (fun q3 r hst1 hin1 hout1 H locs ls hP hD hS hl => ?_)
    · have hP : va_P g.1 vwCl ((wPa g ad A F) ++ (wH g adh q4 Fh)) H := hP
      have hD : va_D Z ((wPa g ad A F) ++ (wH g adh q4 Fh)) := hD
      have eo := (Option.some.inj hsem).symm.symm
      subst eo
      exact W.vret hx hb hr (fun t ht hW => ⟨⟨(), rfl, trivial, ⟨by rw [ht]; exact hP, hD⟩⟩, hS.F ht⟩) hS.2.2 dX3_dirtyMoved_79
    · unfold sX3_dirtyMoved_L47 at hst1
      have hP : va_P g.1 vwCl ((wPa g ad A F) ++ (wH g adh q3.2 Fh)) H := hP
      have hD : va_D Z ((wPa g ad A F) ++ (wH g adh q3.2 Fh)) := hD
      refine lv_iload_n hx hb dX3_dirtyMoved_47 rfl (lv_at hl 0 rfl) ?_
      refine lv_bipush (v := 20) hx hb dX3_dirtyMoved_48 (by decide) ?_
      refine lv_icmp_ge (tgt := 79) hx hb dX3_dirtyMoved_50 (by decide) (fun c3 => ?_) (fun c3 => ?_)
      · rw [if_pos c3] at hst1
        exact hout1 H locs ls _ (Option.some.inj hst1).symm hP hD hS (lv_sub hl [] rfl)
      · rw [if_neg c3] at hst1
        refine lv_aload_n hx hb dX3_dirtyMoved_53 rfl (lv_at hl 1 rfl) ?_
        refine va_get (D := g.1) (ci := 3) (v := .int (A 4 0)) (C := RX3) (T := TX3) (N := 8) hx hb hts (fun w h => List.mem_cons_of_mem _ (List.mem_append_left _ (List.mem_append_left _ (List.mem_append_right _ h)))) hown hK hP 0 rfl rfl 3 (by decide) (hts (.fieldLink RX3 65 "PauseRegions$Pause" "scanned" "I") (List.mem_of_getElem? (i := 4) rfl)) (fun _ h9 => h9) rfl dX3_dirtyMoved_54 ?_
        refine lv_iload_n hx hb dX3_dirtyMoved_57 rfl (lv_at hl 0 rfl) ?_
        obtain ⟨x3, hc5, hst1⟩ := bn_some hst1
        refine pcN (As := [.int (A 4 0), .int q3.1]) (rest := []) ⟨hx, hb, hml, hown, hts⟩ hKK ⟨va_cnB 2 hts gX3_dirtyMoved_X6_hasBit_n87 rfl rfl rfl (hKK.2 11 _ rfl) (hts (.initialized RX6) (List.mem_of_getElem? (i := 20) rfl)) hdX6_hasBit ⟨Nat.le_of_ble_eq_true rfl, Nat.le_of_ble_eq_true rfl⟩, (hts (.static yX6_hasBit) (List.mem_of_getElem? (i := 26) rfl)), trivial⟩ (kX6_hasBit (l := l) (g := g) hc5) rfl hl.1 rfl (Nat.le_of_ble_eq_true rfl) dX3_dirtyMoved_58 ⟨Nat.zero_le _, Nat.zero_le _⟩ ?_
        refine lv_if_eq (tgt := 73) hx hb dX3_dirtyMoved_61 (by decide) (fun c4 => ?_) (fun c4 => ?_)
        · rw [if_pos c4] at hst1
          refine lv_iinc (v := q3.1 + 1) (lv' := [(2, .int (q3.1 + 1)), (0, .ref (ad 0)), (1, .ref (adh 0))]) hx hb dX3_dirtyMoved_73 hl (k := 0) rfl rfl (by decide) rfl (fun ls hl => ?_)
          refine lv_goto (tgt := 47) hx hb dX3_dirtyMoved_76 (by decide) ?_
          exact hin1 H locs ls _ (Option.some.inj hst1).symm hP hD hS (lv_sub hl [0, 1, 2] rfl)
        · rw [if_neg c4] at hst1
          refine lv_aload_n hx hb dX3_dirtyMoved_64 rfl (lv_at hl 2 rfl) ?_
          refine va_get (D := g.1) (ci := 1) (v := .ref (adh 11)) (C := RX1) (T := TX1) (N := 18) hx hb hts (fun w h => List.mem_cons_of_mem _ (List.mem_append_right _ h)) hown hK hP 4 rfl rfl 10 (by decide) (hts (.fieldLink RX3 145 "PauseRegions$Heap" "dirtyCards" "LPauseRegions$Row;") (List.mem_of_getElem? (i := 3) rfl)) (fun _ h9 => h9) rfl dX3_dirtyMoved_65 ?_
          refine lv_iload_n hx hb dX3_dirtyMoved_68 rfl (lv_at hl 0 rfl) ?_
          obtain ⟨z2, hc6, hst1⟩ := bn_some hst1
          refine mcIs (C := RX5) (As := [.int q3.1]) (rest := []) (wr := (wPa g ad A F) ++ (wH_11_12 g adh q3.2 Fh)) ⟨hx, hb, hml, hown, hts⟩ hKK hP hD hS hZ [15, 16] [0, 1, 2, 3, 4, 5, 6, 7, 8, 9, 10, 11, 12, 13, 14, 17, 18] rfl rfl (by decide) (by decide) (by decide) (cwV 1 hts gX3_dirtyMoved_X5_append rfl rfl rfl hdX5_append ⟨Nat.le_of_ble_eq_true rfl, Nat.le_of_ble_eq_true rfl⟩) (kX5_append (l := l) (g := g) (a0 := (adh 11)) (a1 := (adh 12)) (f := (q3.2 10)) (n := (q3.2 18 0)) hc6) (va_recv hK hP (ci := 5) (q0 := 15) rfl rfl) rfl hl.1 rfl (Nat.le_of_ble_eq_true rfl) dX3_dirtyMoved_69 ⟨Nat.zero_le _, Nat.zero_le _⟩ (fun H locs hP hD hS => ?_)
          obtain ⟨A2h, eA2h, hst1⟩ := bd_some hst1
          have hP : va_P g.1 vwCl ((wPa g ad A F) ++ (wH g adh A2h Fh)) H := by rw [eA2h]; exact hP.sub [0, 1, 2, 3, 4, 5, 6, 7, 8, 9, 10, 11, 12, 13, 14, 17, 18, 15, 16] rfl
          have hD : va_D Z ((wPa g ad A F) ++ (wH g adh A2h Fh)) := by rw [eA2h]; exact hD.sub [0, 1, 2, 3, 4, 5, 6, 7, 8, 9, 10, 11, 12, 13, 14, 17, 18, 15, 16] (by decide) rfl
          refine lv_pop hx hb dX3_dirtyMoved_72 rfl ?_
          refine lv_iinc (v := q3.1 + 1) (lv' := [(2, .int (q3.1 + 1)), (0, .ref (ad 0)), (1, .ref (adh 0))]) hx hb dX3_dirtyMoved_73 hl (k := 0) rfl rfl (by decide) rfl (fun ls hl => ?_)
          refine lv_goto (tgt := 47) hx hb dX3_dirtyMoved_76 (by decide) ?_
          exact hin1 H locs ls _ (Option.some.inj hst1).symm hP hD hS (lv_sub hl [0, 1, 2] rfl)
  · unfold sX3_dirtyMoved_L2 at hst1
    have hP : va_P g.1 vwCl ((wPa g ad A F) ++ (wH g adh q1.2 Fh)) H := hP
    have hD : va_D Z ((wPa g ad A F) ++ (wH g adh q1.2 Fh)) := hD
    refine lv_iload_n hx hb dX3_dirtyMoved_2 rfl (lv_at hl 0 rfl) ?_
    refine lv_bipush (v := 32) hx hb dX3_dirtyMoved_3 (by decide) ?_
    refine lv_icmp_ge (tgt := 45) hx hb dX3_dirtyMoved_5 (by decide) (fun c1 => ?_) (fun c1 => ?_)
    · rw [if_pos c1] at hst1
      exact hout1 H locs ls _ (Option.some.inj hst1).symm hP hD hS (lv_sub hl [1, 2] rfl)
    · rw [if_neg c1] at hst1
      refine lv_iload_n hx hb dX3_dirtyMoved_8 rfl (lv_at hl 0 rfl) ?_
      refine lv_aload_n hx hb dX3_dirtyMoved_9 rfl (lv_at hl 1 rfl) ?_
      refine va_get (D := g.1) (ci := 3) (v := .ref (ad 2)) (C := RX3) (T := TX3) (N := 8) hx hb hts (fun w h => List.mem_cons_of_mem _ (List.mem_append_left _ (List.mem_append_left _ (List.mem_append_right _ h)))) hown hK hP 0 rfl rfl 1 (by decide) (hts (.fieldLink RX3 21 "PauseRegions$Pause" "found" "LPauseRegions$Row;") (List.mem_of_getElem? (i := 1) rfl)) (fun _ h9 => h9) rfl dX3_dirtyMoved_10 ?_
      refine va_get (D := g.1) (ci := 5) (v := .int (A 9 0)) (C := RX5) (T := TX5) (N := 2) hx hb hts (fun w h => List.mem_cons_of_mem _ (List.mem_append_left _ (List.mem_append_right _ h))) hown hK hP 2 rfl rfl 1 (by decide) (hts (.fieldLink RX3 58 "PauseRegions$Row" "length" "I") (List.mem_of_getElem? (i := 2) rfl)) (fun _ h9 => h9) rfl dX3_dirtyMoved_13 ?_
      refine lv_icmp_ge (tgt := 45) hx hb dX3_dirtyMoved_16 (by decide) (fun c2 => ?_) (fun c2 => ?_)
      · rw [if_pos c2] at hst1
        exact hout1 H locs ls _ (Option.some.inj hst1).symm hP hD hS (lv_sub hl [1, 2] rfl)
      · rw [if_neg c2] at hst1
        refine lv_aload_n hx hb dX3_dirtyMoved_19 rfl (lv_at hl 2 rfl) ?_
        refine va_get (D := g.1) (ci := 1) (v := .ref (adh 11)) (C := RX1) (T := TX1) (N := 18) hx hb hts (fun w h => List.mem_cons_of_mem _ (List.mem_append_right _ h)) hown hK hP 4 rfl rfl 10 (by decide) (hts (.fieldLink RX3 145 "PauseRegions$Heap" "dirtyCards" "LPauseRegions$Row;") (List.mem_of_getElem? (i := 3) rfl)) (fun _ h9 => h9) rfl dX3_dirtyMoved_20 ?_
        refine lv_aload_n hx hb dX3_dirtyMoved_23 rfl (lv_at hl 2 rfl) ?_
        refine lv_aload_n hx hb dX3_dirtyMoved_24 rfl (lv_at hl 1 rfl) ?_
        refine va_get (D := g.1) (ci := 3) (v := .ref (ad 2)) (C := RX3) (T := TX3) (N := 8) hx hb hts (fun w h => List.mem_cons_of_mem _ (List.mem_append_left _ (List.mem_append_left _ (List.mem_append_right _ h)))) hown hK hP 0 rfl rfl 1 (by decide) (hts (.fieldLink RX3 21 "PauseRegions$Pause" "found" "LPauseRegions$Row;") (List.mem_of_getElem? (i := 1) rfl)) (fun _ h9 => h9) rfl dX3_dirtyMoved_25 ?_
        refine lv_iload_n hx hb dX3_dirtyMoved_28 rfl (lv_at hl 0 rfl) ?_
        obtain ⟨x1, hc1, hst1⟩ := bn_some hst1
        refine pcV (C := RX5) (As := [.int q1.1]) (rest := [.ref (adh 0), .ref (adh 11)]) ⟨hx, hb, hml, hown, hts⟩ hKK (cwV 1 hts gX3_dirtyMoved_X5_itemAt rfl rfl rfl hdX5_itemAt ⟨Nat.le_of_ble_eq_true rfl, Nat.le_of_ble_eq_true rfl⟩) (kX5_itemAt (l := l) (g := g) (hP.sub (ws' := wRow g (ad 2) (ad 3) (A 1) (A 9 0)) [2, 3] rfl) hc1) (va_recv hK hP (ci := 5) (q0 := 2) rfl rfl) rfl hl.1 rfl (Nat.le_of_ble_eq_true rfl) dX3_dirtyMoved_29 ⟨Nat.zero_le _, Nat.zero_le _⟩ ?_
        obtain ⟨x2, hc2, hst1⟩ := bn_some hst1
        refine pcV (C := RX1) (As := [.int x1]) (rest := [.ref (adh 11)]) ⟨hx, hb, hml, hown, hts⟩ hKK (cwV 1 hts gX3_dirtyMoved_X1_cardOfThing rfl rfl rfl hdX1_cardOfThing ⟨Nat.le_of_ble_eq_true rfl, Nat.le_of_ble_eq_true rfl⟩) (kX1_cardOfThing (l := l) (g := g) (hP.sub (ws' := wH g adh q1.2 Fh) [4, 5, 6, 7, 8, 9, 10, 11, 12, 13, 14, 15, 16, 17, 18] rfl) hc2) (va_recv hK hP (ci := 1) (q0 := 4) rfl rfl) rfl hl.1 rfl (Nat.le_of_ble_eq_true rfl) dX3_dirtyMoved_32 ⟨Nat.zero_le _, Nat.zero_le _⟩ ?_
        obtain ⟨z1, hc3, hst1⟩ := bn_some hst1
        refine mcIs (C := RX5) (As := [.int x2]) (rest := []) (wr := (wPa g ad A F) ++ (wH_11_12 g adh q1.2 Fh)) ⟨hx, hb, hml, hown, hts⟩ hKK hP hD hS hZ [15, 16] [0, 1, 2, 3, 4, 5, 6, 7, 8, 9, 10, 11, 12, 13, 14, 17, 18] rfl rfl (by decide) (by decide) (by decide) (cwV 1 hts gX3_dirtyMoved_X5_append rfl rfl rfl hdX5_append ⟨Nat.le_of_ble_eq_true rfl, Nat.le_of_ble_eq_true rfl⟩) (kX5_append (l := l) (g := g) (a0 := (adh 11)) (a1 := (adh 12)) (f := (q1.2 10)) (n := (q1.2 18 0)) hc3) (va_recv hK hP (ci := 5) (q0 := 15) rfl rfl) rfl hl.1 rfl (Nat.le_of_ble_eq_true rfl) dX3_dirtyMoved_35 ⟨Nat.zero_le _, Nat.zero_le _⟩ (fun H locs hP hD hS => ?_)
        obtain ⟨A1h, eA1h, hst1⟩ := bd_some hst1
        have hP : va_P g.1 vwCl ((wPa g ad A F) ++ (wH g adh A1h Fh)) H := by rw [eA1h]; exact hP.sub [0, 1, 2, 3, 4, 5, 6, 7, 8, 9, 10, 11, 12, 13, 14, 17, 18, 15, 16] rfl
        have hD : va_D Z ((wPa g ad A F) ++ (wH g adh A1h Fh)) := by rw [eA1h]; exact hD.sub [0, 1, 2, 3, 4, 5, 6, 7, 8, 9, 10, 11, 12, 13, 14, 17, 18, 15, 16] (by decide) rfl
        refine lv_pop hx hb dX3_dirtyMoved_38 rfl ?_
        refine lv_iinc (v := q1.1 + 1) (lv' := [(2, .int (q1.1 + 1)), (0, .ref (ad 0)), (1, .ref (adh 0))]) hx hb dX3_dirtyMoved_39 hl (k := 0) rfl rfl (by decide) rfl (fun ls hl => ?_)
        refine lv_goto (tgt := 2) hx hb dX3_dirtyMoved_42 (by decide) ?_
        exact hin1 H locs ls _ (Option.some.inj hst1).symm hP hD hS (lv_sub hl [0, 1, 2] rfl)
def sX3_find (A : IA) (Ah : IA) (p1 : Int32) : Option (IA) :=
  if p1 = (-5) then (some A) else (ck p1 32 ((sX6_hasBit (A 10 0) ((Ah 5) p1.toNatClampNeg)).bind fun x1 => if x1 = 0 then (some A) else ((sX5_append (A 1) (A 9 0) p1).bind fun z1 => bd (sc (setR A 1 z1.2.1) 9 z1.2.2) fun A1 => if z1.1 = 0 then (some A1) else (ck p1 32 (bd (sc A1 5 ((A1 5 0) + ((Ah 4) p1.toNatClampNeg))) fun A2 => ck p1 32 (ck ((Ah 5) p1.toNatClampNeg) 10 (if ((Ah 0) ((Ah 5) p1.toNatClampNeg).toNatClampNeg) = 1 then (ck p1 32 (bd (sc A2 6 ((A2 6 0) + ((Ah 4) p1.toNatClampNeg))) fun A3 => some A3)) else (some A2))))))))
abbrev rmX3_find : Room := { frames := 1, cells := 0, slots := 0, locals := 22 }
theorem hdX3_find : yX3_find.cls = RX3 ∧ yX3_find.cls ≠ "java/lang/invoke/MethodHandle" ∧ yX3_find.cls ≠ "java/lang/invoke/VarHandle" ∧ (parseMethodDescriptor yX3_find.desc).map (fun d => d.parameters.length) = some 2 := by decide +kernel
set_option maxHeartbeats 4000000 in
set_option maxRecDepth 100000 in
theorem kX3_find {l : Launch} {g : GG} {sz : Nat} {ad : Nat → Nat} {A : IA} {F : FA} {adh : Nat → Nat} {Ah : IA} {Fh : FA} {p1 : Int32} {b : IA} (hsem : sX3_find A Ah p1 = some b) : MetV l yX3_find wsX3_find rmX3_find g [.ref (ad 0), .ref (adh 0), .int p1] ((wPa g ad A F) ++ (wH g adh Ah Fh)) sz ((wPa g ad b F) ++ (wH g adh Ah Fh)) := by
  refine Met.ofW (cc := cX3_find) (maxL := 3) (ret := none) (by decide) rfl ?_
  intro p e s m args below meth c s₁ B hml hv
  obtain ⟨rfl, hsz, hP, hD0, hKK⟩ := hv
  subst hsz
  have hx := B.exec
  have hb := B.bytes
  have hr := B.returns
  have hts := atoms_spec (ws := wsX3_find) B.pre
  have hown : s.vm.findClass RX3 = some m.cls := findClass_of_methodNamed B.named
  have hlocks := B.notSynchronized
  have hK := hKK.1
  have hD := hD0.self (sz := s.heap.size)
  generalize hZe : va_A ((wPa g ad A F) ++ (wH g adh Ah Fh)) s.heap.size = Z at hD ⊢
  have hZ : ∀ q : Nat, s.heap.size ≤ q → Z q := fun q h => by rw [← hZe]; exact Or.inr h
  have hS : va_S Z s.heap s.heap [] := va_S.rf
  have hP : va_P g.1 vwCl ((wPa g ad A F) ++ (wH g adh Ah Fh)) s.heap := hP
  have hD : va_D Z ((wPa g ad A F) ++ (wH g adh Ah Fh)) := hD
  have hl := lv_entry ([.ref (ad 0), .ref (adh 0), .int p1]) (n := 3) (Nat.le_of_ble_eq_true rfl)
  rw [lg_entry_eq]
  generalize (lg_sl ([.ref (ad 0), .ref (adh 0), .int p1]) ++ List.replicate (3 - (lg_sl ([.ref (ad 0), .ref (adh 0), .int p1])).length) Slot.unset).toArray = ls at hl ⊢
  have hl : lv_has ls 3 [(0, .ref (ad 0)), (1, .ref (adh 0)), (2, .int p1)] := hl
  unfold sX3_find at hsem
  refine lv_iload_n hx hb dX3_find_0 rfl (lv_at hl 2 rfl) ?_
  refine lv_bipush (v := (-5)) hx hb dX3_find_1 (by decide) ?_
  refine lv_icmp_eq (tgt := 36) hx hb dX3_find_3 (by decide) (fun c1 => ?_) (fun c1 => ?_)
  · rw [if_pos c1] at hsem
    have eo := (Option.some.inj hsem).symm.symm
    subst eo
    exact W.vret hx hb hr (fun t ht hW => ⟨⟨(), rfl, trivial, ⟨by rw [ht]; exact hP, hD⟩⟩, hS.F ht⟩) hS.2.2 dX3_find_36
  · rw [if_neg c1] at hsem
    refine lv_aload_n hx hb dX3_find_6 rfl (lv_at hl 0 rfl) ?_
    refine va_get (D := g.1) (ci := 3) (v := .ref (ad 1)) (C := RX3) (T := TX3) (N := 8) hx hb hts (fun w h => List.mem_cons_of_mem _ (List.mem_append_left _ (List.mem_append_left _ (List.mem_append_left _ (List.mem_append_right _ h))))) hown hK hP 0 rfl rfl 0 (by decide) (hts (.fieldLink RX3 12 "PauseRegions$Pause" "choice" "LPauseRegions$Choice;") (List.mem_of_getElem? (i := 1) rfl)) (fun _ h9 => h9) rfl dX3_find_7 ?_
    refine va_get (D := g.1) (ci := 0) (v := .int (A 10 0)) (C := RX0) (T := TX0) (N := 3) hx hb hts (fun w h => List.mem_cons_of_mem _ (List.mem_append_left _ (List.mem_append_left _ (List.mem_append_right _ h)))) hown hK hP 1 rfl rfl 0 (by decide) (hts (.fieldLink RX3 80 "PauseRegions$Choice" "regions" "I") (List.mem_of_getElem? (i := 2) rfl)) (fun _ h9 => h9) rfl dX3_find_10 ?_
    refine lv_aload_n hx hb dX3_find_13 rfl (lv_at hl 1 rfl) ?_
    refine va_get (D := g.1) (ci := 1) (v := .ref (adh 6)) (C := RX1) (T := TX1) (N := 18) hx hb hts (fun w h => List.mem_cons_of_mem _ (List.mem_append_left _ (List.mem_append_right _ h))) hown hK hP 4 rfl rfl 5 (by decide) (hts (.fieldLink RX3 83 "PauseRegions$Heap" "place" "[I") (List.mem_of_getElem? (i := 3) rfl)) (fun _ h9 => h9) rfl dX3_find_14 ?_
    refine lv_iload_n hx hb dX3_find_17 rfl (lv_at hl 2 rfl) ?_
    obtain ⟨h1, hsem⟩ := ck_some hsem
    refine va_iald (D := g.1) hx hb hK hP 10 0 rfl rfl h1 dX3_find_18 ?_
    obtain ⟨x1, hc1, hsem⟩ := bn_some hsem
    refine pcN (As := [.int (A 10 0), .int ((Ah 5) p1.toNatClampNeg)]) (rest := []) ⟨hx, hb, hml, hown, hts⟩ hKK ⟨va_cnB 2 hts gX3_find_X6_hasBit_n87 rfl rfl rfl (hKK.2 11 _ rfl) (hts (.initialized RX6) (List.mem_of_getElem? (i := 10) rfl)) hdX6_hasBit ⟨Nat.le_of_ble_eq_true rfl, Nat.le_of_ble_eq_true rfl⟩, (hts (.static yX6_hasBit) (List.mem_of_getElem? (i := 9) rfl)), trivial⟩ (kX6_hasBit (l := l) (g := g) hc1) rfl hl.1 rfl (Nat.le_of_ble_eq_true rfl) dX3_find_19 ⟨Nat.zero_le _, Nat.zero_le _⟩ ?_
    refine lv_if_eq (tgt := 36) hx hb dX3_find_22 (by decide) (fun c2 => ?_) (fun c2 => ?_)
    · rw [if_pos c2] at hsem
      have eo := (Option.some.inj hsem).symm.symm
      subst eo
      exact W.vret hx hb hr (fun t ht hW => ⟨⟨(), rfl, trivial, ⟨by rw [ht]; exact hP, hD⟩⟩, hS.F ht⟩) hS.2.2 dX3_find_36
    · rw [if_neg c2] at hsem
      refine lv_aload_n hx hb dX3_find_25 rfl (lv_at hl 0 rfl) ?_
      refine va_get (D := g.1) (ci := 3) (v := .ref (ad 2)) (C := RX3) (T := TX3) (N := 8) hx hb hts (fun w h => List.mem_cons_of_mem _ (List.mem_append_left _ (List.mem_append_left _ (List.mem_append_left _ (List.mem_append_right _ h))))) hown hK hP 0 rfl rfl 1 (by decide) (hts (.fieldLink RX3 21 "PauseRegions$Pause" "found" "LPauseRegions$Row;") (List.mem_of_getElem? (i := 4) rfl)) (fun _ h9 => h9) rfl dX3_find_26 ?_
      refine lv_iload_n hx hb dX3_find_29 rfl (lv_at hl 2 rfl) ?_
      obtain ⟨z1, hc2, hsem⟩ := bn_some hsem
      refine mcIs (C := RX5) (As := [.int p1]) (rest := []) (wr := (wPa_2_3 g ad A F) ++ (wH g adh Ah Fh)) ⟨hx, hb, hml, hown, hts⟩ hKK hP hD hS hZ [2, 3] [0, 1, 4, 5, 6, 7, 8, 9, 10, 11, 12, 13, 14, 15, 16, 17, 18] rfl rfl (by decide) (by decide) (by decide) (cwV 1 hts gX3_find_X5_append rfl rfl rfl hdX5_append ⟨Nat.le_of_ble_eq_true rfl, Nat.le_of_ble_eq_true rfl⟩) (kX5_append (l := l) (g := g) (a0 := (ad 2)) (a1 := (ad 3)) (f := (A 1)) (n := (A 9 0)) hc2) (va_recv hK hP (ci := 5) (q0 := 2) rfl rfl) rfl hl.1 rfl (Nat.le_of_ble_eq_true rfl) dX3_find_30 ⟨Nat.zero_le _, Nat.zero_le _⟩ (fun H locs hP hD hS => ?_)
      obtain ⟨A1, eA1, hsem⟩ := bd_some hsem
      have hP : va_P g.1 vwCl ((wPa g ad A1 F) ++ (wH g adh Ah Fh)) H := by rw [eA1]; exact hP.sub [0, 1, 17, 18, 2, 3, 4, 5, 6, 7, 8, 9, 10, 11, 12, 13, 14, 15, 16] rfl
      have hD : va_D Z ((wPa g ad A1 F) ++ (wH g adh Ah Fh)) := by rw [eA1]; exact hD.sub [0, 1, 17, 18, 2, 3, 4, 5, 6, 7, 8, 9, 10, 11, 12, 13, 14, 15, 16] (by decide) rfl
      refine lv_if_ne (tgt := 37) hx hb dX3_find_33 (by decide) (fun c3 => ?_) (fun c3 => ?_)
      · rw [if_neg c3] at hsem
        refine lv_aload_n hx hb dX3_find_37 rfl (lv_at hl 0 rfl) ?_
        refine lv_dup hx hb dX3_find_38 rfl ?_
        refine va_get (D := g.1) (ci := 3) (v := .int (A1 5 0)) (C := RX3) (T := TX3) (N := 8) hx hb hts (fun w h => List.mem_cons_of_mem _ (List.mem_append_left _ (List.mem_append_left _ (List.mem_append_left _ (List.mem_append_right _ h))))) hown hK hP 0 rfl rfl 5 (by decide) (hts (.fieldLink RX3 71 "PauseRegions$Pause" "foundCells" "I") (List.mem_of_getElem? (i := 5) rfl)) (fun _ h9 => h9) rfl dX3_find_39 ?_
        refine lv_aload_n hx hb dX3_find_42 rfl (lv_at hl 1 rfl) ?_
        refine va_get (D := g.1) (ci := 1) (v := .ref (adh 5)) (C := RX1) (T := TX1) (N := 18) hx hb hts (fun w h => List.mem_cons_of_mem _ (List.mem_append_left _ (List.mem_append_right _ h))) hown hK hP 4 rfl rfl 4 (by decide) (hts (.fieldLink RX3 95 "PauseRegions$Heap" "size" "[I") (List.mem_of_getElem? (i := 6) rfl)) (fun _ h9 => h9) rfl dX3_find_43 ?_
        refine lv_iload_n hx hb dX3_find_46 rfl (lv_at hl 2 rfl) ?_
        obtain ⟨h2, hsem⟩ := ck_some hsem
        refine va_iald (D := g.1) hx hb hK hP 9 0 rfl rfl h2 dX3_find_47 ?_
        refine lv_iadd hx hb dX3_find_48 ?_
        refine va_put (D := g.1) (ci := 3) (v := .int ((A1 5 0) + ((Ah 4) p1.toNatClampNeg))) (ty := .int) (C := RX3) (T := TX3) (N := 8) hx hb hts (fun w h => List.mem_cons_of_mem _ (List.mem_append_left _ (List.mem_append_left _ (List.mem_append_left _ (List.mem_append_right _ h))))) tyX3 tyX3_ok nmX3 hown hK hP hD hS 0 rfl rfl 5 (by decide) (hts (.fieldLink RX3 71 "PauseRegions$Pause" "foundCells" "I") (List.mem_of_getElem? (i := 5) rfl)) (fun _ h9 => h9) rfl (by decide +kernel) rfl rfl (Nat.le_of_ble_eq_true rfl) dX3_find_49 (fun H locs hP hD hS => ?_)
        obtain ⟨A2, eA2, hsem⟩ := bd_some hsem
        have hP : va_P g.1 vwCl ((wPa g ad A2 F) ++ (wH g adh Ah Fh)) H := by rw [eA2]; exact hP
        have hD : va_D Z ((wPa g ad A2 F) ++ (wH g adh Ah Fh)) := by rw [eA2]; exact hD
        refine lv_aload_n hx hb dX3_find_52 rfl (lv_at hl 1 rfl) ?_
        refine va_get (D := g.1) (ci := 1) (v := .ref (adh 1)) (C := RX1) (T := TX1) (N := 18) hx hb hts (fun w h => List.mem_cons_of_mem _ (List.mem_append_left _ (List.mem_append_right _ h))) hown hK hP 4 rfl rfl 0 (by decide) (hts (.fieldLink RX3 98 "PauseRegions$Heap" "kind" "[I") (List.mem_of_getElem? (i := 7) rfl)) (fun _ h9 => h9) rfl dX3_find_53 ?_
        refine lv_aload_n hx hb dX3_find_56 rfl (lv_at hl 1 rfl) ?_
        refine va_get (D := g.1) (ci := 1) (v := .ref (adh 6)) (C := RX1) (T := TX1) (N := 18) hx hb hts (fun w h => List.mem_cons_of_mem _ (List.mem_append_left _ (List.mem_append_right _ h))) hown hK hP 4 rfl rfl 5 (by decide) (hts (.fieldLink RX3 83 "PauseRegions$Heap" "place" "[I") (List.mem_of_getElem? (i := 3) rfl)) (fun _ h9 => h9) rfl dX3_find_57 ?_
        refine lv_iload_n hx hb dX3_find_60 rfl (lv_at hl 2 rfl) ?_
        obtain ⟨h3, hsem⟩ := ck_some hsem
        refine va_iald (D := g.1) hx hb hK hP 10 0 rfl rfl h3 dX3_find_61 ?_
        obtain ⟨h4, hsem⟩ := ck_some hsem
        refine va_iald (D := g.1) hx hb hK hP 5 0 rfl rfl h4 dX3_find_62 ?_
        refine lv_iconst (v := 1) hx hb dX3_find_63 (by decide) ?_
        refine lv_icmp_ne (tgt := 82) hx hb dX3_find_64 (by decide) (fun c4 => ?_) (fun c4 => ?_)
        · rw [if_neg c4] at hsem
          have eo := (Option.some.inj hsem).symm.symm
          subst eo
          exact W.vret hx hb hr (fun t ht hW => ⟨⟨(), rfl, trivial, ⟨by rw [ht]; exact hP, hD⟩⟩, hS.F ht⟩) hS.2.2 dX3_find_82
        · rw [if_pos c4] at hsem
          refine lv_aload_n hx hb dX3_find_67 rfl (lv_at hl 0 rfl) ?_
          refine lv_dup hx hb dX3_find_68 rfl ?_
          refine va_get (D := g.1) (ci := 3) (v := .int (A2 6 0)) (C := RX3) (T := TX3) (N := 8) hx hb hts (fun w h => List.mem_cons_of_mem _ (List.mem_append_left _ (List.mem_append_left _ (List.mem_append_left _ (List.mem_append_right _ h))))) hown hK hP 0 rfl rfl 6 (by decide) (hts (.fieldLink RX3 74 "PauseRegions$Pause" "foundYoungCells" "I") (List.mem_of_getElem? (i := 8) rfl)) (fun _ h9 => h9) rfl dX3_find_69 ?_
          refine lv_aload_n hx hb dX3_find_72 rfl (lv_at hl 1 rfl) ?_
          refine va_get (D := g.1) (ci := 1) (v := .ref (adh 5)) (C := RX1) (T := TX1) (N := 18) hx hb hts (fun w h => List.mem_cons_of_mem _ (List.mem_append_left _ (List.mem_append_right _ h))) hown hK hP 4 rfl rfl 4 (by decide) (hts (.fieldLink RX3 95 "PauseRegions$Heap" "size" "[I") (List.mem_of_getElem? (i := 6) rfl)) (fun _ h9 => h9) rfl dX3_find_73 ?_
          refine lv_iload_n hx hb dX3_find_76 rfl (lv_at hl 2 rfl) ?_
          obtain ⟨h5, hsem⟩ := ck_some hsem
          refine va_iald (D := g.1) hx hb hK hP 9 0 rfl rfl h5 dX3_find_77 ?_
          refine lv_iadd hx hb dX3_find_78 ?_
          refine va_put (D := g.1) (ci := 3) (v := .int ((A2 6 0) + ((Ah 4) p1.toNatClampNeg))) (ty := .int) (C := RX3) (T := TX3) (N := 8) hx hb hts (fun w h => List.mem_cons_of_mem _ (List.mem_append_left _ (List.mem_append_left _ (List.mem_append_left _ (List.mem_append_right _ h))))) tyX3 tyX3_ok nmX3 hown hK hP hD hS 0 rfl rfl 6 (by decide) (hts (.fieldLink RX3 74 "PauseRegions$Pause" "foundYoungCells" "I") (List.mem_of_getElem? (i := 8) rfl)) (fun _ h9 => h9) rfl (by decide +kernel) rfl rfl (Nat.le_of_ble_eq_true rfl) dX3_find_79 (fun H locs hP hD hS => ?_)
          obtain ⟨A3, eA3, hsem⟩ := bd_some hsem
          have hP : va_P g.1 vwCl ((wPa g ad A3 F) ++ (wH g adh Ah Fh)) H := by rw [eA3]; exact hP
          have hD : va_D Z ((wPa g ad A3 F) ++ (wH g adh Ah Fh)) := by rw [eA3]; exact hD
          have eo := (Option.some.inj hsem).symm.symm
          subst eo
          exact W.vret hx hb hr (fun t ht hW => ⟨⟨(), rfl, trivial, ⟨by rw [ht]; exact hP, hD⟩⟩, hS.F ht⟩) hS.2.2 dX3_find_82
      · rw [if_pos c3] at hsem
        have eo := (Option.some.inj hsem).symm.symm
        subst eo
        exact W.vret hx hb hr (fun t ht hW => ⟨⟨(), rfl, trivial, ⟨by rw [ht]; exact hP, hD⟩⟩, hS.F ht⟩) hS.2.2 dX3_find_36
def sX3_findFields (A : IA) (Ah : IA) (p1 : Int32) : Option (IA) :=
  (sX1_fieldOf Ah p1 0).bind fun x1 => (sX3_find A Ah x1).bind fun z1 => (sX1_fieldOf Ah p1 1).bind fun x2 => (sX3_find z1 Ah x2).bind fun z2 => some z2
abbrev rmX3_findFields : Room := { frames := 2, cells := 0, slots := 0, locals := 44 }
theorem hdX3_findFields : yX3_findFields.cls = RX3 ∧ yX3_findFields.cls ≠ "java/lang/invoke/MethodHandle" ∧ yX3_findFields.cls ≠ "java/lang/invoke/VarHandle" ∧ (parseMethodDescriptor yX3_findFields.desc).map (fun d => d.parameters.length) = some 2 := by decide +kernel
set_option maxHeartbeats 4000000 in
set_option maxRecDepth 100000 in
theorem kX3_findFields {l : Launch} {g : GG} {sz : Nat} {ad : Nat → Nat} {A : IA} {F : FA} {adh : Nat → Nat} {Ah : IA} {Fh : FA} {p1 : Int32} {b : IA} (hsem : sX3_findFields A Ah p1 = some b) : MetV l yX3_findFields wsX3_findFields rmX3_findFields g [.ref (ad 0), .ref (adh 0), .int p1] ((wPa g ad A F) ++ (wH g adh Ah Fh)) sz ((wPa g ad b F) ++ (wH g adh Ah Fh)) := by
  refine Met.ofW (cc := cX3_findFields) (maxL := 3) (ret := none) (by decide) rfl ?_
  intro p e s m args below meth c s₁ B hml hv
  obtain ⟨rfl, hsz, hP, hD0, hKK⟩ := hv
  subst hsz
  have hx := B.exec
  have hb := B.bytes
  have hr := B.returns
  have hts := atoms_spec (ws := wsX3_findFields) B.pre
  have hown : s.vm.findClass RX3 = some m.cls := findClass_of_methodNamed B.named
  have hlocks := B.notSynchronized
  have hK := hKK.1
  have hD := hD0.self (sz := s.heap.size)
  generalize hZe : va_A ((wPa g ad A F) ++ (wH g adh Ah Fh)) s.heap.size = Z at hD ⊢
  have hZ : ∀ q : Nat, s.heap.size ≤ q → Z q := fun q h => by rw [← hZe]; exact Or.inr h
  have hS : va_S Z s.heap s.heap [] := va_S.rf
  have hP : va_P g.1 vwCl ((wPa g ad A F) ++ (wH g adh Ah Fh)) s.heap := hP
  have hD : va_D Z ((wPa g ad A F) ++ (wH g adh Ah Fh)) := hD
  have hl := lv_entry ([.ref (ad 0), .ref (adh 0), .int p1]) (n := 3) (Nat.le_of_ble_eq_true rfl)
  rw [lg_entry_eq]
  generalize (lg_sl ([.ref (ad 0), .ref (adh 0), .int p1]) ++ List.replicate (3 - (lg_sl ([.ref (ad 0), .ref (adh 0), .int p1])).length) Slot.unset).toArray = ls at hl ⊢
  have hl : lv_has ls 3 [(0, .ref (ad 0)), (1, .ref (adh 0)), (2, .int p1)] := hl
  unfold sX3_findFields at hsem
  refine lv_aload_n hx hb dX3_findFields_0 rfl (lv_at hl 0 rfl) ?_
  refine lv_aload_n hx hb dX3_findFields_1 rfl (lv_at hl 1 rfl) ?_
  refine lv_aload_n hx hb dX3_findFields_2 rfl (lv_at hl 1 rfl) ?_
  refine lv_iload_n hx hb dX3_findFields_3 rfl (lv_at hl 2 rfl) ?_
  refine lv_iconst (v := 0) hx hb dX3_findFields_4 (by decide) ?_
  obtain ⟨x1, hc1, hsem⟩ := bn_some hsem
  refine pcV (C := RX1) (As := [.int p1, .int 0]) (rest := [.ref (adh 0), .ref (ad 0)]) ⟨hx, hb, hml, hown, hts⟩ hKK (cwV 2 hts gX3_findFields_X1_fieldOf rfl rfl rfl hdX1_fieldOf ⟨Nat.le_of_ble_eq_true rfl, Nat.le_of_ble_eq_true rfl⟩) (kX1_fieldOf (l := l) (g := g) (hP.sub (ws' := wH g adh Ah Fh) [4, 5, 6, 7, 8, 9, 10, 11, 12, 13, 14, 15, 16, 17, 18] rfl) hc1) (va_recv hK hP (ci := 1) (q0 := 4) rfl rfl) rfl hl.1 rfl (Nat.le_of_ble_eq_true rfl) dX3_findFields_5 ⟨Nat.zero_le _, Nat.zero_le _⟩ ?_
  obtain ⟨z1, hc2, hsem⟩ := bn_some hsem
  refine mcV (C := RX3) (As := [.ref (adh 0), .int x1]) (rest := []) ⟨hx, hb, hml, hown, hts⟩ hKK hP hD hS hZ (cwV 2 hts gX3_findFields_X3_find rfl rfl rfl hdX3_find ⟨Nat.le_of_ble_eq_true rfl, Nat.le_of_ble_eq_true rfl⟩) (kX3_find (l := l) (g := g) (ad := ad) (A := A) (F := F) (adh := adh) (Ah := Ah) (Fh := Fh) hc2) (va_recv hK hP (ci := 3) (q0 := 0) rfl rfl) rfl hl.1 rfl (Nat.le_of_ble_eq_true rfl) dX3_findFields_8 ⟨Nat.zero_le _, Nat.zero_le _⟩ (fun H locs hP hD hS => ?_)
  have hP : va_P g.1 vwCl ((wPa g ad z1 F) ++ (wH g adh Ah Fh)) H := hP
  have hD : va_D Z ((wPa g ad z1 F) ++ (wH g adh Ah Fh)) := hD
  refine lv_aload_n hx hb dX3_findFields_11 rfl (lv_at hl 0 rfl) ?_
  refine lv_aload_n hx hb dX3_findFields_12 rfl (lv_at hl 1 rfl) ?_
  refine lv_aload_n hx hb dX3_findFields_13 rfl (lv_at hl 1 rfl) ?_
  refine lv_iload_n hx hb dX3_findFields_14 rfl (lv_at hl 2 rfl) ?_
  refine lv_iconst (v := 1) hx hb dX3_findFields_15 (by decide) ?_
  obtain ⟨x2, hc3, hsem⟩ := bn_some hsem
  refine pcV (C := RX1) (As := [.int p1, .int 1]) (rest := [.ref (adh 0), .ref (ad 0)]) ⟨hx, hb, hml, hown, hts⟩ hKK (cwV 2 hts gX3_findFields_X1_fieldOf rfl rfl rfl hdX1_fieldOf ⟨Nat.le_of_ble_eq_true rfl, Nat.le_of_ble_eq_true rfl⟩) (kX1_fieldOf (l := l) (g := g) (hP.sub (ws' := wH g adh Ah Fh) [4, 5, 6, 7, 8, 9, 10, 11, 12, 13, 14, 15, 16, 17, 18] rfl) hc3) (va_recv hK hP (ci := 1) (q0 := 4) rfl rfl) rfl hl.1 rfl (Nat.le_of_ble_eq_true rfl) dX3_findFields_16 ⟨Nat.zero_le _, Nat.zero_le _⟩ ?_
  obtain ⟨z2, hc4, hsem⟩ := bn_some hsem
  refine mcV (C := RX3) (As := [.ref (adh 0), .int x2]) (rest := []) ⟨hx, hb, hml, hown, hts⟩ hKK hP hD hS hZ (cwV 2 hts gX3_findFields_X3_find rfl rfl rfl hdX3_find ⟨Nat.le_of_ble_eq_true rfl, Nat.le_of_ble_eq_true rfl⟩) (kX3_find (l := l) (g := g) (ad := ad) (A := z1) (F := F) (adh := adh) (Ah := Ah) (Fh := Fh) hc4) (va_recv hK hP (ci := 3) (q0 := 0) rfl rfl) rfl hl.1 rfl (Nat.le_of_ble_eq_true rfl) dX3_findFields_19 ⟨Nat.zero_le _, Nat.zero_le _⟩ (fun H locs hP hD hS => ?_)
  have hP : va_P g.1 vwCl ((wPa g ad z2 F) ++ (wH g adh Ah Fh)) H := hP
  have hD : va_D Z ((wPa g ad z2 F) ++ (wH g adh Ah Fh)) := hD
  have eo := (Option.some.inj hsem).symm.symm
  subst eo
  exact W.vret hx hb hr (fun t ht hW => ⟨⟨(), rfl, trivial, ⟨by rw [ht]; exact hP, hD⟩⟩, hS.F ht⟩) hS.2.2 dX3_findFields_22
def sX3_findFirst_L2 (Ah : IA) (q1 : Int32 × IA) : Option ((Int32 × IA) ⊕ (IA)) :=
  if 6 ≤ q1.1 then (some (.inr q1.2)) else (ck q1.1 6 ((sX3_find q1.2 Ah ((Ah 9) q1.1.toNatClampNeg)).bind fun z1 => some (.inl (q1.1 + 1, z1))))
def sX3_findFirst_L27 (Ah : IA) (q3 : Int32 × IA) : Option ((Int32 × IA) ⊕ (IA)) :=
  if 32 ≤ q3.1 then (some (.inr q3.2)) else (if (Ah 19 0) ≤ q3.1 then (some (.inr q3.2)) else ((sX5_itemAt (Ah 11) (Ah 19 0) q3.1).bind fun x1 => (sX3_find q3.2 Ah x1).bind fun z2 => some (.inl (q3.1 + 1, z2))))
def sX3_findFirst (A : IA) (Ah : IA) : Option (IA) :=
  (loopN (sX3_findFirst_L2 Ah) 2000 (0, A)).bind fun q2 => (loopN (sX3_findFirst_L27 Ah) 2000 (0, q2)).bind fun q4 => some q4
abbrev rmX3_findFirst : Room := { frames := 2, cells := 0, slots := 0, locals := 44 }
theorem hdX3_findFirst : yX3_findFirst.cls = RX3 ∧ yX3_findFirst.cls ≠ "java/lang/invoke/MethodHandle" ∧ yX3_findFirst.cls ≠ "java/lang/invoke/VarHandle" ∧ (parseMethodDescriptor yX3_findFirst.desc).map (fun d => d.parameters.length) = some 1 := by decide +kernel
set_option maxHeartbeats 4000000 in
set_option maxRecDepth 100000 in
theorem kX3_findFirst {l : Launch} {g : GG} {sz : Nat} {ad : Nat → Nat} {A : IA} {F : FA} {adh : Nat → Nat} {Ah : IA} {Fh : FA} {b : IA} (hsem : sX3_findFirst A Ah = some b) : MetV l yX3_findFirst wsX3_findFirst rmX3_findFirst g [.ref (ad 0), .ref (adh 0)] ((wPa g ad A F) ++ (wH g adh Ah Fh)) sz ((wPa g ad b F) ++ (wH g adh Ah Fh)) := by
  refine Met.ofW (cc := cX3_findFirst) (maxL := 3) (ret := none) (by decide) rfl ?_
  intro p e s m args below meth c s₁ B hml hv
  obtain ⟨rfl, hsz, hP, hD0, hKK⟩ := hv
  subst hsz
  have hx := B.exec
  have hb := B.bytes
  have hr := B.returns
  have hts := atoms_spec (ws := wsX3_findFirst) B.pre
  have hown : s.vm.findClass RX3 = some m.cls := findClass_of_methodNamed B.named
  have hlocks := B.notSynchronized
  have hK := hKK.1
  have hD := hD0.self (sz := s.heap.size)
  generalize hZe : va_A ((wPa g ad A F) ++ (wH g adh Ah Fh)) s.heap.size = Z at hD ⊢
  have hZ : ∀ q : Nat, s.heap.size ≤ q → Z q := fun q h => by rw [← hZe]; exact Or.inr h
  have hS : va_S Z s.heap s.heap [] := va_S.rf
  have hP : va_P g.1 vwCl ((wPa g ad A F) ++ (wH g adh Ah Fh)) s.heap := hP
  have hD : va_D Z ((wPa g ad A F) ++ (wH g adh Ah Fh)) := hD
  have hl := lv_entry ([.ref (ad 0), .ref (adh 0)]) (n := 3) (Nat.le_of_ble_eq_true rfl)
  rw [lg_entry_eq]
  generalize (lg_sl ([.ref (ad 0), .ref (adh 0)]) ++ List.replicate (3 - (lg_sl ([.ref (ad 0), .ref (adh 0)])).length) Slot.unset).toArray = ls at hl ⊢
  have hl : lv_has ls 3 [(0, .ref (ad 0)), (1, .ref (adh 0))] := hl
  unfold sX3_findFirst at hsem
  refine lv_iconst (v := 0) hx hb dX3_findFirst_0 (by decide) ?_
  refine lv_istore_n (lv' := [(2, .int 0), (0, .ref (ad 0)), (1, .ref (adh 0))]) hx hb dX3_findFirst_1 rfl hl (by decide) rfl (fun ls hl => ?_)
  obtain ⟨q2, hc2, hsem⟩ := bn_some hsem
  refine loopM (g := g) hc2 (fun (q1 : Int32 × IA) => [(2, .int q1.1), (0, .ref (ad 0)), (1, .ref (adh 0))]) (fun (q1 : IA) => [(0, .ref (ad 0)), (1, .ref (adh 0))]) (exit := 25) (fun (q1 : Int32 × IA) => (wPa g ad q1.2 F) ++ (wH g adh Ah Fh)) (fun (q1 : IA) => (wPa g ad q1 F) ++ (wH g adh Ah Fh)) hP hD hS (lv_sub hl [0, 1, 2] rfl) (fun H locs ls hP hD hS hl => ?_) (fun q1 r hst1 hin1 hout1 H locs ls hP hD hS hl => ?_)
  · have hP : va_P g.1 vwCl ((wPa g ad q2 F) ++ (wH g adh Ah Fh)) H := hP
    have hD : va_D Z ((wPa g ad q2 F) ++ (wH g adh Ah Fh)) := hD
    refine lv_iconst (v := 0) hx hb dX3_findFirst_25 (by decide) ?_
    refine lv_istore_n (lv' := [(2, .int 0), (0, .ref (ad 0)), (1, .ref (adh 0))]) hx hb dX3_findFirst_26 rfl hl (by decide) rfl (fun ls hl => ?_)
    obtain ⟨q4, hc5, hsem⟩ := bn_some hsem
    refine loopM (g := g) hc5 (fun (q3 : Int32 × IA) => [(2, .int q3.1), (0, .ref (ad 0)), (1, .ref (adh 0))]) (fun (q3 : IA) => []) (exit := 63) (fun (q3 : Int32 × IA) => (wPa g ad q3.2 F) ++ (wH g adh Ah Fh)) (fun (q3 : IA) => (wPa g ad q3 F) ++ (wH g adh Ah Fh)) hP hD hS (lv_sub hl [0, 1, 2] rfl) (fun H locs ls hP hD hS hl => ?_) (fun q3 r hst1 hin1 hout1 H locs ls hP hD hS hl => ?_)
    · have hP : va_P g.1 vwCl ((wPa g ad q4 F) ++ (wH g adh Ah Fh)) H := hP
      have hD : va_D Z ((wPa g ad q4 F) ++ (wH g adh Ah Fh)) := hD
      have eo := (Option.some.inj hsem).symm.symm
      subst eo
      exact W.vret hx hb hr (fun t ht hW => ⟨⟨(), rfl, trivial, ⟨by rw [ht]; exact hP, hD⟩⟩, hS.F ht⟩) hS.2.2 dX3_findFirst_63
    · unfold sX3_findFirst_L27 at hst1
      have hP : va_P g.1 vwCl ((wPa g ad q3.2 F) ++ (wH g adh Ah Fh)) H := hP
      have hD : va_D Z ((wPa g ad q3.2 F) ++ (wH g adh Ah Fh)) := hD
      refine lv_iload_n hx hb dX3_findFirst_27 rfl (lv_at hl 0 rfl) ?_
      refine lv_bipush (v := 32) hx hb dX3_findFirst_28 (by decide) ?_
      refine lv_icmp_ge (tgt := 63) hx hb dX3_findFirst_30 (by decide) (fun c2 => ?_) (fun c2 => ?_)
      · rw [if_pos c2] at hst1
        exact hout1 H locs ls _ (Option.some.inj hst1).symm hP hD hS (lv_sub hl [] rfl)
      · rw [if_neg c2] at hst1
        refine lv_iload_n hx hb dX3_findFirst_33 rfl (lv_at hl 0 rfl) ?_
        refine lv_aload_n hx hb dX3_findFirst_34 rfl (lv_at hl 2 rfl) ?_
        refine va_get (D := g.1) (ci := 1) (v := .ref (adh 13)) (C := RX1) (T := TX1) (N := 18) hx hb hts (fun w h => List.mem_cons_of_mem _ (List.mem_append_left _ (List.mem_append_left _ (List.mem_append_left _ (List.mem_append_right _ h))))) hown hK hP 4 rfl rfl 11 (by decide) (hts (.fieldLink RX3 107 "PauseRegions$Heap" "greyThings" "LPauseRegions$Row;") (List.mem_of_getElem? (i := 2) rfl)) (fun _ h9 => h9) rfl dX3_findFirst_35 ?_
        refine va_get (D := g.1) (ci := 5) (v := .int (Ah 19 0)) (C := RX5) (T := TX5) (N := 2) hx hb hts (fun w h => List.mem_cons_of_mem _ (List.mem_append_left _ (List.mem_append_left _ (List.mem_append_right _ h)))) hown hK hP 17 rfl rfl 1 (by decide) (hts (.fieldLink RX3 58 "PauseRegions$Row" "length" "I") (List.mem_of_getElem? (i := 3) rfl)) (fun _ h9 => h9) rfl dX3_findFirst_38 ?_
        refine lv_icmp_ge (tgt := 63) hx hb dX3_findFirst_41 (by decide) (fun c3 => ?_) (fun c3 => ?_)
        · rw [if_pos c3] at hst1
          exact hout1 H locs ls _ (Option.some.inj hst1).symm hP hD hS (lv_sub hl [] rfl)
        · rw [if_neg c3] at hst1
          refine lv_aload_n hx hb dX3_findFirst_44 rfl (lv_at hl 1 rfl) ?_
          refine lv_aload_n hx hb dX3_findFirst_45 rfl (lv_at hl 2 rfl) ?_
          refine lv_aload_n hx hb dX3_findFirst_46 rfl (lv_at hl 2 rfl) ?_
          refine va_get (D := g.1) (ci := 1) (v := .ref (adh 13)) (C := RX1) (T := TX1) (N := 18) hx hb hts (fun w h => List.mem_cons_of_mem _ (List.mem_append_left _ (List.mem_append_left _ (List.mem_append_left _ (List.mem_append_right _ h))))) hown hK hP 4 rfl rfl 11 (by decide) (hts (.fieldLink RX3 107 "PauseRegions$Heap" "greyThings" "LPauseRegions$Row;") (List.mem_of_getElem? (i := 2) rfl)) (fun _ h9 => h9) rfl dX3_findFirst_47 ?_
          refine lv_iload_n hx hb dX3_findFirst_50 rfl (lv_at hl 0 rfl) ?_
          obtain ⟨x1, hc3, hst1⟩ := bn_some hst1
          refine pcV (C := RX5) (As := [.int q3.1]) (rest := [.ref (adh 0), .ref (ad 0)]) ⟨hx, hb, hml, hown, hts⟩ hKK (cwV 1 hts gX3_findFirst_X5_itemAt rfl rfl rfl hdX5_itemAt ⟨Nat.le_of_ble_eq_true rfl, Nat.le_of_ble_eq_true rfl⟩) (kX5_itemAt (l := l) (g := g) (hP.sub (ws' := wRow g (adh 13) (adh 14) (Ah 11) (Ah 19 0)) [17, 18] rfl) hc3) (va_recv hK hP (ci := 5) (q0 := 17) rfl rfl) rfl hl.1 rfl (Nat.le_of_ble_eq_true rfl) dX3_findFirst_51 ⟨Nat.zero_le _, Nat.zero_le _⟩ ?_
          obtain ⟨z2, hc4, hst1⟩ := bn_some hst1
          refine mcV (C := RX3) (As := [.ref (adh 0), .int x1]) (rest := []) ⟨hx, hb, hml, hown, hts⟩ hKK hP hD hS hZ (cwV 2 hts gX3_findFirst_X3_find rfl rfl rfl hdX3_find ⟨Nat.le_of_ble_eq_true rfl, Nat.le_of_ble_eq_true rfl⟩) (kX3_find (l := l) (g := g) (ad := ad) (A := q3.2) (F := F) (adh := adh) (Ah := Ah) (Fh := Fh) hc4) (va_recv hK hP (ci := 3) (q0 := 0) rfl rfl) rfl hl.1 rfl (Nat.le_of_ble_eq_true rfl) dX3_findFirst_54 ⟨Nat.zero_le _, Nat.zero_le _⟩ (fun H locs hP hD hS => ?_)
          have hP : va_P g.1 vwCl ((wPa g ad z2 F) ++ (wH g adh Ah Fh)) H := hP
          have hD : va_D Z ((wPa g ad z2 F) ++ (wH g adh Ah Fh)) := hD
          refine lv_iinc (v := q3.1 + 1) (lv' := [(2, .int (q3.1 + 1)), (0, .ref (ad 0)), (1, .ref (adh 0))]) hx hb dX3_findFirst_57 hl (k := 0) rfl rfl (by decide) rfl (fun ls hl => ?_)
          refine lv_goto (tgt := 27) hx hb dX3_findFirst_60 (by decide) ?_
          exact hin1 H locs ls _ (Option.some.inj hst1).symm hP hD hS (lv_sub hl [0, 1, 2] rfl)
  · unfold sX3_findFirst_L2 at hst1
    have hP : va_P g.1 vwCl ((wPa g ad q1.2 F) ++ (wH g adh Ah Fh)) H := hP
    have hD : va_D Z ((wPa g ad q1.2 F) ++ (wH g adh Ah Fh)) := hD
    refine lv_iload_n hx hb dX3_findFirst_2 rfl (lv_at hl 0 rfl) ?_
    refine lv_bipush (v := 6) hx hb dX3_findFirst_3 (by decide) ?_
    refine lv_icmp_ge (tgt := 25) hx hb dX3_findFirst_5 (by decide) (fun c1 => ?_) (fun c1 => ?_)
    · rw [if_pos c1] at hst1
      exact hout1 H locs ls _ (Option.some.inj hst1).symm hP hD hS (lv_sub hl [1, 2] rfl)
    · rw [if_neg c1] at hst1
      refine lv_aload_n hx hb dX3_findFirst_8 rfl (lv_at hl 1 rfl) ?_
      refine lv_aload_n hx hb dX3_findFirst_9 rfl (lv_at hl 2 rfl) ?_
      refine lv_aload_n hx hb dX3_findFirst_10 rfl (lv_at hl 2 rfl) ?_
      refine va_get (D := g.1) (ci := 1) (v := .ref (adh 10)) (C := RX1) (T := TX1) (N := 18) hx hb hts (fun w h => List.mem_cons_of_mem _ (List.mem_append_left _ (List.mem_append_left _ (List.mem_append_left _ (List.mem_append_right _ h))))) hown hK hP 4 rfl rfl 9 (by decide) (hts (.fieldLink RX3 101 "PauseRegions$Heap" "roots" "[I") (List.mem_of_getElem? (i := 1) rfl)) (fun _ h9 => h9) rfl dX3_findFirst_11 ?_
      refine lv_iload_n hx hb dX3_findFirst_14 rfl (lv_at hl 0 rfl) ?_
      obtain ⟨h1, hst1⟩ := ck_some hst1
      refine va_iald (D := g.1) hx hb hK hP 14 0 rfl rfl h1 dX3_findFirst_15 ?_
      obtain ⟨z1, hc1, hst1⟩ := bn_some hst1
      refine mcV (C := RX3) (As := [.ref (adh 0), .int ((Ah 9) q1.1.toNatClampNeg)]) (rest := []) ⟨hx, hb, hml, hown, hts⟩ hKK hP hD hS hZ (cwV 2 hts gX3_findFirst_X3_find rfl rfl rfl hdX3_find ⟨Nat.le_of_ble_eq_true rfl, Nat.le_of_ble_eq_true rfl⟩) (kX3_find (l := l) (g := g) (ad := ad) (A := q1.2) (F := F) (adh := adh) (Ah := Ah) (Fh := Fh) hc1) (va_recv hK hP (ci := 3) (q0 := 0) rfl rfl) rfl hl.1 rfl (Nat.le_of_ble_eq_true rfl) dX3_findFirst_16 ⟨Nat.zero_le _, Nat.zero_le _⟩ (fun H locs hP hD hS => ?_)
      have hP : va_P g.1 vwCl ((wPa g ad z1 F) ++ (wH g adh Ah Fh)) H := hP
      have hD : va_D Z ((wPa g ad z1 F) ++ (wH g adh Ah Fh)) := hD
      refine lv_iinc (v := q1.1 + 1) (lv' := [(2, .int (q1.1 + 1)), (0, .ref (ad 0)), (1, .ref (adh 0))]) hx hb dX3_findFirst_19 hl (k := 0) rfl rfl (by decide) rfl (fun ls hl => ?_)
      refine lv_goto (tgt := 2) hx hb dX3_findFirst_22 (by decide) ?_
      exact hin1 H locs ls _ (Option.some.inj hst1).symm hP hD hS (lv_sub hl [0, 1, 2] rfl)
def sX3_forgetLast (A : IA) : Option (IA) :=
  bd (sc A 9 0) fun A1 => bd (sc A1 3 (-9)) fun A2 => bd (sc A2 4 0) fun A3 => bd (sc A3 8 0) fun A4 => bd (sc A4 5 0) fun A5 => bd (sc A5 6 0) fun A6 => bd (sc A6 7 0) fun A7 => some A7
abbrev rmX3_forgetLast : Room := { frames := 0, cells := 0, slots := 0, locals := 0 }
theorem hdX3_forgetLast : yX3_forgetLast.cls = RX3 ∧ yX3_forgetLast.cls ≠ "java/lang/invoke/MethodHandle" ∧ yX3_forgetLast.cls ≠ "java/lang/invoke/VarHandle" ∧ (parseMethodDescriptor yX3_forgetLast.desc).map (fun d => d.parameters.length) = some 0 := by decide +kernel
set_option maxHeartbeats 4000000 in
set_option maxRecDepth 100000 in
theorem kX3_forgetLast {l : Launch} {g : GG} {sz : Nat} {ad : Nat → Nat} {A : IA} {F : FA} {b : IA} (hsem : sX3_forgetLast A = some b) : MetV l yX3_forgetLast wsX3_forgetLast rmX3_forgetLast g [.ref (ad 0)] (wPa g ad A F) sz (wPa g ad b F) := by
  refine Met.ofW (cc := cX3_forgetLast) (maxL := 1) (ret := none) (by decide) rfl ?_
  intro p e s m args below meth c s₁ B hml hv
  obtain ⟨rfl, hsz, hP, hD0, hKK⟩ := hv
  subst hsz
  have hx := B.exec
  have hb := B.bytes
  have hr := B.returns
  have hts := atoms_spec (ws := wsX3_forgetLast) B.pre
  have hown : s.vm.findClass RX3 = some m.cls := findClass_of_methodNamed B.named
  have hlocks := B.notSynchronized
  have hK := hKK.1
  have hD := hD0.self (sz := s.heap.size)
  generalize hZe : va_A (wPa g ad A F) s.heap.size = Z at hD ⊢
  have hZ : ∀ q : Nat, s.heap.size ≤ q → Z q := fun q h => by rw [← hZe]; exact Or.inr h
  have hS : va_S Z s.heap s.heap [] := va_S.rf
  have hP : va_P g.1 vwCl (wPa g ad A F) s.heap := hP
  have hD : va_D Z (wPa g ad A F) := hD
  have hl := lv_entry ([.ref (ad 0)]) (n := 1) (Nat.le_of_ble_eq_true rfl)
  rw [lg_entry_eq]
  generalize (lg_sl ([.ref (ad 0)]) ++ List.replicate (1 - (lg_sl ([.ref (ad 0)])).length) Slot.unset).toArray = ls at hl ⊢
  have hl : lv_has ls 1 [(0, .ref (ad 0))] := hl
  unfold sX3_forgetLast at hsem
  refine lv_aload_n hx hb dX3_forgetLast_0 rfl (lv_at hl 0 rfl) ?_
  refine va_get (D := g.1) (ci := 3) (v := .ref (ad 2)) (C := RX3) (T := TX3) (N := 8) hx hb hts (fun w h => List.mem_cons_of_mem _ (List.mem_append_left _ (List.mem_append_right _ h))) hown hK hP 0 rfl rfl 1 (by decide) (hts (.fieldLink RX3 21 "PauseRegions$Pause" "found" "LPauseRegions$Row;") (List.mem_of_getElem? (i := 1) rfl)) (fun _ h9 => h9) rfl dX3_forgetLast_1 ?_
  refine lv_iconst (v := 0) hx hb dX3_forgetLast_4 (by decide) ?_
  refine va_put (D := g.1) (ci := 5) (v := .int 0) (ty := .int) (C := RX5) (T := TX5) (N := 2) hx hb hts (fun w h => List.mem_cons_of_mem _ (List.mem_append_right _ h)) tyX5 tyX5_ok nmX5 hown hK hP hD hS 2 rfl rfl 1 (by decide) (hts (.fieldLink RX3 58 "PauseRegions$Row" "length" "I") (List.mem_of_getElem? (i := 2) rfl)) (fun _ h9 => h9) rfl (by decide +kernel) rfl rfl (Nat.le_of_ble_eq_true rfl) dX3_forgetLast_5 (fun H locs hP hD hS => ?_)
  obtain ⟨A1, eA1, hsem⟩ := bd_some hsem
  have hP : va_P g.1 vwCl (wPa g ad A1 F) H := by rw [eA1]; exact hP
  have hD : va_D Z (wPa g ad A1 F) := by rw [eA1]; exact hD
  refine lv_aload_n hx hb dX3_forgetLast_8 rfl (lv_at hl 0 rfl) ?_
  refine lv_bipush (v := (-9)) hx hb dX3_forgetLast_9 (by decide) ?_
  refine va_put (D := g.1) (ci := 3) (v := .int (-9)) (ty := .int) (C := RX3) (T := TX3) (N := 8) hx hb hts (fun w h => List.mem_cons_of_mem _ (List.mem_append_left _ (List.mem_append_right _ h))) tyX3 tyX3_ok nmX3 hown hK hP hD hS 0 rfl rfl 2 (by decide) (hts (.fieldLink RX3 62 "PauseRegions$Pause" "target" "I") (List.mem_of_getElem? (i := 3) rfl)) (fun _ h9 => h9) rfl (by decide +kernel) rfl rfl (Nat.le_of_ble_eq_true rfl) dX3_forgetLast_11 (fun H locs hP hD hS => ?_)
  obtain ⟨A2, eA2, hsem⟩ := bd_some hsem
  have hP : va_P g.1 vwCl (wPa g ad A2 F) H := by rw [eA2]; exact hP
  have hD : va_D Z (wPa g ad A2 F) := by rw [eA2]; exact hD
  refine lv_aload_n hx hb dX3_forgetLast_14 rfl (lv_at hl 0 rfl) ?_
  refine lv_iconst (v := 0) hx hb dX3_forgetLast_15 (by decide) ?_
  refine va_put (D := g.1) (ci := 3) (v := .int 0) (ty := .int) (C := RX3) (T := TX3) (N := 8) hx hb hts (fun w h => List.mem_cons_of_mem _ (List.mem_append_left _ (List.mem_append_right _ h))) tyX3 tyX3_ok nmX3 hown hK hP hD hS 0 rfl rfl 3 (by decide) (hts (.fieldLink RX3 65 "PauseRegions$Pause" "scanned" "I") (List.mem_of_getElem? (i := 4) rfl)) (fun _ h9 => h9) rfl (by decide +kernel) rfl rfl (Nat.le_of_ble_eq_true rfl) dX3_forgetLast_16 (fun H locs hP hD hS => ?_)
  obtain ⟨A3, eA3, hsem⟩ := bd_some hsem
  have hP : va_P g.1 vwCl (wPa g ad A3 F) H := by rw [eA3]; exact hP
  have hD : va_D Z (wPa g ad A3 F) := by rw [eA3]; exact hD
  refine lv_aload_n hx hb dX3_forgetLast_19 rfl (lv_at hl 0 rfl) ?_
  refine lv_iconst (v := 0) hx hb dX3_forgetLast_20 (by decide) ?_
  refine va_put (D := g.1) (ci := 3) (v := .int 0) (ty := .int) (C := RX3) (T := TX3) (N := 8) hx hb hts (fun w h => List.mem_cons_of_mem _ (List.mem_append_left _ (List.mem_append_right _ h))) tyX3 tyX3_ok nmX3 hown hK hP hD hS 0 rfl rfl 4 (by decide) (hts (.fieldLink RX3 68 "PauseRegions$Pause" "stayed" "I") (List.mem_of_getElem? (i := 5) rfl)) (fun _ h9 => h9) rfl (by decide +kernel) rfl rfl (Nat.le_of_ble_eq_true rfl) dX3_forgetLast_21 (fun H locs hP hD hS => ?_)
  obtain ⟨A4, eA4, hsem⟩ := bd_some hsem
  have hP : va_P g.1 vwCl (wPa g ad A4 F) H := by rw [eA4]; exact hP
  have hD : va_D Z (wPa g ad A4 F) := by rw [eA4]; exact hD
  refine lv_aload_n hx hb dX3_forgetLast_24 rfl (lv_at hl 0 rfl) ?_
  refine lv_iconst (v := 0) hx hb dX3_forgetLast_25 (by decide) ?_
  refine va_put (D := g.1) (ci := 3) (v := .int 0) (ty := .int) (C := RX3) (T := TX3) (N := 8) hx hb hts (fun w h => List.mem_cons_of_mem _ (List.mem_append_left _ (List.mem_append_right _ h))) tyX3 tyX3_ok nmX3 hown hK hP hD hS 0 rfl rfl 5 (by decide) (hts (.fieldLink RX3 71 "PauseRegions$Pause" "foundCells" "I") (List.mem_of_getElem? (i := 6) rfl)) (fun _ h9 => h9) rfl (by decide +kernel) rfl rfl (Nat.le_of_ble_eq_true rfl) dX3_forgetLast_26 (fun H locs hP hD hS => ?_)
  obtain ⟨A5, eA5, hsem⟩ := bd_some hsem
  have hP : va_P g.1 vwCl (wPa g ad A5 F) H := by rw [eA5]; exact hP
  have hD : va_D Z (wPa g ad A5 F) := by rw [eA5]; exact hD
  refine lv_aload_n hx hb dX3_forgetLast_29 rfl (lv_at hl 0 rfl) ?_
  refine lv_iconst (v := 0) hx hb dX3_forgetLast_30 (by decide) ?_
  refine va_put (D := g.1) (ci := 3) (v := .int 0) (ty := .int) (C := RX3) (T := TX3) (N := 8) hx hb hts (fun w h => List.mem_cons_of_mem _ (List.mem_append_left _ (List.mem_append_right _ h))) tyX3 tyX3_ok nmX3 hown hK hP hD hS 0 rfl rfl 6 (by decide) (hts (.fieldLink RX3 74 "PauseRegions$Pause" "foundYoungCells" "I") (List.mem_of_getElem? (i := 7) rfl)) (fun _ h9 => h9) rfl (by decide +kernel) rfl rfl (Nat.le_of_ble_eq_true rfl) dX3_forgetLast_31 (fun H locs hP hD hS => ?_)
  obtain ⟨A6, eA6, hsem⟩ := bd_some hsem
  have hP : va_P g.1 vwCl (wPa g ad A6 F) H := by rw [eA6]; exact hP
  have hD : va_D Z (wPa g ad A6 F) := by rw [eA6]; exact hD
  refine lv_aload_n hx hb dX3_forgetLast_34 rfl (lv_at hl 0 rfl) ?_
  refine lv_iconst (v := 0) hx hb dX3_forgetLast_35 (by decide) ?_
  refine va_put (D := g.1) (ci := 3) (v := .int 0) (ty := .int) (C := RX3) (T := TX3) (N := 8) hx hb hts (fun w h => List.mem_cons_of_mem _ (List.mem_append_left _ (List.mem_append_right _ h))) tyX3 tyX3_ok nmX3 hown hK hP hD hS 0 rfl rfl 7 (by decide) (hts (.fieldLink RX3 77 "PauseRegions$Pause" "copiedCells" "I") (List.mem_of_getElem? (i := 8) rfl)) (fun _ h9 => h9) rfl (by decide +kernel) rfl rfl (Nat.le_of_ble_eq_true rfl) dX3_forgetLast_36 (fun H locs hP hD hS => ?_)
  obtain ⟨A7, eA7, hsem⟩ := bd_some hsem
  have hP : va_P g.1 vwCl (wPa g ad A7 F) H := by rw [eA7]; exact hP
  have hD : va_D Z (wPa g ad A7 F) := by rw [eA7]; exact hD
  have eo := (Option.some.inj hsem).symm.symm
  subst eo
  exact W.vret hx hb hr (fun t ht hW => ⟨⟨(), rfl, trivial, ⟨by rw [ht]; exact hP, hD⟩⟩, hS.F ht⟩) hS.2.2 dX3_forgetLast_39
def sX3_move (A : IA) (Ah : IA) (p1 : Int32) : Option (IA × IA) :=
  ck p1 32 ((sX1_hasRoom Ah (A 3 0) ((Ah 4) p1.toNatClampNeg)).bind fun x1 => if x1 = 0 then ((sX1_freeRow Ah 1).bind fun x2 => if x2 = (-9) then (bd (sc A 8 ((A 8 0) ||| (1 <<< (p1 &&& 31)))) fun A5 => some (A5, Ah)) else (ck x2 10 (bd (wr Ah 0 x2.toNatClampNeg 2) fun A2h => bd (sc A 3 x2) fun A3 => (sX1_layAtTop A2h p1 (A3 3 0)).bind fun z2 => ck p1 32 (bd (sc A3 7 ((A3 7 0) + ((z2 4) p1.toNatClampNeg))) fun A4 => some (A4, z2))))) else ((sX1_layAtTop Ah p1 (A 3 0)).bind fun z1 => ck p1 32 (bd (sc A 7 ((A 7 0) + ((z1 4) p1.toNatClampNeg))) fun A1 => some (A1, z1))))
abbrev rmX3_move : Room := { frames := 1, cells := 0, slots := 0, locals := 23 }
theorem hdX3_move : yX3_move.cls = RX3 ∧ yX3_move.cls ≠ "java/lang/invoke/MethodHandle" ∧ yX3_move.cls ≠ "java/lang/invoke/VarHandle" ∧ (parseMethodDescriptor yX3_move.desc).map (fun d => d.parameters.length) = some 2 := by decide +kernel
set_option maxHeartbeats 4000000 in
set_option maxRecDepth 100000 in
theorem kX3_move {l : Launch} {g : GG} {sz : Nat} {ad : Nat → Nat} {A : IA} {F : FA} {adh : Nat → Nat} {Ah : IA} {Fh : FA} {p1 : Int32} {b : IA × IA} (hsem : sX3_move A Ah p1 = some b) : MetV l yX3_move wsX3_move rmX3_move g [.ref (ad 0), .ref (adh 0), .int p1] ((wPa g ad A F) ++ (wH g adh Ah Fh)) sz ((wPa g ad b.1 F) ++ (wH g adh b.2 Fh)) := by
  refine Met.ofW (cc := cX3_move) (maxL := 4) (ret := none) (by decide) rfl ?_
  intro p e s m args below meth c s₁ B hml hv
  obtain ⟨rfl, hsz, hP, hD0, hKK⟩ := hv
  subst hsz
  have hx := B.exec
  have hb := B.bytes
  have hr := B.returns
  have hts := atoms_spec (ws := wsX3_move) B.pre
  have hown : s.vm.findClass RX3 = some m.cls := findClass_of_methodNamed B.named
  have hlocks := B.notSynchronized
  have hK := hKK.1
  have hD := hD0.self (sz := s.heap.size)
  generalize hZe : va_A ((wPa g ad A F) ++ (wH g adh Ah Fh)) s.heap.size = Z at hD ⊢
  have hZ : ∀ q : Nat, s.heap.size ≤ q → Z q := fun q h => by rw [← hZe]; exact Or.inr h
  have hS : va_S Z s.heap s.heap [] := va_S.rf
  have hP : va_P g.1 vwCl ((wPa g ad A F) ++ (wH g adh Ah Fh)) s.heap := hP
  have hD : va_D Z ((wPa g ad A F) ++ (wH g adh Ah Fh)) := hD
  have hl := lv_entry ([.ref (ad 0), .ref (adh 0), .int p1]) (n := 4) (Nat.le_of_ble_eq_true rfl)
  rw [lg_entry_eq]
  generalize (lg_sl ([.ref (ad 0), .ref (adh 0), .int p1]) ++ List.replicate (4 - (lg_sl ([.ref (ad 0), .ref (adh 0), .int p1])).length) Slot.unset).toArray = ls at hl ⊢
  have hl : lv_has ls 4 [(0, .ref (ad 0)), (1, .ref (adh 0)), (2, .int p1)] := hl
  unfold sX3_move at hsem
  refine lv_aload_n hx hb dX3_move_0 rfl (lv_at hl 1 rfl) ?_
  refine lv_aload_n hx hb dX3_move_1 rfl (lv_at hl 0 rfl) ?_
  refine va_get (D := g.1) (ci := 3) (v := .int (A 3 0)) (C := RX3) (T := TX3) (N := 8) hx hb hts (fun w h => List.mem_cons_of_mem _ (List.mem_append_left _ (List.mem_append_right _ h))) hown hK hP 0 rfl rfl 2 (by decide) (hts (.fieldLink RX3 62 "PauseRegions$Pause" "target" "I") (List.mem_of_getElem? (i := 1) rfl)) (fun _ h9 => h9) rfl dX3_move_2 ?_
  refine lv_aload_n hx hb dX3_move_5 rfl (lv_at hl 1 rfl) ?_
  refine va_get (D := g.1) (ci := 1) (v := .ref (adh 5)) (C := RX1) (T := TX1) (N := 18) hx hb hts (fun w h => List.mem_cons_of_mem _ (List.mem_append_right _ h)) hown hK hP 4 rfl rfl 4 (by decide) (hts (.fieldLink RX3 95 "PauseRegions$Heap" "size" "[I") (List.mem_of_getElem? (i := 2) rfl)) (fun _ h9 => h9) rfl dX3_move_6 ?_
  refine lv_iload_n hx hb dX3_move_9 rfl (lv_at hl 2 rfl) ?_
  obtain ⟨h1, hsem⟩ := ck_some hsem
  refine va_iald (D := g.1) hx hb hK hP 9 0 rfl rfl h1 dX3_move_10 ?_
  obtain ⟨x1, hc1, hsem⟩ := bn_some hsem
  refine pcV (C := RX1) (As := [.int (A 3 0), .int ((Ah 4) p1.toNatClampNeg)]) (rest := []) ⟨hx, hb, hml, hown, hts⟩ hKK (cwV 2 hts gX3_move_X1_hasRoom rfl rfl rfl hdX1_hasRoom ⟨Nat.le_of_ble_eq_true rfl, Nat.le_of_ble_eq_true rfl⟩) (kX1_hasRoom (l := l) (g := g) (hP.sub (ws' := wH g adh Ah Fh) [4, 5, 6, 7, 8, 9, 10, 11, 12, 13, 14, 15, 16, 17, 18] rfl) hc1) (va_recv hK hP (ci := 1) (q0 := 4) rfl rfl) rfl hl.1 rfl (Nat.le_of_ble_eq_true rfl) dX3_move_11 ⟨Nat.zero_le _, Nat.zero_le _⟩ ?_
  refine lv_if_ne (tgt := 54) hx hb dX3_move_14 (by decide) (fun c1 => ?_) (fun c1 => ?_)
  · rw [if_neg c1] at hsem
    refine lv_aload_n hx hb dX3_move_54 rfl (lv_at hl 1 rfl) ?_
    refine lv_iload_n hx hb dX3_move_55 rfl (lv_at hl 2 rfl) ?_
    refine lv_aload_n hx hb dX3_move_56 rfl (lv_at hl 0 rfl) ?_
    refine va_get (D := g.1) (ci := 3) (v := .int (A 3 0)) (C := RX3) (T := TX3) (N := 8) hx hb hts (fun w h => List.mem_cons_of_mem _ (List.mem_append_left _ (List.mem_append_right _ h))) hown hK hP 0 rfl rfl 2 (by decide) (hts (.fieldLink RX3 62 "PauseRegions$Pause" "target" "I") (List.mem_of_getElem? (i := 1) rfl)) (fun _ h9 => h9) rfl dX3_move_57 ?_
    obtain ⟨z1, hc2, hsem⟩ := bn_some hsem
    refine mcVs (C := RX1) (As := [.int p1, .int (A 3 0)]) (rest := []) (wr := (wPa g ad A F)) ⟨hx, hb, hml, hown, hts⟩ hKK hP hD hS hZ [4, 5, 6, 7, 8, 9, 10, 11, 12, 13, 14, 15, 16, 17, 18] [0, 1, 2, 3] rfl rfl (by decide) (by decide) (by decide) (cwV 2 hts gX3_move_X1_layAtTop rfl rfl rfl hdX1_layAtTop ⟨Nat.le_of_ble_eq_true rfl, Nat.le_of_ble_eq_true rfl⟩) (kX1_layAtTop (l := l) (g := g) (ad := adh) (A := Ah) (F := Fh) hc2) (va_recv hK hP (ci := 1) (q0 := 4) rfl rfl) rfl hl.1 rfl (Nat.le_of_ble_eq_true rfl) dX3_move_60 ⟨Nat.zero_le _, Nat.zero_le _⟩ (fun H locs hP hD hS => ?_)
    have hP : va_P g.1 vwCl ((wPa g ad A F) ++ (wH g adh z1 Fh)) H := hP.sub [0, 1, 2, 3, 4, 5, 6, 7, 8, 9, 10, 11, 12, 13, 14, 15, 16, 17, 18] rfl
    have hD : va_D Z ((wPa g ad A F) ++ (wH g adh z1 Fh)) := hD.sub [0, 1, 2, 3, 4, 5, 6, 7, 8, 9, 10, 11, 12, 13, 14, 15, 16, 17, 18] (by decide) rfl
    refine lv_aload_n hx hb dX3_move_63 rfl (lv_at hl 0 rfl) ?_
    refine lv_dup hx hb dX3_move_64 rfl ?_
    refine va_get (D := g.1) (ci := 3) (v := .int (A 7 0)) (C := RX3) (T := TX3) (N := 8) hx hb hts (fun w h => List.mem_cons_of_mem _ (List.mem_append_left _ (List.mem_append_right _ h))) hown hK hP 0 rfl rfl 7 (by decide) (hts (.fieldLink RX3 77 "PauseRegions$Pause" "copiedCells" "I") (List.mem_of_getElem? (i := 5) rfl)) (fun _ h9 => h9) rfl dX3_move_65 ?_
    refine lv_aload_n hx hb dX3_move_68 rfl (lv_at hl 1 rfl) ?_
    refine va_get (D := g.1) (ci := 1) (v := .ref (adh 5)) (C := RX1) (T := TX1) (N := 18) hx hb hts (fun w h => List.mem_cons_of_mem _ (List.mem_append_right _ h)) hown hK hP 4 rfl rfl 4 (by decide) (hts (.fieldLink RX3 95 "PauseRegions$Heap" "size" "[I") (List.mem_of_getElem? (i := 2) rfl)) (fun _ h9 => h9) rfl dX3_move_69 ?_
    refine lv_iload_n hx hb dX3_move_72 rfl (lv_at hl 2 rfl) ?_
    obtain ⟨h2, hsem⟩ := ck_some hsem
    refine va_iald (D := g.1) hx hb hK hP 9 0 rfl rfl h2 dX3_move_73 ?_
    refine lv_iadd hx hb dX3_move_74 ?_
    refine va_put (D := g.1) (ci := 3) (v := .int ((A 7 0) + ((z1 4) p1.toNatClampNeg))) (ty := .int) (C := RX3) (T := TX3) (N := 8) hx hb hts (fun w h => List.mem_cons_of_mem _ (List.mem_append_left _ (List.mem_append_right _ h))) tyX3 tyX3_ok nmX3 hown hK hP hD hS 0 rfl rfl 7 (by decide) (hts (.fieldLink RX3 77 "PauseRegions$Pause" "copiedCells" "I") (List.mem_of_getElem? (i := 5) rfl)) (fun _ h9 => h9) rfl (by decide +kernel) rfl rfl (Nat.le_of_ble_eq_true rfl) dX3_move_75 (fun H locs hP hD hS => ?_)
    obtain ⟨A1, eA1, hsem⟩ := bd_some hsem
    have hP : va_P g.1 vwCl ((wPa g ad A1 F) ++ (wH g adh z1 Fh)) H := by rw [eA1]; exact hP
    have hD : va_D Z ((wPa g ad A1 F) ++ (wH g adh z1 Fh)) := by rw [eA1]; exact hD
    have eo := (Option.some.inj hsem).symm.symm
    subst eo
    exact W.vret hx hb hr (fun t ht hW => ⟨⟨(), rfl, trivial, ⟨by rw [ht]; exact hP, hD⟩⟩, hS.F ht⟩) hS.2.2 dX3_move_78
  · rw [if_pos c1] at hsem
    refine lv_aload_n hx hb dX3_move_17 rfl (lv_at hl 1 rfl) ?_
    refine lv_iconst (v := 1) hx hb dX3_move_18 (by decide) ?_
    obtain ⟨x2, hc3, hsem⟩ := bn_some hsem
    refine pcV (C := RX1) (As := [.int 1]) (rest := []) ⟨hx, hb, hml, hown, hts⟩ hKK (cwV 1 hts gX3_move_X1_freeRow rfl rfl rfl hdX1_freeRow ⟨Nat.le_of_ble_eq_true rfl, Nat.le_of_ble_eq_true rfl⟩) (kX1_freeRow (l := l) (g := g) (hP.sub (ws' := wH g adh Ah Fh) [4, 5, 6, 7, 8, 9, 10, 11, 12, 13, 14, 15, 16, 17, 18] rfl) hc3) (va_recv hK hP (ci := 1) (q0 := 4) rfl rfl) rfl hl.1 rfl (Nat.le_of_ble_eq_true rfl) dX3_move_19 ⟨Nat.zero_le _, Nat.zero_le _⟩ ?_
    refine lv_istore_n (lv' := [(3, .int x2), (0, .ref (ad 0)), (1, .ref (adh 0)), (2, .int p1)]) hx hb dX3_move_22 rfl hl (by decide) rfl (fun ls hl => ?_)
    refine lv_iload_n hx hb dX3_move_23 rfl (lv_at hl 0 rfl) ?_
    refine lv_bipush (v := (-9)) hx hb dX3_move_24 (by decide) ?_
    refine lv_icmp_ne (tgt := 42) hx hb dX3_move_26 (by decide) (fun c2 => ?_) (fun c2 => ?_)
    · rw [if_neg c2] at hsem
      refine lv_aload_n hx hb dX3_move_42 rfl (lv_at hl 2 rfl) ?_
      refine va_get (D := g.1) (ci := 1) (v := .ref (adh 1)) (C := RX1) (T := TX1) (N := 18) hx hb hts (fun w h => List.mem_cons_of_mem _ (List.mem_append_right _ h)) hown hK hP 4 rfl rfl 0 (by decide) (hts (.fieldLink RX3 98 "PauseRegions$Heap" "kind" "[I") (List.mem_of_getElem? (i := 4) rfl)) (fun _ h9 => h9) rfl dX3_move_43 ?_
      refine lv_iload_n hx hb dX3_move_46 rfl (lv_at hl 0 rfl) ?_
      refine lv_iconst (v := 2) hx hb dX3_move_47 (by decide) ?_
      obtain ⟨h3, hsem⟩ := ck_some hsem
      refine va_iast (D := g.1) hx hb hK hP hD hS 5 0 rfl rfl h3 dX3_move_48 (fun H locs hP hD hS => ?_)
      obtain ⟨A2h, eA2h, hsem⟩ := bd_some hsem
      have hP : va_P g.1 vwCl ((wPa g ad A F) ++ (wH g adh A2h Fh)) H := by rw [eA2h]; exact hP
      have hD : va_D Z ((wPa g ad A F) ++ (wH g adh A2h Fh)) := by rw [eA2h]; exact hD
      refine lv_aload_n hx hb dX3_move_49 rfl (lv_at hl 1 rfl) ?_
      refine lv_iload_n hx hb dX3_move_50 rfl (lv_at hl 0 rfl) ?_
      refine va_put (D := g.1) (ci := 3) (v := .int x2) (ty := .int) (C := RX3) (T := TX3) (N := 8) hx hb hts (fun w h => List.mem_cons_of_mem _ (List.mem_append_left _ (List.mem_append_right _ h))) tyX3 tyX3_ok nmX3 hown hK hP hD hS 0 rfl rfl 2 (by decide) (hts (.fieldLink RX3 62 "PauseRegions$Pause" "target" "I") (List.mem_of_getElem? (i := 1) rfl)) (fun _ h9 => h9) rfl (by decide +kernel) rfl rfl (Nat.le_of_ble_eq_true rfl) dX3_move_51 (fun H locs hP hD hS => ?_)
      obtain ⟨A3, eA3, hsem⟩ := bd_some hsem
      have hP : va_P g.1 vwCl ((wPa g ad A3 F) ++ (wH g adh A2h Fh)) H := by rw [eA3]; exact hP
      have hD : va_D Z ((wPa g ad A3 F) ++ (wH g adh A2h Fh)) := by rw [eA3]; exact hD
      refine lv_aload_n hx hb dX3_move_54 rfl (lv_at hl 2 rfl) ?_
      refine lv_iload_n hx hb dX3_move_55 rfl (lv_at hl 3 rfl) ?_
      refine lv_aload_n hx hb dX3_move_56 rfl (lv_at hl 1 rfl) ?_
      refine va_get (D := g.1) (ci := 3) (v := .int (A3 3 0)) (C := RX3) (T := TX3) (N := 8) hx hb hts (fun w h => List.mem_cons_of_mem _ (List.mem_append_left _ (List.mem_append_right _ h))) hown hK hP 0 rfl rfl 2 (by decide) (hts (.fieldLink RX3 62 "PauseRegions$Pause" "target" "I") (List.mem_of_getElem? (i := 1) rfl)) (fun _ h9 => h9) rfl dX3_move_57 ?_
      obtain ⟨z2, hc4, hsem⟩ := bn_some hsem
      refine mcVs (C := RX1) (As := [.int p1, .int (A3 3 0)]) (rest := []) (wr := (wPa g ad A3 F)) ⟨hx, hb, hml, hown, hts⟩ hKK hP hD hS hZ [4, 5, 6, 7, 8, 9, 10, 11, 12, 13, 14, 15, 16, 17, 18] [0, 1, 2, 3] rfl rfl (by decide) (by decide) (by decide) (cwV 2 hts gX3_move_X1_layAtTop rfl rfl rfl hdX1_layAtTop ⟨Nat.le_of_ble_eq_true rfl, Nat.le_of_ble_eq_true rfl⟩) (kX1_layAtTop (l := l) (g := g) (ad := adh) (A := A2h) (F := Fh) hc4) (va_recv hK hP (ci := 1) (q0 := 4) rfl rfl) rfl hl.1 rfl (Nat.le_of_ble_eq_true rfl) dX3_move_60 ⟨Nat.zero_le _, Nat.zero_le _⟩ (fun H locs hP hD hS => ?_)
      have hP : va_P g.1 vwCl ((wPa g ad A3 F) ++ (wH g adh z2 Fh)) H := hP.sub [0, 1, 2, 3, 4, 5, 6, 7, 8, 9, 10, 11, 12, 13, 14, 15, 16, 17, 18] rfl
      have hD : va_D Z ((wPa g ad A3 F) ++ (wH g adh z2 Fh)) := hD.sub [0, 1, 2, 3, 4, 5, 6, 7, 8, 9, 10, 11, 12, 13, 14, 15, 16, 17, 18] (by decide) rfl
      refine lv_aload_n hx hb dX3_move_63 rfl (lv_at hl 1 rfl) ?_
      refine lv_dup hx hb dX3_move_64 rfl ?_
      refine va_get (D := g.1) (ci := 3) (v := .int (A3 7 0)) (C := RX3) (T := TX3) (N := 8) hx hb hts (fun w h => List.mem_cons_of_mem _ (List.mem_append_left _ (List.mem_append_right _ h))) hown hK hP 0 rfl rfl 7 (by decide) (hts (.fieldLink RX3 77 "PauseRegions$Pause" "copiedCells" "I") (List.mem_of_getElem? (i := 5) rfl)) (fun _ h9 => h9) rfl dX3_move_65 ?_
      refine lv_aload_n hx hb dX3_move_68 rfl (lv_at hl 2 rfl) ?_
      refine va_get (D := g.1) (ci := 1) (v := .ref (adh 5)) (C := RX1) (T := TX1) (N := 18) hx hb hts (fun w h => List.mem_cons_of_mem _ (List.mem_append_right _ h)) hown hK hP 4 rfl rfl 4 (by decide) (hts (.fieldLink RX3 95 "PauseRegions$Heap" "size" "[I") (List.mem_of_getElem? (i := 2) rfl)) (fun _ h9 => h9) rfl dX3_move_69 ?_
      refine lv_iload_n hx hb dX3_move_72 rfl (lv_at hl 3 rfl) ?_
      obtain ⟨h4, hsem⟩ := ck_some hsem
      refine va_iald (D := g.1) hx hb hK hP 9 0 rfl rfl h4 dX3_move_73 ?_
      refine lv_iadd hx hb dX3_move_74 ?_
      refine va_put (D := g.1) (ci := 3) (v := .int ((A3 7 0) + ((z2 4) p1.toNatClampNeg))) (ty := .int) (C := RX3) (T := TX3) (N := 8) hx hb hts (fun w h => List.mem_cons_of_mem _ (List.mem_append_left _ (List.mem_append_right _ h))) tyX3 tyX3_ok nmX3 hown hK hP hD hS 0 rfl rfl 7 (by decide) (hts (.fieldLink RX3 77 "PauseRegions$Pause" "copiedCells" "I") (List.mem_of_getElem? (i := 5) rfl)) (fun _ h9 => h9) rfl (by decide +kernel) rfl rfl (Nat.le_of_ble_eq_true rfl) dX3_move_75 (fun H locs hP hD hS => ?_)
      obtain ⟨A4, eA4, hsem⟩ := bd_some hsem
      have hP : va_P g.1 vwCl ((wPa g ad A4 F) ++ (wH g adh z2 Fh)) H := by rw [eA4]; exact hP
      have hD : va_D Z ((wPa g ad A4 F) ++ (wH g adh z2 Fh)) := by rw [eA4]; exact hD
      have eo := (Option.some.inj hsem).symm.symm
      subst eo
      exact W.vret hx hb hr (fun t ht hW => ⟨⟨(), rfl, trivial, ⟨by rw [ht]; exact hP, hD⟩⟩, hS.F ht⟩) hS.2.2 dX3_move_78
    · rw [if_pos c2] at hsem
      refine lv_aload_n hx hb dX3_move_29 rfl (lv_at hl 1 rfl) ?_
      refine lv_dup hx hb dX3_move_30 rfl ?_
      refine va_get (D := g.1) (ci := 3) (v := .int (A 8 0)) (C := RX3) (T := TX3) (N := 8) hx hb hts (fun w h => List.mem_cons_of_mem _ (List.mem_append_left _ (List.mem_append_right _ h))) hown hK hP 0 rfl rfl 4 (by decide) (hts (.fieldLink RX3 68 "PauseRegions$Pause" "stayed" "I") (List.mem_of_getElem? (i := 3) rfl)) (fun _ h9 => h9) rfl dX3_move_31 ?_
      refine lv_iconst (v := 1) hx hb dX3_move_34 (by decide) ?_
      refine lv_iload_n hx hb dX3_move_35 rfl (lv_at hl 3 rfl) ?_
      refine lv_ishl hx hb dX3_move_36 ?_
      refine lv_ior hx hb dX3_move_37 ?_
      refine va_put (D := g.1) (ci := 3) (v := .int ((A 8 0) ||| (1 <<< (p1 &&& 31)))) (ty := .int) (C := RX3) (T := TX3) (N := 8) hx hb hts (fun w h => List.mem_cons_of_mem _ (List.mem_append_left _ (List.mem_append_right _ h))) tyX3 tyX3_ok nmX3 hown hK hP hD hS 0 rfl rfl 4 (by decide) (hts (.fieldLink RX3 68 "PauseRegions$Pause" "stayed" "I") (List.mem_of_getElem? (i := 3) rfl)) (fun _ h9 => h9) rfl (by decide +kernel) rfl rfl (Nat.le_of_ble_eq_true rfl) dX3_move_38 (fun H locs hP hD hS => ?_)
      obtain ⟨A5, eA5, hsem⟩ := bd_some hsem
      have hP : va_P g.1 vwCl ((wPa g ad A5 F) ++ (wH g adh Ah Fh)) H := by rw [eA5]; exact hP
      have hD : va_D Z ((wPa g ad A5 F) ++ (wH g adh Ah Fh)) := by rw [eA5]; exact hD
      have eo := (Option.some.inj hsem).symm.symm
      subst eo
      exact W.vret hx hb hr (fun t ht hW => ⟨⟨(), rfl, trivial, ⟨by rw [ht]; exact hP, hD⟩⟩, hS.F ht⟩) hS.2.2 dX3_move_41
def sX3_moveFound_L2 (q1 : Int32 × IA × IA) : Option ((Int32 × IA × IA) ⊕ (IA × IA)) :=
  if 32 ≤ q1.1 then (some (.inr (q1.2.1, q1.2.2))) else (if (q1.2.1 9 0) ≤ q1.1 then (some (.inr (q1.2.1, q1.2.2))) else ((sX5_itemAt (q1.2.1 1) (q1.2.1 9 0) q1.1).bind fun x1 => (sX3_move q1.2.1 q1.2.2 x1).bind fun z1 => (sX3_findFields z1.1 z1.2 x1).bind fun z2 => some (.inl (q1.1 + 1, z2, z1.2))))
def sX3_moveFound (A : IA) (Ah : IA) : Option (IA × IA) :=
  (loopN (sX3_moveFound_L2) 2000 (0, A, Ah)).bind fun q2 => some (q2.1, q2.2)
abbrev rmX3_moveFound : Room := { frames := 3, cells := 0, slots := 0, locals := 66 }
theorem hdX3_moveFound : yX3_moveFound.cls = RX3 ∧ yX3_moveFound.cls ≠ "java/lang/invoke/MethodHandle" ∧ yX3_moveFound.cls ≠ "java/lang/invoke/VarHandle" ∧ (parseMethodDescriptor yX3_moveFound.desc).map (fun d => d.parameters.length) = some 1 := by decide +kernel
set_option maxHeartbeats 4000000 in
set_option maxRecDepth 100000 in
theorem kX3_moveFound {l : Launch} {g : GG} {sz : Nat} {ad : Nat → Nat} {A : IA} {F : FA} {adh : Nat → Nat} {Ah : IA} {Fh : FA} {b : IA × IA} (hsem : sX3_moveFound A Ah = some b) : MetV l yX3_moveFound wsX3_moveFound rmX3_moveFound g [.ref (ad 0), .ref (adh 0)] ((wPa g ad A F) ++ (wH g adh Ah Fh)) sz ((wPa g ad b.1 F) ++ (wH g adh b.2 Fh)) := by
  refine Met.ofW (cc := cX3_moveFound) (maxL := 4) (ret := none) (by decide) rfl ?_
  intro p e s m args below meth c s₁ B hml hv
  obtain ⟨rfl, hsz, hP, hD0, hKK⟩ := hv
  subst hsz
  have hx := B.exec
  have hb := B.bytes
  have hr := B.returns
  have hts := atoms_spec (ws := wsX3_moveFound) B.pre
  have hown : s.vm.findClass RX3 = some m.cls := findClass_of_methodNamed B.named
  have hlocks := B.notSynchronized
  have hK := hKK.1
  have hD := hD0.self (sz := s.heap.size)
  generalize hZe : va_A ((wPa g ad A F) ++ (wH g adh Ah Fh)) s.heap.size = Z at hD ⊢
  have hZ : ∀ q : Nat, s.heap.size ≤ q → Z q := fun q h => by rw [← hZe]; exact Or.inr h
  have hS : va_S Z s.heap s.heap [] := va_S.rf
  have hP : va_P g.1 vwCl ((wPa g ad A F) ++ (wH g adh Ah Fh)) s.heap := hP
  have hD : va_D Z ((wPa g ad A F) ++ (wH g adh Ah Fh)) := hD
  have hl := lv_entry ([.ref (ad 0), .ref (adh 0)]) (n := 4) (Nat.le_of_ble_eq_true rfl)
  rw [lg_entry_eq]
  generalize (lg_sl ([.ref (ad 0), .ref (adh 0)]) ++ List.replicate (4 - (lg_sl ([.ref (ad 0), .ref (adh 0)])).length) Slot.unset).toArray = ls at hl ⊢
  have hl : lv_has ls 4 [(0, .ref (ad 0)), (1, .ref (adh 0))] := hl
  unfold sX3_moveFound at hsem
  refine lv_iconst (v := 0) hx hb dX3_moveFound_0 (by decide) ?_
  refine lv_istore_n (lv' := [(2, .int 0), (0, .ref (ad 0)), (1, .ref (adh 0))]) hx hb dX3_moveFound_1 rfl hl (by decide) rfl (fun ls hl => ?_)
  obtain ⟨q2, hc4, hsem⟩ := bn_some hsem
  refine loopM (g := g) hc4 (fun (q1 : Int32 × IA × IA) => [(2, .int q1.1), (0, .ref (ad 0)), (1, .ref (adh 0))]) (fun (q1 : IA × IA) => []) (exit := 46) (fun (q1 : Int32 × IA × IA) => (wPa g ad q1.2.1 F) ++ (wH g adh q1.2.2 Fh)) (fun (q1 : IA × IA) => (wPa g ad q1.1 F) ++ (wH g adh q1.2 Fh)) hP hD hS (lv_sub hl [0, 1, 2] rfl) (fun H locs ls hP hD hS hl => ?_) (fun q1 r hst1 hin1 hout1 H locs ls hP hD hS hl => ?_)
  · have hP : va_P g.1 vwCl ((wPa g ad q2.1 F) ++ (wH g adh q2.2 Fh)) H := hP
    have hD : va_D Z ((wPa g ad q2.1 F) ++ (wH g adh q2.2 Fh)) := hD
    have eo := (Option.some.inj hsem).symm.symm
    subst eo
    exact W.vret hx hb hr (fun t ht hW => ⟨⟨(), rfl, trivial, ⟨by rw [ht]; exact hP, hD⟩⟩, hS.F ht⟩) hS.2.2 dX3_moveFound_46
  · unfold sX3_moveFound_L2 at hst1
    have hP : va_P g.1 vwCl ((wPa g ad q1.2.1 F) ++ (wH g adh q1.2.2 Fh)) H := hP
    have hD : va_D Z ((wPa g ad q1.2.1 F) ++ (wH g adh q1.2.2 Fh)) := hD
    refine lv_iload_n hx hb dX3_moveFound_2 rfl (lv_at hl 0 rfl) ?_
    refine lv_bipush (v := 32) hx hb dX3_moveFound_3 (by decide) ?_
    refine lv_icmp_ge (tgt := 46) hx hb dX3_moveFound_5 (by decide) (fun c1 => ?_) (fun c1 => ?_)
    · rw [if_pos c1] at hst1
      exact hout1 H locs ls _ (Option.some.inj hst1).symm hP hD hS (lv_sub hl [] rfl)
    · rw [if_neg c1] at hst1
      refine lv_iload_n hx hb dX3_moveFound_8 rfl (lv_at hl 0 rfl) ?_
      refine lv_aload_n hx hb dX3_moveFound_9 rfl (lv_at hl 1 rfl) ?_
      refine va_get (D := g.1) (ci := 3) (v := .ref (ad 2)) (C := RX3) (T := TX3) (N := 8) hx hb hts (fun w h => List.mem_cons_of_mem _ (List.mem_append_left _ (List.mem_append_left _ (List.mem_append_left _ (List.mem_append_right _ h))))) hown hK hP 0 rfl rfl 1 (by decide) (hts (.fieldLink RX3 21 "PauseRegions$Pause" "found" "LPauseRegions$Row;") (List.mem_of_getElem? (i := 1) rfl)) (fun _ h9 => h9) rfl dX3_moveFound_10 ?_
      refine va_get (D := g.1) (ci := 5) (v := .int (q1.2.1 9 0)) (C := RX5) (T := TX5) (N := 2) hx hb hts (fun w h => List.mem_cons_of_mem _ (List.mem_append_left _ (List.mem_append_left _ (List.mem_append_right _ h)))) hown hK hP 2 rfl rfl 1 (by decide) (hts (.fieldLink RX3 58 "PauseRegions$Row" "length" "I") (List.mem_of_getElem? (i := 2) rfl)) (fun _ h9 => h9) rfl dX3_moveFound_13 ?_
      refine lv_icmp_ge (tgt := 46) hx hb dX3_moveFound_16 (by decide) (fun c2 => ?_) (fun c2 => ?_)
      · rw [if_pos c2] at hst1
        exact hout1 H locs ls _ (Option.some.inj hst1).symm hP hD hS (lv_sub hl [] rfl)
      · rw [if_neg c2] at hst1
        refine lv_aload_n hx hb dX3_moveFound_19 rfl (lv_at hl 1 rfl) ?_
        refine va_get (D := g.1) (ci := 3) (v := .ref (ad 2)) (C := RX3) (T := TX3) (N := 8) hx hb hts (fun w h => List.mem_cons_of_mem _ (List.mem_append_left _ (List.mem_append_left _ (List.mem_append_left _ (List.mem_append_right _ h))))) hown hK hP 0 rfl rfl 1 (by decide) (hts (.fieldLink RX3 21 "PauseRegions$Pause" "found" "LPauseRegions$Row;") (List.mem_of_getElem? (i := 1) rfl)) (fun _ h9 => h9) rfl dX3_moveFound_20 ?_
        refine lv_iload_n hx hb dX3_moveFound_23 rfl (lv_at hl 0 rfl) ?_
        obtain ⟨x1, hc1, hst1⟩ := bn_some hst1
        refine pcV (C := RX5) (As := [.int q1.1]) (rest := []) ⟨hx, hb, hml, hown, hts⟩ hKK (cwV 1 hts gX3_moveFound_X5_itemAt rfl rfl rfl hdX5_itemAt ⟨Nat.le_of_ble_eq_true rfl, Nat.le_of_ble_eq_true rfl⟩) (kX5_itemAt (l := l) (g := g) (hP.sub (ws' := wRow g (ad 2) (ad 3) (q1.2.1 1) (q1.2.1 9 0)) [2, 3] rfl) hc1) (va_recv hK hP (ci := 5) (q0 := 2) rfl rfl) rfl hl.1 rfl (Nat.le_of_ble_eq_true rfl) dX3_moveFound_24 ⟨Nat.zero_le _, Nat.zero_le _⟩ ?_
        refine lv_istore_n (lv' := [(3, .int x1), (2, .int q1.1), (0, .ref (ad 0)), (1, .ref (adh 0))]) hx hb dX3_moveFound_27 rfl hl (by decide) rfl (fun ls hl => ?_)
        refine lv_aload_n hx hb dX3_moveFound_28 rfl (lv_at hl 2 rfl) ?_
        refine lv_aload_n hx hb dX3_moveFound_29 rfl (lv_at hl 3 rfl) ?_
        refine lv_iload_n hx hb dX3_moveFound_30 rfl (lv_at hl 0 rfl) ?_
        obtain ⟨z1, hc2, hst1⟩ := bn_some hst1
        refine mcV (C := RX3) (As := [.ref (adh 0), .int x1]) (rest := []) ⟨hx, hb, hml, hown, hts⟩ hKK hP hD hS hZ (cwV 2 hts gX3_moveFound_X3_move rfl rfl rfl hdX3_move ⟨Nat.le_of_ble_eq_true rfl, Nat.le_of_ble_eq_true rfl⟩) (kX3_move (l := l) (g := g) (ad := ad) (A := q1.2.1) (F := F) (adh := adh) (Ah := q1.2.2) (Fh := Fh) hc2) (va_recv hK hP (ci := 3) (q0 := 0) rfl rfl) rfl hl.1 rfl (Nat.le_of_ble_eq_true rfl) dX3_moveFound_31 ⟨Nat.zero_le _, Nat.zero_le _⟩ (fun H locs hP hD hS => ?_)
        have hP : va_P g.1 vwCl ((wPa g ad z1.1 F) ++ (wH g adh z1.2 Fh)) H := hP
        have hD : va_D Z ((wPa g ad z1.1 F) ++ (wH g adh z1.2 Fh)) := hD
        refine lv_aload_n hx hb dX3_moveFound_34 rfl (lv_at hl 2 rfl) ?_
        refine lv_aload_n hx hb dX3_moveFound_35 rfl (lv_at hl 3 rfl) ?_
        refine lv_iload_n hx hb dX3_moveFound_36 rfl (lv_at hl 0 rfl) ?_
        obtain ⟨z2, hc3, hst1⟩ := bn_some hst1
        refine mcV (C := RX3) (As := [.ref (adh 0), .int x1]) (rest := []) ⟨hx, hb, hml, hown, hts⟩ hKK hP hD hS hZ (cwV 2 hts gX3_moveFound_X3_findFields rfl rfl rfl hdX3_findFields ⟨Nat.le_of_ble_eq_true rfl, Nat.le_of_ble_eq_true rfl⟩) (kX3_findFields (l := l) (g := g) (ad := ad) (A := z1.1) (F := F) (adh := adh) (Ah := z1.2) (Fh := Fh) hc3) (va_recv hK hP (ci := 3) (q0 := 0) rfl rfl) rfl hl.1 rfl (Nat.le_of_ble_eq_true rfl) dX3_moveFound_37 ⟨Nat.zero_le _, Nat.zero_le _⟩ (fun H locs hP hD hS => ?_)
        have hP : va_P g.1 vwCl ((wPa g ad z2 F) ++ (wH g adh z1.2 Fh)) H := hP
        have hD : va_D Z ((wPa g ad z2 F) ++ (wH g adh z1.2 Fh)) := hD
        refine lv_iinc (v := q1.1 + 1) (lv' := [(2, .int (q1.1 + 1)), (3, .int x1), (0, .ref (ad 0)), (1, .ref (adh 0))]) hx hb dX3_moveFound_40 hl (k := 1) rfl rfl (by decide) rfl (fun ls hl => ?_)
        refine lv_goto (tgt := 2) hx hb dX3_moveFound_43 (by decide) ?_
        exact hin1 H locs ls _ (Option.some.inj hst1).symm hP hD hS (lv_sub hl [0, 2, 3] rfl)
def sX3_scanCard_L9 (Ah : IA) (p1 : Int32) (x1 : Int32) (q1 : Int32 × IA) : Option ((Int32 × IA) ⊕ (IA)) :=
  if (x1 + 4) ≤ q1.1 then (some (.inr q1.2)) else ((sX6_regionOfCard p1).bind fun x2 => (sX1_thingAt Ah x2 q1.1).bind fun x3 => if x3 = (-9) then (some (.inl (q1.1 + 1, q1.2))) else ((sX3_findFields q1.2 Ah x3).bind fun z1 => some (.inl (q1.1 + 1, z1))))
def sX3_scanCard (A : IA) (Ah : IA) (p1 : Int32) : Option (IA) :=
  bd ((p1 - p1 / 2 * 2) * 4) fun x1 => (loopN (sX3_scanCard_L9 Ah p1 x1) 2000 (x1, A)).bind fun q2 => some q2
abbrev rmX3_scanCard : Room := { frames := 3, cells := 0, slots := 0, locals := 66 }
theorem hdX3_scanCard : yX3_scanCard.cls = RX3 ∧ yX3_scanCard.cls ≠ "java/lang/invoke/MethodHandle" ∧ yX3_scanCard.cls ≠ "java/lang/invoke/VarHandle" ∧ (parseMethodDescriptor yX3_scanCard.desc).map (fun d => d.parameters.length) = some 2 := by decide +kernel
set_option maxHeartbeats 4000000 in
set_option maxRecDepth 100000 in
theorem kX3_scanCard {l : Launch} {g : GG} {sz : Nat} {ad : Nat → Nat} {A : IA} {F : FA} {adh : Nat → Nat} {Ah : IA} {Fh : FA} {p1 : Int32} {b : IA} (hsem : sX3_scanCard A Ah p1 = some b) : MetV l yX3_scanCard wsX3_scanCard rmX3_scanCard g [.ref (ad 0), .ref (adh 0), .int p1] ((wPa g ad A F) ++ (wH g adh Ah Fh)) sz ((wPa g ad b F) ++ (wH g adh Ah Fh)) := by
  refine Met.ofW (cc := cX3_scanCard) (maxL := 6) (ret := none) (by decide) rfl ?_
  intro p e s m args below meth c s₁ B hml hv
  obtain ⟨rfl, hsz, hP, hD0, hKK⟩ := hv
  subst hsz
  have hx := B.exec
  have hb := B.bytes
  have hr := B.returns
  have hts := atoms_spec (ws := wsX3_scanCard) B.pre
  have hown : s.vm.findClass RX3 = some m.cls := findClass_of_methodNamed B.named
  have hlocks := B.notSynchronized
  have hK := hKK.1
  have hD := hD0.self (sz := s.heap.size)
  generalize hZe : va_A ((wPa g ad A F) ++ (wH g adh Ah Fh)) s.heap.size = Z at hD ⊢
  have hZ : ∀ q : Nat, s.heap.size ≤ q → Z q := fun q h => by rw [← hZe]; exact Or.inr h
  have hS : va_S Z s.heap s.heap [] := va_S.rf
  have hP : va_P g.1 vwCl ((wPa g ad A F) ++ (wH g adh Ah Fh)) s.heap := hP
  have hD : va_D Z ((wPa g ad A F) ++ (wH g adh Ah Fh)) := hD
  have hl := lv_entry ([.ref (ad 0), .ref (adh 0), .int p1]) (n := 6) (Nat.le_of_ble_eq_true rfl)
  rw [lg_entry_eq]
  generalize (lg_sl ([.ref (ad 0), .ref (adh 0), .int p1]) ++ List.replicate (6 - (lg_sl ([.ref (ad 0), .ref (adh 0), .int p1])).length) Slot.unset).toArray = ls at hl ⊢
  have hl : lv_has ls 6 [(0, .ref (ad 0)), (1, .ref (adh 0)), (2, .int p1)] := hl
  unfold sX3_scanCard at hsem
  refine lv_iload_n hx hb dX3_scanCard_0 rfl (lv_at hl 2 rfl) ?_
  refine lv_iconst (v := 2) hx hb dX3_scanCard_1 (by decide) ?_
  refine lv_irem hx hb dX3_scanCard_2 (by decide) ?_
  refine lv_iconst (v := 4) hx hb dX3_scanCard_3 (by decide) ?_
  refine lv_imul hx hb dX3_scanCard_4 ?_
  obtain ⟨x1, ex1, hsem⟩ := bd_some hsem
  rw [← ex1]
  refine lv_istore_n (lv' := [(3, .int x1), (0, .ref (ad 0)), (1, .ref (adh 0)), (2, .int p1)]) hx hb dX3_scanCard_5 rfl hl (by decide) rfl (fun ls hl => ?_)
  refine lv_iload_n hx hb dX3_scanCard_6 rfl (lv_at hl 0 rfl) ?_
  refine lv_istore (lv' := [(4, .int x1), (3, .int x1), (0, .ref (ad 0)), (1, .ref (adh 0)), (2, .int p1)]) hx hb dX3_scanCard_7 hl (by decide) rfl (fun ls hl => ?_)
  obtain ⟨q2, hc4, hsem⟩ := bn_some hsem
  refine loopM (g := g) hc4 (fun (q1 : Int32 × IA) => [(4, .int q1.1), (3, .int x1), (0, .ref (ad 0)), (1, .ref (adh 0)), (2, .int p1)]) (fun (q1 : IA) => []) (exit := 49) (fun (q1 : Int32 × IA) => (wPa g ad q1.2 F) ++ (wH g adh Ah Fh)) (fun (q1 : IA) => (wPa g ad q1 F) ++ (wH g adh Ah Fh)) hP hD hS (lv_sub hl [0, 1, 2, 3, 4] rfl) (fun H locs ls hP hD hS hl => ?_) (fun q1 r hst1 hin1 hout1 H locs ls hP hD hS hl => ?_)
  · have hP : va_P g.1 vwCl ((wPa g ad q2 F) ++ (wH g adh Ah Fh)) H := hP
    have hD : va_D Z ((wPa g ad q2 F) ++ (wH g adh Ah Fh)) := hD
    have eo := (Option.some.inj hsem).symm.symm
    subst eo
    exact W.vret hx hb hr (fun t ht hW => ⟨⟨(), rfl, trivial, ⟨by rw [ht]; exact hP, hD⟩⟩, hS.F ht⟩) hS.2.2 dX3_scanCard_49
  · unfold sX3_scanCard_L9 at hst1
    have hP : va_P g.1 vwCl ((wPa g ad q1.2 F) ++ (wH g adh Ah Fh)) H := hP
    have hD : va_D Z ((wPa g ad q1.2 F) ++ (wH g adh Ah Fh)) := hD
    refine lv_iload hx hb dX3_scanCard_9 (lv_at hl 0 rfl) ?_
    refine lv_iload_n hx hb dX3_scanCard_11 rfl (lv_at hl 1 rfl) ?_
    refine lv_iconst (v := 4) hx hb dX3_scanCard_12 (by decide) ?_
    refine lv_iadd hx hb dX3_scanCard_13 ?_
    refine lv_icmp_ge (tgt := 49) hx hb dX3_scanCard_14 (by decide) (fun c1 => ?_) (fun c1 => ?_)
    · rw [if_pos c1] at hst1
      exact hout1 H locs ls _ (Option.some.inj hst1).symm hP hD hS (lv_sub hl [] rfl)
    · rw [if_neg c1] at hst1
      refine lv_aload_n hx hb dX3_scanCard_17 rfl (lv_at hl 3 rfl) ?_
      refine lv_iload_n hx hb dX3_scanCard_18 rfl (lv_at hl 4 rfl) ?_
      obtain ⟨x2, hc1, hst1⟩ := bn_some hst1
      refine pcN (As := [.int p1]) (rest := [.ref (adh 0)]) ⟨hx, hb, hml, hown, hts⟩ hKK ⟨va_cnB 1 hts gX3_scanCard_X6_regionOfCard_n116 rfl rfl rfl (hKK.2 9 _ rfl) (hts (.initialized RX6) (List.mem_of_getElem? (i := 2) rfl)) hdX6_regionOfCard ⟨Nat.le_of_ble_eq_true rfl, Nat.le_of_ble_eq_true rfl⟩, (hts (.static yX6_regionOfCard) (List.mem_of_getElem? (i := 1) rfl)), trivial⟩ (kX6_regionOfCard (l := l) (g := g) hc1) rfl hl.1 rfl (Nat.le_of_ble_eq_true rfl) dX3_scanCard_19 ⟨Nat.zero_le _, Nat.zero_le _⟩ ?_
      refine lv_iload hx hb dX3_scanCard_22 (lv_at hl 0 rfl) ?_
      obtain ⟨x3, hc2, hst1⟩ := bn_some hst1
      refine pcV (C := RX1) (As := [.int x2, .int q1.1]) (rest := []) ⟨hx, hb, hml, hown, hts⟩ hKK (cwV 2 hts gX3_scanCard_X1_thingAt rfl rfl rfl hdX1_thingAt ⟨Nat.le_of_ble_eq_true rfl, Nat.le_of_ble_eq_true rfl⟩) (kX1_thingAt (l := l) (g := g) (hP.sub (ws' := wH g adh Ah Fh) [4, 5, 6, 7, 8, 9, 10, 11, 12, 13, 14, 15, 16, 17, 18] rfl) hc2) (va_recv hK hP (ci := 1) (q0 := 4) rfl rfl) rfl hl.1 rfl (Nat.le_of_ble_eq_true rfl) dX3_scanCard_24 ⟨Nat.zero_le _, Nat.zero_le _⟩ ?_
      refine lv_istore (lv' := [(5, .int x3), (4, .int q1.1), (3, .int x1), (0, .ref (ad 0)), (1, .ref (adh 0)), (2, .int p1)]) hx hb dX3_scanCard_27 hl (by decide) rfl (fun ls hl => ?_)
      refine lv_iload hx hb dX3_scanCard_29 (lv_at hl 0 rfl) ?_
      refine lv_bipush (v := (-9)) hx hb dX3_scanCard_31 (by decide) ?_
      refine lv_icmp_eq (tgt := 43) hx hb dX3_scanCard_33 (by decide) (fun c2 => ?_) (fun c2 => ?_)
      · rw [if_pos c2] at hst1
        refine lv_iinc (v := q1.1 + 1) (lv' := [(4, .int (q1.1 + 1)), (5, .int x3), (3, .int x1), (0, .ref (ad 0)), (1, .ref (adh 0)), (2, .int p1)]) hx hb dX3_scanCard_43 hl (k := 1) rfl rfl (by decide) rfl (fun ls hl => ?_)
        refine lv_goto (tgt := 9) hx hb dX3_scanCard_46 (by decide) ?_
        exact hin1 H locs ls _ (Option.some.inj hst1).symm hP hD hS (lv_sub hl [0, 2, 3, 4, 5] rfl)
      · rw [if_neg c2] at hst1
        refine lv_aload_n hx hb dX3_scanCard_36 rfl (lv_at hl 3 rfl) ?_
        refine lv_aload_n hx hb dX3_scanCard_37 rfl (lv_at hl 4 rfl) ?_
        refine lv_iload hx hb dX3_scanCard_38 (lv_at hl 0 rfl) ?_
        obtain ⟨z1, hc3, hst1⟩ := bn_some hst1
        refine mcV (C := RX3) (As := [.ref (adh 0), .int x3]) (rest := []) ⟨hx, hb, hml, hown, hts⟩ hKK hP hD hS hZ (cwV 2 hts gX3_scanCard_X3_findFields rfl rfl rfl hdX3_findFields ⟨Nat.le_of_ble_eq_true rfl, Nat.le_of_ble_eq_true rfl⟩) (kX3_findFields (l := l) (g := g) (ad := ad) (A := q1.2) (F := F) (adh := adh) (Ah := Ah) (Fh := Fh) hc3) (va_recv hK hP (ci := 3) (q0 := 0) rfl rfl) rfl hl.1 rfl (Nat.le_of_ble_eq_true rfl) dX3_scanCard_40 ⟨Nat.zero_le _, Nat.zero_le _⟩ (fun H locs hP hD hS => ?_)
        have hP : va_P g.1 vwCl ((wPa g ad z1 F) ++ (wH g adh Ah Fh)) H := hP
        have hD : va_D Z ((wPa g ad z1 F) ++ (wH g adh Ah Fh)) := hD
        refine lv_iinc (v := q1.1 + 1) (lv' := [(4, .int (q1.1 + 1)), (5, .int x3), (3, .int x1), (0, .ref (ad 0)), (1, .ref (adh 0)), (2, .int p1)]) hx hb dX3_scanCard_43 hl (k := 1) rfl rfl (by decide) rfl (fun ls hl => ?_)
        refine lv_goto (tgt := 9) hx hb dX3_scanCard_46 (by decide) ?_
        exact hin1 H locs ls _ (Option.some.inj hst1).symm hP hD hS (lv_sub hl [0, 2, 3, 4, 5] rfl)
def sX3_scanCards_L2 (Ah : IA) (q1 : Int32 × IA) : Option ((Int32 × IA) ⊕ (IA)) :=
  if 10 ≤ q1.1 then (some (.inr q1.2)) else ((sX6_hasBit (q1.2 10 0) q1.1).bind fun x1 => if x1 = 0 then (some (.inl (q1.1 + 1, q1.2))) else (ck q1.1 10 (bd (sc q1.2 4 ((q1.2 4 0) ||| ((Ah 3) q1.1.toNatClampNeg))) fun A1 => some (.inl (q1.1 + 1, A1)))))
def sX3_scanCards_L45 (Ah : IA) (q3 : Int32 × IA) : Option ((Int32 × IA) ⊕ (IA)) :=
  if 20 ≤ q3.1 then (some (.inr q3.2)) else ((sX6_regionOfCard q3.1).bind fun x2 => (sX6_hasBit (q3.2 10 0) x2).bind fun x3 => if x3 = 0 then ((sX6_hasBit (q3.2 4 0) q3.1).bind fun x4 => if x4 = 0 then (some (.inl (q3.1 + 1, q3.2))) else ((sX3_scanCard q3.2 Ah q3.1).bind fun z1 => some (.inl (q3.1 + 1, z1)))) else (bd (sc q3.2 4 ((q3.2 4 0) &&& ((1 <<< (q3.1 &&& 31)) ^^^ (-1)))) fun A2 => some (.inl (q3.1 + 1, A2))))
def sX3_scanCards (A : IA) (Ah : IA) : Option (IA) :=
  (loopN (sX3_scanCards_L2 Ah) 2000 (0, A)).bind fun q2 => (loopN (sX3_scanCards_L45 Ah) 2000 (0, q2)).bind fun q4 => some q4
abbrev rmX3_scanCards : Room := { frames := 4, cells := 0, slots := 0, locals := 91 }
theorem hdX3_scanCards : yX3_scanCards.cls = RX3 ∧ yX3_scanCards.cls ≠ "java/lang/invoke/MethodHandle" ∧ yX3_scanCards.cls ≠ "java/lang/invoke/VarHandle" ∧ (parseMethodDescriptor yX3_scanCards.desc).map (fun d => d.parameters.length) = some 1 := by decide +kernel
set_option maxHeartbeats 4000000 in
set_option maxRecDepth 100000 in
theorem kX3_scanCards {l : Launch} {g : GG} {sz : Nat} {ad : Nat → Nat} {A : IA} {F : FA} {adh : Nat → Nat} {Ah : IA} {Fh : FA} {b : IA} (hsem : sX3_scanCards A Ah = some b) : MetV l yX3_scanCards wsX3_scanCards rmX3_scanCards g [.ref (ad 0), .ref (adh 0)] ((wPa g ad A F) ++ (wH g adh Ah Fh)) sz ((wPa g ad b F) ++ (wH g adh Ah Fh)) := by
  refine Met.ofW (cc := cX3_scanCards) (maxL := 3) (ret := none) (by decide) rfl ?_
  intro p e s m args below meth c s₁ B hml hv
  obtain ⟨rfl, hsz, hP, hD0, hKK⟩ := hv
  subst hsz
  have hx := B.exec
  have hb := B.bytes
  have hr := B.returns
  have hts := atoms_spec (ws := wsX3_scanCards) B.pre
  have hown : s.vm.findClass RX3 = some m.cls := findClass_of_methodNamed B.named
  have hlocks := B.notSynchronized
  have hK := hKK.1
  have hD := hD0.self (sz := s.heap.size)
  generalize hZe : va_A ((wPa g ad A F) ++ (wH g adh Ah Fh)) s.heap.size = Z at hD ⊢
  have hZ : ∀ q : Nat, s.heap.size ≤ q → Z q := fun q h => by rw [← hZe]; exact Or.inr h
  have hS : va_S Z s.heap s.heap [] := va_S.rf
  have hP : va_P g.1 vwCl ((wPa g ad A F) ++ (wH g adh Ah Fh)) s.heap := hP
  have hD : va_D Z ((wPa g ad A F) ++ (wH g adh Ah Fh)) := hD
  have hl := lv_entry ([.ref (ad 0), .ref (adh 0)]) (n := 3) (Nat.le_of_ble_eq_true rfl)
  rw [lg_entry_eq]
  generalize (lg_sl ([.ref (ad 0), .ref (adh 0)]) ++ List.replicate (3 - (lg_sl ([.ref (ad 0), .ref (adh 0)])).length) Slot.unset).toArray = ls at hl ⊢
  have hl : lv_has ls 3 [(0, .ref (ad 0)), (1, .ref (adh 0))] := hl
  unfold sX3_scanCards at hsem
  refine lv_iconst (v := 0) hx hb dX3_scanCards_0 (by decide) ?_
  refine lv_istore_n (lv' := [(2, .int 0), (0, .ref (ad 0)), (1, .ref (adh 0))]) hx hb dX3_scanCards_1 rfl hl (by decide) rfl (fun ls hl => ?_)
  obtain ⟨q2, hc2, hsem⟩ := bn_some hsem
  refine loopM (g := g) hc2 (fun (q1 : Int32 × IA) => [(2, .int q1.1), (0, .ref (ad 0)), (1, .ref (adh 0))]) (fun (q1 : IA) => [(0, .ref (ad 0)), (1, .ref (adh 0))]) (exit := 43) (fun (q1 : Int32 × IA) => (wPa g ad q1.2 F) ++ (wH g adh Ah Fh)) (fun (q1 : IA) => (wPa g ad q1 F) ++ (wH g adh Ah Fh)) hP hD hS (lv_sub hl [0, 1, 2] rfl) (fun H locs ls hP hD hS hl => ?_) (fun q1 r hst1 hin1 hout1 H locs ls hP hD hS hl => ?_)
  · have hP : va_P g.1 vwCl ((wPa g ad q2 F) ++ (wH g adh Ah Fh)) H := hP
    have hD : va_D Z ((wPa g ad q2 F) ++ (wH g adh Ah Fh)) := hD
    refine lv_iconst (v := 0) hx hb dX3_scanCards_43 (by decide) ?_
    refine lv_istore_n (lv' := [(2, .int 0), (0, .ref (ad 0)), (1, .ref (adh 0))]) hx hb dX3_scanCards_44 rfl hl (by decide) rfl (fun ls hl => ?_)
    obtain ⟨q4, hc7, hsem⟩ := bn_some hsem
    refine loopM (g := g) hc7 (fun (q3 : Int32 × IA) => [(2, .int q3.1), (0, .ref (ad 0)), (1, .ref (adh 0))]) (fun (q3 : IA) => []) (exit := 108) (fun (q3 : Int32 × IA) => (wPa g ad q3.2 F) ++ (wH g adh Ah Fh)) (fun (q3 : IA) => (wPa g ad q3 F) ++ (wH g adh Ah Fh)) hP hD hS (lv_sub hl [0, 1, 2] rfl) (fun H locs ls hP hD hS hl => ?_) (fun q3 r hst1 hin1 hout1 H locs ls hP hD hS hl => ?_)
    · have hP : va_P g.1 vwCl ((wPa g ad q4 F) ++ (wH g adh Ah Fh)) H := hP
      have hD : va_D Z ((wPa g ad q4 F) ++ (wH g adh Ah Fh)) := hD
      have eo := (Option.some.inj hsem).symm.symm
      subst eo
      exact W.vret hx hb hr (fun t ht hW => ⟨⟨(), rfl, trivial, ⟨by rw [ht]; exact hP, hD⟩⟩, hS.F ht⟩) hS.2.2 dX3_scanCards_108
    · unfold sX3_scanCards_L45 at hst1
      have hP : va_P g.1 vwCl ((wPa g ad q3.2 F) ++ (wH g adh Ah Fh)) H := hP
      have hD : va_D Z ((wPa g ad q3.2 F) ++ (wH g adh Ah Fh)) := hD
      refine lv_iload_n hx hb dX3_scanCards_45 rfl (lv_at hl 0 rfl) ?_
      refine lv_bipush (v := 20) hx hb dX3_scanCards_46 (by decide) ?_
      refine lv_icmp_ge (tgt := 108) hx hb dX3_scanCards_48 (by decide) (fun c3 => ?_) (fun c3 => ?_)
      · rw [if_pos c3] at hst1
        exact hout1 H locs ls _ (Option.some.inj hst1).symm hP hD hS (lv_sub hl [] rfl)
      · rw [if_neg c3] at hst1
        refine lv_aload_n hx hb dX3_scanCards_51 rfl (lv_at hl 1 rfl) ?_
        refine va_get (D := g.1) (ci := 3) (v := .ref (ad 1)) (C := RX3) (T := TX3) (N := 8) hx hb hts (fun w h => List.mem_cons_of_mem _ (List.mem_append_left _ (List.mem_append_left _ (List.mem_append_left _ (List.mem_append_right _ h))))) hown hK hP 0 rfl rfl 0 (by decide) (hts (.fieldLink RX3 12 "PauseRegions$Pause" "choice" "LPauseRegions$Choice;") (List.mem_of_getElem? (i := 1) rfl)) (fun _ h9 => h9) rfl dX3_scanCards_52 ?_
        refine va_get (D := g.1) (ci := 0) (v := .int (q3.2 10 0)) (C := RX0) (T := TX0) (N := 3) hx hb hts (fun w h => List.mem_cons_of_mem _ (List.mem_append_left _ (List.mem_append_left _ (List.mem_append_right _ h)))) hown hK hP 1 rfl rfl 0 (by decide) (hts (.fieldLink RX3 80 "PauseRegions$Choice" "regions" "I") (List.mem_of_getElem? (i := 2) rfl)) (fun _ h9 => h9) rfl dX3_scanCards_55 ?_
        refine lv_iload_n hx hb dX3_scanCards_58 rfl (lv_at hl 0 rfl) ?_
        obtain ⟨x2, hc3, hst1⟩ := bn_some hst1
        refine pcN (As := [.int q3.1]) (rest := [.int (q3.2 10 0)]) ⟨hx, hb, hml, hown, hts⟩ hKK ⟨va_cnB 1 hts gX3_scanCards_X6_regionOfCard_n116 rfl rfl rfl (hKK.2 9 _ rfl) (hts (.initialized RX6) (List.mem_of_getElem? (i := 6) rfl)) hdX6_regionOfCard ⟨Nat.le_of_ble_eq_true rfl, Nat.le_of_ble_eq_true rfl⟩, (hts (.static yX6_regionOfCard) (List.mem_of_getElem? (i := 8) rfl)), trivial⟩ (kX6_regionOfCard (l := l) (g := g) hc3) rfl hl.1 rfl (Nat.le_of_ble_eq_true rfl) dX3_scanCards_59 ⟨Nat.zero_le _, Nat.zero_le _⟩ ?_
        obtain ⟨x3, hc4, hst1⟩ := bn_some hst1
        refine pcN (As := [.int (q3.2 10 0), .int x2]) (rest := []) ⟨hx, hb, hml, hown, hts⟩ hKK ⟨va_cnB 2 hts gX3_scanCards_X6_hasBit_n87 rfl rfl rfl (hKK.2 11 _ rfl) (hts (.initialized RX6) (List.mem_of_getElem? (i := 6) rfl)) hdX6_hasBit ⟨Nat.le_of_ble_eq_true rfl, Nat.le_of_ble_eq_true rfl⟩, (hts (.static yX6_hasBit) (List.mem_of_getElem? (i := 5) rfl)), trivial⟩ (kX6_hasBit (l := l) (g := g) hc4) rfl hl.1 rfl (Nat.le_of_ble_eq_true rfl) dX3_scanCards_62 ⟨Nat.zero_le _, Nat.zero_le _⟩ ?_
        refine lv_if_eq (tgt := 85) hx hb dX3_scanCards_65 (by decide) (fun c4 => ?_) (fun c4 => ?_)
        · rw [if_pos c4] at hst1
          refine lv_aload_n hx hb dX3_scanCards_85 rfl (lv_at hl 1 rfl) ?_
          refine va_get (D := g.1) (ci := 3) (v := .int (q3.2 4 0)) (C := RX3) (T := TX3) (N := 8) hx hb hts (fun w h => List.mem_cons_of_mem _ (List.mem_append_left _ (List.mem_append_left _ (List.mem_append_left _ (List.mem_append_right _ h))))) hown hK hP 0 rfl rfl 3 (by decide) (hts (.fieldLink RX3 65 "PauseRegions$Pause" "scanned" "I") (List.mem_of_getElem? (i := 3) rfl)) (fun _ h9 => h9) rfl dX3_scanCards_86 ?_
          refine lv_iload_n hx hb dX3_scanCards_89 rfl (lv_at hl 0 rfl) ?_
          obtain ⟨x4, hc5, hst1⟩ := bn_some hst1
          refine pcN (As := [.int (q3.2 4 0), .int q3.1]) (rest := []) ⟨hx, hb, hml, hown, hts⟩ hKK ⟨va_cnB 2 hts gX3_scanCards_X6_hasBit_n87 rfl rfl rfl (hKK.2 11 _ rfl) (hts (.initialized RX6) (List.mem_of_getElem? (i := 6) rfl)) hdX6_hasBit ⟨Nat.le_of_ble_eq_true rfl, Nat.le_of_ble_eq_true rfl⟩, (hts (.static yX6_hasBit) (List.mem_of_getElem? (i := 5) rfl)), trivial⟩ (kX6_hasBit (l := l) (g := g) hc5) rfl hl.1 rfl (Nat.le_of_ble_eq_true rfl) dX3_scanCards_90 ⟨Nat.zero_le _, Nat.zero_le _⟩ ?_
          refine lv_if_eq (tgt := 102) hx hb dX3_scanCards_93 (by decide) (fun c5 => ?_) (fun c5 => ?_)
          · rw [if_pos c5] at hst1
            refine lv_iinc (v := q3.1 + 1) (lv' := [(2, .int (q3.1 + 1)), (0, .ref (ad 0)), (1, .ref (adh 0))]) hx hb dX3_scanCards_102 hl (k := 0) rfl rfl (by decide) rfl (fun ls hl => ?_)
            refine lv_goto (tgt := 45) hx hb dX3_scanCards_105 (by decide) ?_
            exact hin1 H locs ls _ (Option.some.inj hst1).symm hP hD hS (lv_sub hl [0, 1, 2] rfl)
          · rw [if_neg c5] at hst1
            refine lv_aload_n hx hb dX3_scanCards_96 rfl (lv_at hl 1 rfl) ?_
            refine lv_aload_n hx hb dX3_scanCards_97 rfl (lv_at hl 2 rfl) ?_
            refine lv_iload_n hx hb dX3_scanCards_98 rfl (lv_at hl 0 rfl) ?_
            obtain ⟨z1, hc6, hst1⟩ := bn_some hst1
            refine mcV (C := RX3) (As := [.ref (adh 0), .int q3.1]) (rest := []) ⟨hx, hb, hml, hown, hts⟩ hKK hP hD hS hZ (cwV 2 hts gX3_scanCards_X3_scanCard rfl rfl rfl hdX3_scanCard ⟨Nat.le_of_ble_eq_true rfl, Nat.le_of_ble_eq_true rfl⟩) (kX3_scanCard (l := l) (g := g) (ad := ad) (A := q3.2) (F := F) (adh := adh) (Ah := Ah) (Fh := Fh) hc6) (va_recv hK hP (ci := 3) (q0 := 0) rfl rfl) rfl hl.1 rfl (Nat.le_of_ble_eq_true rfl) dX3_scanCards_99 ⟨Nat.zero_le _, Nat.zero_le _⟩ (fun H locs hP hD hS => ?_)
            have hP : va_P g.1 vwCl ((wPa g ad z1 F) ++ (wH g adh Ah Fh)) H := hP
            have hD : va_D Z ((wPa g ad z1 F) ++ (wH g adh Ah Fh)) := hD
            refine lv_iinc (v := q3.1 + 1) (lv' := [(2, .int (q3.1 + 1)), (0, .ref (ad 0)), (1, .ref (adh 0))]) hx hb dX3_scanCards_102 hl (k := 0) rfl rfl (by decide) rfl (fun ls hl => ?_)
            refine lv_goto (tgt := 45) hx hb dX3_scanCards_105 (by decide) ?_
            exact hin1 H locs ls _ (Option.some.inj hst1).symm hP hD hS (lv_sub hl [0, 1, 2] rfl)
        · rw [if_neg c4] at hst1
          refine lv_aload_n hx hb dX3_scanCards_68 rfl (lv_at hl 1 rfl) ?_
          refine lv_dup hx hb dX3_scanCards_69 rfl ?_
          refine va_get (D := g.1) (ci := 3) (v := .int (q3.2 4 0)) (C := RX3) (T := TX3) (N := 8) hx hb hts (fun w h => List.mem_cons_of_mem _ (List.mem_append_left _ (List.mem_append_left _ (List.mem_append_left _ (List.mem_append_right _ h))))) hown hK hP 0 rfl rfl 3 (by decide) (hts (.fieldLink RX3 65 "PauseRegions$Pause" "scanned" "I") (List.mem_of_getElem? (i := 3) rfl)) (fun _ h9 => h9) rfl dX3_scanCards_70 ?_
          refine lv_iconst (v := 1) hx hb dX3_scanCards_73 (by decide) ?_
          refine lv_iload_n hx hb dX3_scanCards_74 rfl (lv_at hl 0 rfl) ?_
          refine lv_ishl hx hb dX3_scanCards_75 ?_
          refine lv_iconst (v := (-1)) hx hb dX3_scanCards_76 (by decide) ?_
          refine lv_ixor hx hb dX3_scanCards_77 ?_
          refine lv_iand hx hb dX3_scanCards_78 ?_
          refine va_put (D := g.1) (ci := 3) (v := .int ((q3.2 4 0) &&& ((1 <<< (q3.1 &&& 31)) ^^^ (-1)))) (ty := .int) (C := RX3) (T := TX3) (N := 8) hx hb hts (fun w h => List.mem_cons_of_mem _ (List.mem_append_left _ (List.mem_append_left _ (List.mem_append_left _ (List.mem_append_right _ h))))) tyX3 tyX3_ok nmX3 hown hK hP hD hS 0 rfl rfl 3 (by decide) (hts (.fieldLink RX3 65 "PauseRegions$Pause" "scanned" "I") (List.mem_of_getElem? (i := 3) rfl)) (fun _ h9 => h9) rfl (by decide +kernel) rfl rfl (Nat.le_of_ble_eq_true rfl) dX3_scanCards_79 (fun H locs hP hD hS => ?_)
          obtain ⟨A2, eA2, hst1⟩ := bd_some hst1
          have hP : va_P g.1 vwCl ((wPa g ad A2 F) ++ (wH g adh Ah Fh)) H := by rw [eA2]; exact hP
          have hD : va_D Z ((wPa g ad A2 F) ++ (wH g adh Ah Fh)) := by rw [eA2]; exact hD
          refine lv_goto (tgt := 102) hx hb dX3_scanCards_82 (by decide) ?_
          refine lv_iinc (v := q3.1 + 1) (lv' := [(2, .int (q3.1 + 1)), (0, .ref (ad 0)), (1, .ref (adh 0))]) hx hb dX3_scanCards_102 hl (k := 0) rfl rfl (by decide) rfl (fun ls hl => ?_)
          refine lv_goto (tgt := 45) hx hb dX3_scanCards_105 (by decide) ?_
          exact hin1 H locs ls _ (Option.some.inj hst1).symm hP hD hS (lv_sub hl [0, 1, 2] rfl)
  · unfold sX3_scanCards_L2 at hst1
    have hP : va_P g.1 vwCl ((wPa g ad q1.2 F) ++ (wH g adh Ah Fh)) H := hP
    have hD : va_D Z ((wPa g ad q1.2 F) ++ (wH g adh Ah Fh)) := hD
    refine lv_iload_n hx hb dX3_scanCards_2 rfl (lv_at hl 0 rfl) ?_
    refine lv_bipush (v := 10) hx hb dX3_scanCards_3 (by decide) ?_
    refine lv_icmp_ge (tgt := 43) hx hb dX3_scanCards_5 (by decide) (fun c1 => ?_) (fun c1 => ?_)
    · rw [if_pos c1] at hst1
      exact hout1 H locs ls _ (Option.some.inj hst1).symm hP hD hS (lv_sub hl [1, 2] rfl)
    · rw [if_neg c1] at hst1
      refine lv_aload_n hx hb dX3_scanCards_8 rfl (lv_at hl 1 rfl) ?_
      refine va_get (D := g.1) (ci := 3) (v := .ref (ad 1)) (C := RX3) (T := TX3) (N := 8) hx hb hts (fun w h => List.mem_cons_of_mem _ (List.mem_append_left _ (List.mem_append_left _ (List.mem_append_left _ (List.mem_append_right _ h))))) hown hK hP 0 rfl rfl 0 (by decide) (hts (.fieldLink RX3 12 "PauseRegions$Pause" "choice" "LPauseRegions$Choice;") (List.mem_of_getElem? (i := 1) rfl)) (fun _ h9 => h9) rfl dX3_scanCards_9 ?_
      refine va_get (D := g.1) (ci := 0) (v := .int (q1.2 10 0)) (C := RX0) (T := TX0) (N := 3) hx hb hts (fun w h => List.mem_cons_of_mem _ (List.mem_append_left _ (List.mem_append_left _ (List.mem_append_right _ h)))) hown hK hP 1 rfl rfl 0 (by decide) (hts (.fieldLink RX3 80 "PauseRegions$Choice" "regions" "I") (List.mem_of_getElem? (i := 2) rfl)) (fun _ h9 => h9) rfl dX3_scanCards_12 ?_
      refine lv_iload_n hx hb dX3_scanCards_15 rfl (lv_at hl 0 rfl) ?_
      obtain ⟨x1, hc1, hst1⟩ := bn_some hst1
      refine pcN (As := [.int (q1.2 10 0), .int q1.1]) (rest := []) ⟨hx, hb, hml, hown, hts⟩ hKK ⟨va_cnB 2 hts gX3_scanCards_X6_hasBit_n87 rfl rfl rfl (hKK.2 11 _ rfl) (hts (.initialized RX6) (List.mem_of_getElem? (i := 6) rfl)) hdX6_hasBit ⟨Nat.le_of_ble_eq_true rfl, Nat.le_of_ble_eq_true rfl⟩, (hts (.static yX6_hasBit) (List.mem_of_getElem? (i := 5) rfl)), trivial⟩ (kX6_hasBit (l := l) (g := g) hc1) rfl hl.1 rfl (Nat.le_of_ble_eq_true rfl) dX3_scanCards_16 ⟨Nat.zero_le _, Nat.zero_le _⟩ ?_
      refine lv_if_eq (tgt := 37) hx hb dX3_scanCards_19 (by decide) (fun c2 => ?_) (fun c2 => ?_)
      · rw [if_pos c2] at hst1
        refine lv_iinc (v := q1.1 + 1) (lv' := [(2, .int (q1.1 + 1)), (0, .ref (ad 0)), (1, .ref (adh 0))]) hx hb dX3_scanCards_37 hl (k := 0) rfl rfl (by decide) rfl (fun ls hl => ?_)
        refine lv_goto (tgt := 2) hx hb dX3_scanCards_40 (by decide) ?_
        exact hin1 H locs ls _ (Option.some.inj hst1).symm hP hD hS (lv_sub hl [0, 1, 2] rfl)
      · rw [if_neg c2] at hst1
        refine lv_aload_n hx hb dX3_scanCards_22 rfl (lv_at hl 1 rfl) ?_
        refine lv_dup hx hb dX3_scanCards_23 rfl ?_
        refine va_get (D := g.1) (ci := 3) (v := .int (q1.2 4 0)) (C := RX3) (T := TX3) (N := 8) hx hb hts (fun w h => List.mem_cons_of_mem _ (List.mem_append_left _ (List.mem_append_left _ (List.mem_append_left _ (List.mem_append_right _ h))))) hown hK hP 0 rfl rfl 3 (by decide) (hts (.fieldLink RX3 65 "PauseRegions$Pause" "scanned" "I") (List.mem_of_getElem? (i := 3) rfl)) (fun _ h9 => h9) rfl dX3_scanCards_24 ?_
        refine lv_aload_n hx hb dX3_scanCards_27 rfl (lv_at hl 2 rfl) ?_
        refine va_get (D := g.1) (ci := 1) (v := .ref (adh 4)) (C := RX1) (T := TX1) (N := 18) hx hb hts (fun w h => List.mem_cons_of_mem _ (List.mem_append_left _ (List.mem_append_right _ h))) hown hK hP 4 rfl rfl 3 (by decide) (hts (.fieldLink RX3 113 "PauseRegions$Heap" "memory" "[I") (List.mem_of_getElem? (i := 4) rfl)) (fun _ h9 => h9) rfl dX3_scanCards_28 ?_
        refine lv_iload_n hx hb dX3_scanCards_31 rfl (lv_at hl 0 rfl) ?_
        obtain ⟨h1, hst1⟩ := ck_some hst1
        refine va_iald (D := g.1) hx hb hK hP 8 0 rfl rfl h1 dX3_scanCards_32 ?_
        refine lv_ior hx hb dX3_scanCards_33 ?_
        refine va_put (D := g.1) (ci := 3) (v := .int ((q1.2 4 0) ||| ((Ah 3) q1.1.toNatClampNeg))) (ty := .int) (C := RX3) (T := TX3) (N := 8) hx hb hts (fun w h => List.mem_cons_of_mem _ (List.mem_append_left _ (List.mem_append_left _ (List.mem_append_left _ (List.mem_append_right _ h))))) tyX3 tyX3_ok nmX3 hown hK hP hD hS 0 rfl rfl 3 (by decide) (hts (.fieldLink RX3 65 "PauseRegions$Pause" "scanned" "I") (List.mem_of_getElem? (i := 3) rfl)) (fun _ h9 => h9) rfl (by decide +kernel) rfl rfl (Nat.le_of_ble_eq_true rfl) dX3_scanCards_34 (fun H locs hP hD hS => ?_)
        obtain ⟨A1, eA1, hst1⟩ := bd_some hst1
        have hP : va_P g.1 vwCl ((wPa g ad A1 F) ++ (wH g adh Ah Fh)) H := by rw [eA1]; exact hP
        have hD : va_D Z ((wPa g ad A1 F) ++ (wH g adh Ah Fh)) := by rw [eA1]; exact hD
        refine lv_iinc (v := q1.1 + 1) (lv' := [(2, .int (q1.1 + 1)), (0, .ref (ad 0)), (1, .ref (adh 0))]) hx hb dX3_scanCards_37 hl (k := 0) rfl rfl (by decide) rfl (fun ls hl => ?_)
        refine lv_goto (tgt := 2) hx hb dX3_scanCards_40 (by decide) ?_
        exact hin1 H locs ls _ (Option.some.inj hst1).symm hP hD hS (lv_sub hl [0, 1, 2] rfl)
def sX3_sweep_L2 (A : IA) (p1 : Int32) (q1 : Int32 × IA) : Option ((Int32 × IA) ⊕ (IA)) :=
  if 32 ≤ q1.1 then (some (.inr q1.2)) else ((sX1_isIn q1.2 q1.1 p1).bind fun x1 => if x1 = 0 then (some (.inl (q1.1 + 1, q1.2))) else ((sX6_hasBit (A 8 0) q1.1).bind fun x2 => if x2 = 0 then ((sX1_endThing q1.2 q1.1).bind fun z1 => some (.inl (q1.1 + 1, z1))) else (some (.inl (q1.1 + 1, q1.2)))))
def sX3_sweep (A : IA) (Ah : IA) (p1 : Int32) : Option (IA) :=
  (loopN (sX3_sweep_L2 A p1) 2000 (0, Ah)).bind fun q2 => (sX1_thingsIn q2 p1).bind fun x3 => if x3 = 0 then ((sX1_freeWithRests q2 p1).bind fun z2 => some z2) else (ck p1 10 (bd (wr q2 0 p1.toNatClampNeg 2) fun A1h => ck p1 10 (bd (wr A1h 2 p1.toNatClampNeg (-9)) fun A2h => some A2h)))
abbrev rmX3_sweep : Room := { frames := 3, cells := 0, slots := 0, locals := 68 }
theorem hdX3_sweep : yX3_sweep.cls = RX3 ∧ yX3_sweep.cls ≠ "java/lang/invoke/MethodHandle" ∧ yX3_sweep.cls ≠ "java/lang/invoke/VarHandle" ∧ (parseMethodDescriptor yX3_sweep.desc).map (fun d => d.parameters.length) = some 2 := by decide +kernel
set_option maxHeartbeats 4000000 in
set_option maxRecDepth 100000 in
theorem kX3_sweep {l : Launch} {g : GG} {sz : Nat} {ad : Nat → Nat} {A : IA} {F : FA} {adh : Nat → Nat} {Ah : IA} {Fh : FA} {p1 : Int32} {b : IA} (hsem : sX3_sweep A Ah p1 = some b) : MetV l yX3_sweep wsX3_sweep rmX3_sweep g [.ref (ad 0), .ref (adh 0), .int p1] ((wPa g ad A F) ++ (wH g adh Ah Fh)) sz ((wPa g ad A F) ++ (wH g adh b Fh)) := by
  refine Met.ofW (cc := cX3_sweep) (maxL := 4) (ret := none) (by decide) rfl ?_
  intro p e s m args below meth c s₁ B hml hv
  obtain ⟨rfl, hsz, hP, hD0, hKK⟩ := hv
  subst hsz
  have hx := B.exec
  have hb := B.bytes
  have hr := B.returns
  have hts := atoms_spec (ws := wsX3_sweep) B.pre
  have hown : s.vm.findClass RX3 = some m.cls := findClass_of_methodNamed B.named
  have hlocks := B.notSynchronized
  have hK := hKK.1
  have hD := hD0.self (sz := s.heap.size)
  generalize hZe : va_A ((wPa g ad A F) ++ (wH g adh Ah Fh)) s.heap.size = Z at hD ⊢
  have hZ : ∀ q : Nat, s.heap.size ≤ q → Z q := fun q h => by rw [← hZe]; exact Or.inr h
  have hS : va_S Z s.heap s.heap [] := va_S.rf
  have hP : va_P g.1 vwCl ((wPa g ad A F) ++ (wH g adh Ah Fh)) s.heap := hP
  have hD : va_D Z ((wPa g ad A F) ++ (wH g adh Ah Fh)) := hD
  have hl := lv_entry ([.ref (ad 0), .ref (adh 0), .int p1]) (n := 4) (Nat.le_of_ble_eq_true rfl)
  rw [lg_entry_eq]
  generalize (lg_sl ([.ref (ad 0), .ref (adh 0), .int p1]) ++ List.replicate (4 - (lg_sl ([.ref (ad 0), .ref (adh 0), .int p1])).length) Slot.unset).toArray = ls at hl ⊢
  have hl : lv_has ls 4 [(0, .ref (ad 0)), (1, .ref (adh 0)), (2, .int p1)] := hl
  unfold sX3_sweep at hsem
  refine lv_iconst (v := 0) hx hb dX3_sweep_0 (by decide) ?_
  refine lv_istore_n (lv' := [(3, .int 0), (0, .ref (ad 0)), (1, .ref (adh 0)), (2, .int p1)]) hx hb dX3_sweep_1 rfl hl (by decide) rfl (fun ls hl => ?_)
  obtain ⟨q2, hc4, hsem⟩ := bn_some hsem
  refine loopM (g := g) hc4 (fun (q1 : Int32 × IA) => [(3, .int q1.1), (0, .ref (ad 0)), (1, .ref (adh 0)), (2, .int p1)]) (fun (q1 : IA) => [(1, .ref (adh 0)), (2, .int p1)]) (exit := 39) (fun (q1 : Int32 × IA) => (wPa g ad A F) ++ (wH g adh q1.2 Fh)) (fun (q1 : IA) => (wPa g ad A F) ++ (wH g adh q1 Fh)) hP hD hS (lv_sub hl [0, 1, 2, 3] rfl) (fun H locs ls hP hD hS hl => ?_) (fun q1 r hst1 hin1 hout1 H locs ls hP hD hS hl => ?_)
  · have hP : va_P g.1 vwCl ((wPa g ad A F) ++ (wH g adh q2 Fh)) H := hP
    have hD : va_D Z ((wPa g ad A F) ++ (wH g adh q2 Fh)) := hD
    refine lv_aload_n hx hb dX3_sweep_39 rfl (lv_at hl 0 rfl) ?_
    refine lv_iload_n hx hb dX3_sweep_40 rfl (lv_at hl 1 rfl) ?_
    obtain ⟨x3, hc5, hsem⟩ := bn_some hsem
    refine pcV (C := RX1) (As := [.int p1]) (rest := []) ⟨hx, hb, hml, hown, hts⟩ hKK (cwV 1 hts gX3_sweep_X1_thingsIn rfl rfl rfl hdX1_thingsIn ⟨Nat.le_of_ble_eq_true rfl, Nat.le_of_ble_eq_true rfl⟩) (kX1_thingsIn (l := l) (g := g) (hP.sub (ws' := wH g adh q2 Fh) [4, 5, 6, 7, 8, 9, 10, 11, 12, 13, 14, 15, 16, 17, 18] rfl) hc5) (va_recv hK hP (ci := 1) (q0 := 4) rfl rfl) rfl hl.1 rfl (Nat.le_of_ble_eq_true rfl) dX3_sweep_41 ⟨Nat.zero_le _, Nat.zero_le _⟩ ?_
    refine lv_if_ne (tgt := 55) hx hb dX3_sweep_44 (by decide) (fun c4 => ?_) (fun c4 => ?_)
    · rw [if_neg c4] at hsem
      refine lv_aload_n hx hb dX3_sweep_55 rfl (lv_at hl 0 rfl) ?_
      refine va_get (D := g.1) (ci := 1) (v := .ref (adh 1)) (C := RX1) (T := TX1) (N := 18) hx hb hts (fun w h => List.mem_cons_of_mem _ (List.mem_append_left _ (List.mem_append_right _ h))) hown hK hP 4 rfl rfl 0 (by decide) (hts (.fieldLink RX3 98 "PauseRegions$Heap" "kind" "[I") (List.mem_of_getElem? (i := 2) rfl)) (fun _ h9 => h9) rfl dX3_sweep_56 ?_
      refine lv_iload_n hx hb dX3_sweep_59 rfl (lv_at hl 1 rfl) ?_
      refine lv_iconst (v := 2) hx hb dX3_sweep_60 (by decide) ?_
      obtain ⟨h1, hsem⟩ := ck_some hsem
      refine va_iast (D := g.1) hx hb hK hP hD hS 5 0 rfl rfl h1 dX3_sweep_61 (fun H locs hP hD hS => ?_)
      obtain ⟨A1h, eA1h, hsem⟩ := bd_some hsem
      have hP : va_P g.1 vwCl ((wPa g ad A F) ++ (wH g adh A1h Fh)) H := by rw [eA1h]; exact hP
      have hD : va_D Z ((wPa g ad A F) ++ (wH g adh A1h Fh)) := by rw [eA1h]; exact hD
      refine lv_aload_n hx hb dX3_sweep_62 rfl (lv_at hl 0 rfl) ?_
      refine va_get (D := g.1) (ci := 1) (v := .ref (adh 3)) (C := RX1) (T := TX1) (N := 18) hx hb hts (fun w h => List.mem_cons_of_mem _ (List.mem_append_left _ (List.mem_append_right _ h))) hown hK hP 4 rfl rfl 2 (by decide) (hts (.fieldLink RX3 170 "PauseRegions$Heap" "live" "[I") (List.mem_of_getElem? (i := 3) rfl)) (fun _ h9 => h9) rfl dX3_sweep_63 ?_
      refine lv_iload_n hx hb dX3_sweep_66 rfl (lv_at hl 1 rfl) ?_
      refine lv_bipush (v := (-9)) hx hb dX3_sweep_67 (by decide) ?_
      obtain ⟨h2, hsem⟩ := ck_some hsem
      refine va_iast (D := g.1) hx hb hK hP hD hS 7 0 rfl rfl h2 dX3_sweep_69 (fun H locs hP hD hS => ?_)
      obtain ⟨A2h, eA2h, hsem⟩ := bd_some hsem
      have hP : va_P g.1 vwCl ((wPa g ad A F) ++ (wH g adh A2h Fh)) H := by rw [eA2h]; exact hP
      have hD : va_D Z ((wPa g ad A F) ++ (wH g adh A2h Fh)) := by rw [eA2h]; exact hD
      have eo := (Option.some.inj hsem).symm.symm
      subst eo
      exact W.vret hx hb hr (fun t ht hW => ⟨⟨(), rfl, trivial, ⟨by rw [ht]; exact hP, hD⟩⟩, hS.F ht⟩) hS.2.2 dX3_sweep_70
    · rw [if_pos c4] at hsem
      refine lv_aload_n hx hb dX3_sweep_47 rfl (lv_at hl 0 rfl) ?_
      refine lv_iload_n hx hb dX3_sweep_48 rfl (lv_at hl 1 rfl) ?_
      obtain ⟨z2, hc6, hsem⟩ := bn_some hsem
      refine mcVs (C := RX1) (As := [.int p1]) (rest := []) (wr := (wPa g ad A F)) ⟨hx, hb, hml, hown, hts⟩ hKK hP hD hS hZ [4, 5, 6, 7, 8, 9, 10, 11, 12, 13, 14, 15, 16, 17, 18] [0, 1, 2, 3] rfl rfl (by decide) (by decide) (by decide) (cwV 1 hts gX3_sweep_X1_freeWithRests rfl rfl rfl hdX1_freeWithRests ⟨Nat.le_of_ble_eq_true rfl, Nat.le_of_ble_eq_true rfl⟩) (kX1_freeWithRests (l := l) (g := g) (ad := adh) (A := q2) (F := Fh) hc6) (va_recv hK hP (ci := 1) (q0 := 4) rfl rfl) rfl hl.1 rfl (Nat.le_of_ble_eq_true rfl) dX3_sweep_49 ⟨Nat.zero_le _, Nat.zero_le _⟩ (fun H locs hP hD hS => ?_)
      have hP : va_P g.1 vwCl ((wPa g ad A F) ++ (wH g adh z2 Fh)) H := hP.sub [0, 1, 2, 3, 4, 5, 6, 7, 8, 9, 10, 11, 12, 13, 14, 15, 16, 17, 18] rfl
      have hD : va_D Z ((wPa g ad A F) ++ (wH g adh z2 Fh)) := hD.sub [0, 1, 2, 3, 4, 5, 6, 7, 8, 9, 10, 11, 12, 13, 14, 15, 16, 17, 18] (by decide) rfl
      refine lv_goto (tgt := 70) hx hb dX3_sweep_52 (by decide) ?_
      have eo := (Option.some.inj hsem).symm.symm
      subst eo
      exact W.vret hx hb hr (fun t ht hW => ⟨⟨(), rfl, trivial, ⟨by rw [ht]; exact hP, hD⟩⟩, hS.F ht⟩) hS.2.2 dX3_sweep_70
  · unfold sX3_sweep_L2 at hst1
    have hP : va_P g.1 vwCl ((wPa g ad A F) ++ (wH g adh q1.2 Fh)) H := hP
    have hD : va_D Z ((wPa g ad A F) ++ (wH g adh q1.2 Fh)) := hD
    refine lv_iload_n hx hb dX3_sweep_2 rfl (lv_at hl 0 rfl) ?_
    refine lv_bipush (v := 32) hx hb dX3_sweep_3 (by decide) ?_
    refine lv_icmp_ge (tgt := 39) hx hb dX3_sweep_5 (by decide) (fun c1 => ?_) (fun c1 => ?_)
    · rw [if_pos c1] at hst1
      exact hout1 H locs ls _ (Option.some.inj hst1).symm hP hD hS (lv_sub hl [2, 3] rfl)
    · rw [if_neg c1] at hst1
      refine lv_aload_n hx hb dX3_sweep_8 rfl (lv_at hl 2 rfl) ?_
      refine lv_iload_n hx hb dX3_sweep_9 rfl (lv_at hl 0 rfl) ?_
      refine lv_iload_n hx hb dX3_sweep_10 rfl (lv_at hl 3 rfl) ?_
      obtain ⟨x1, hc1, hst1⟩ := bn_some hst1
      refine pcV (C := RX1) (As := [.int q1.1, .int p1]) (rest := []) ⟨hx, hb, hml, hown, hts⟩ hKK (cwV 2 hts gX3_sweep_X1_isIn rfl rfl rfl hdX1_isIn ⟨Nat.le_of_ble_eq_true rfl, Nat.le_of_ble_eq_true rfl⟩) (kX1_isIn (l := l) (g := g) (hP.sub (ws' := wH g adh q1.2 Fh) [4, 5, 6, 7, 8, 9, 10, 11, 12, 13, 14, 15, 16, 17, 18] rfl) hc1) (va_recv hK hP (ci := 1) (q0 := 4) rfl rfl) rfl hl.1 rfl (Nat.le_of_ble_eq_true rfl) dX3_sweep_11 ⟨Nat.zero_le _, Nat.zero_le _⟩ ?_
      refine lv_if_eq (tgt := 33) hx hb dX3_sweep_14 (by decide) (fun c2 => ?_) (fun c2 => ?_)
      · rw [if_pos c2] at hst1
        refine lv_iinc (v := q1.1 + 1) (lv' := [(3, .int (q1.1 + 1)), (0, .ref (ad 0)), (1, .ref (adh 0)), (2, .int p1)]) hx hb dX3_sweep_33 hl (k := 0) rfl rfl (by decide) rfl (fun ls hl => ?_)
        refine lv_goto (tgt := 2) hx hb dX3_sweep_36 (by decide) ?_
        exact hin1 H locs ls _ (Option.some.inj hst1).symm hP hD hS (lv_sub hl [0, 1, 2, 3] rfl)
      · rw [if_neg c2] at hst1
        refine lv_aload_n hx hb dX3_sweep_17 rfl (lv_at hl 1 rfl) ?_
        refine va_get (D := g.1) (ci := 3) (v := .int (A 8 0)) (C := RX3) (T := TX3) (N := 8) hx hb hts (fun w h => List.mem_cons_of_mem _ (List.mem_append_left _ (List.mem_append_left _ (List.mem_append_right _ h)))) hown hK hP 0 rfl rfl 4 (by decide) (hts (.fieldLink RX3 68 "PauseRegions$Pause" "stayed" "I") (List.mem_of_getElem? (i := 1) rfl)) (fun _ h9 => h9) rfl dX3_sweep_18 ?_
        refine lv_iload_n hx hb dX3_sweep_21 rfl (lv_at hl 0 rfl) ?_
        obtain ⟨x2, hc2, hst1⟩ := bn_some hst1
        refine pcN (As := [.int (A 8 0), .int q1.1]) (rest := []) ⟨hx, hb, hml, hown, hts⟩ hKK ⟨va_cnB 2 hts gX3_sweep_X6_hasBit_n87 rfl rfl rfl (hKK.2 11 _ rfl) (hts (.initialized RX6) (List.mem_of_getElem? (i := 16) rfl)) hdX6_hasBit ⟨Nat.le_of_ble_eq_true rfl, Nat.le_of_ble_eq_true rfl⟩, (hts (.static yX6_hasBit) (List.mem_of_getElem? (i := 15) rfl)), trivial⟩ (kX6_hasBit (l := l) (g := g) hc2) rfl hl.1 rfl (Nat.le_of_ble_eq_true rfl) dX3_sweep_22 ⟨Nat.zero_le _, Nat.zero_le _⟩ ?_
        refine lv_if_ne (tgt := 33) hx hb dX3_sweep_25 (by decide) (fun c3 => ?_) (fun c3 => ?_)
        · rw [if_neg c3] at hst1
          refine lv_iinc (v := q1.1 + 1) (lv' := [(3, .int (q1.1 + 1)), (0, .ref (ad 0)), (1, .ref (adh 0)), (2, .int p1)]) hx hb dX3_sweep_33 hl (k := 0) rfl rfl (by decide) rfl (fun ls hl => ?_)
          refine lv_goto (tgt := 2) hx hb dX3_sweep_36 (by decide) ?_
          exact hin1 H locs ls _ (Option.some.inj hst1).symm hP hD hS (lv_sub hl [0, 1, 2, 3] rfl)
        · rw [if_pos c3] at hst1
          refine lv_aload_n hx hb dX3_sweep_28 rfl (lv_at hl 2 rfl) ?_
          refine lv_iload_n hx hb dX3_sweep_29 rfl (lv_at hl 0 rfl) ?_
          obtain ⟨z1, hc3, hst1⟩ := bn_some hst1
          refine mcVs (C := RX1) (As := [.int q1.1]) (rest := []) (wr := (wPa g ad A F)) ⟨hx, hb, hml, hown, hts⟩ hKK hP hD hS hZ [4, 5, 6, 7, 8, 9, 10, 11, 12, 13, 14, 15, 16, 17, 18] [0, 1, 2, 3] rfl rfl (by decide) (by decide) (by decide) (cwV 1 hts gX3_sweep_X1_endThing rfl rfl rfl hdX1_endThing ⟨Nat.le_of_ble_eq_true rfl, Nat.le_of_ble_eq_true rfl⟩) (kX1_endThing (l := l) (g := g) (ad := adh) (A := q1.2) (F := Fh) hc3) (va_recv hK hP (ci := 1) (q0 := 4) rfl rfl) rfl hl.1 rfl (Nat.le_of_ble_eq_true rfl) dX3_sweep_30 ⟨Nat.zero_le _, Nat.zero_le _⟩ (fun H locs hP hD hS => ?_)
          have hP : va_P g.1 vwCl ((wPa g ad A F) ++ (wH g adh z1 Fh)) H := hP.sub [0, 1, 2, 3, 4, 5, 6, 7, 8, 9, 10, 11, 12, 13, 14, 15, 16, 17, 18] rfl
          have hD : va_D Z ((wPa g ad A F) ++ (wH g adh z1 Fh)) := hD.sub [0, 1, 2, 3, 4, 5, 6, 7, 8, 9, 10, 11, 12, 13, 14, 15, 16, 17, 18] (by decide) rfl
          refine lv_iinc (v := q1.1 + 1) (lv' := [(3, .int (q1.1 + 1)), (0, .ref (ad 0)), (1, .ref (adh 0)), (2, .int p1)]) hx hb dX3_sweep_33 hl (k := 0) rfl rfl (by decide) rfl (fun ls hl => ?_)
          refine lv_goto (tgt := 2) hx hb dX3_sweep_36 (by decide) ?_
          exact hin1 H locs ls _ (Option.some.inj hst1).symm hP hD hS (lv_sub hl [0, 1, 2, 3] rfl)
def sX3_sweepChosen_L2 (A : IA) (q1 : Int32 × IA) : Option ((Int32 × IA) ⊕ (IA)) :=
  if 10 ≤ q1.1 then (some (.inr q1.2)) else ((sX6_hasBit (A 10 0) q1.1).bind fun x1 => if x1 = 0 then (some (.inl (q1.1 + 1, q1.2))) else ((sX3_sweep A q1.2 q1.1).bind fun z1 => some (.inl (q1.1 + 1, z1))))
def sX3_sweepChosen (A : IA) (Ah : IA) : Option (IA) :=
  (loopN (sX3_sweepChosen_L2 A) 2000 (0, Ah)).bind fun q2 => bd (sc q2 13 (-9)) fun A1h => some A1h
abbrev rmX3_sweepChosen : Room := { frames := 4, cells := 0, slots := 0, locals := 91 }
theorem hdX3_sweepChosen : yX3_sweepChosen.cls = RX3 ∧ yX3_sweepChosen.cls ≠ "java/lang/invoke/MethodHandle" ∧ yX3_sweepChosen.cls ≠ "java/lang/invoke/VarHandle" ∧ (parseMethodDescriptor yX3_sweepChosen.desc).map (fun d => d.parameters.length) = some 1 := by decide +kernel
set_option maxHeartbeats 4000000 in
set_option maxRecDepth 100000 in
theorem kX3_sweepChosen {l : Launch} {g : GG} {sz : Nat} {ad : Nat → Nat} {A : IA} {F : FA} {adh : Nat → Nat} {Ah : IA} {Fh : FA} {b : IA} (hsem : sX3_sweepChosen A Ah = some b) : MetV l yX3_sweepChosen wsX3_sweepChosen rmX3_sweepChosen g [.ref (ad 0), .ref (adh 0)] ((wPa g ad A F) ++ (wH g adh Ah Fh)) sz ((wPa g ad A F) ++ (wH g adh b Fh)) := by
  refine Met.ofW (cc := cX3_sweepChosen) (maxL := 3) (ret := none) (by decide) rfl ?_
  intro p e s m args below meth c s₁ B hml hv
  obtain ⟨rfl, hsz, hP, hD0, hKK⟩ := hv
  subst hsz
  have hx := B.exec
  have hb := B.bytes
  have hr := B.returns
  have hts := atoms_spec (ws := wsX3_sweepChosen) B.pre
  have hown : s.vm.findClass RX3 = some m.cls := findClass_of_methodNamed B.named
  have hlocks := B.notSynchronized
  have hK := hKK.1
  have hD := hD0.self (sz := s.heap.size)
  generalize hZe : va_A ((wPa g ad A F) ++ (wH g adh Ah Fh)) s.heap.size = Z at hD ⊢
  have hZ : ∀ q : Nat, s.heap.size ≤ q → Z q := fun q h => by rw [← hZe]; exact Or.inr h
  have hS : va_S Z s.heap s.heap [] := va_S.rf
  have hP : va_P g.1 vwCl ((wPa g ad A F) ++ (wH g adh Ah Fh)) s.heap := hP
  have hD : va_D Z ((wPa g ad A F) ++ (wH g adh Ah Fh)) := hD
  have hl := lv_entry ([.ref (ad 0), .ref (adh 0)]) (n := 3) (Nat.le_of_ble_eq_true rfl)
  rw [lg_entry_eq]
  generalize (lg_sl ([.ref (ad 0), .ref (adh 0)]) ++ List.replicate (3 - (lg_sl ([.ref (ad 0), .ref (adh 0)])).length) Slot.unset).toArray = ls at hl ⊢
  have hl : lv_has ls 3 [(0, .ref (ad 0)), (1, .ref (adh 0))] := hl
  unfold sX3_sweepChosen at hsem
  refine lv_iconst (v := 0) hx hb dX3_sweepChosen_0 (by decide) ?_
  refine lv_istore_n (lv' := [(2, .int 0), (0, .ref (ad 0)), (1, .ref (adh 0))]) hx hb dX3_sweepChosen_1 rfl hl (by decide) rfl (fun ls hl => ?_)
  obtain ⟨q2, hc3, hsem⟩ := bn_some hsem
  refine loopM (g := g) hc3 (fun (q1 : Int32 × IA) => [(2, .int q1.1), (0, .ref (ad 0)), (1, .ref (adh 0))]) (fun (q1 : IA) => [(1, .ref (adh 0))]) (exit := 34) (fun (q1 : Int32 × IA) => (wPa g ad A F) ++ (wH g adh q1.2 Fh)) (fun (q1 : IA) => (wPa g ad A F) ++ (wH g adh q1 Fh)) hP hD hS (lv_sub hl [0, 1, 2] rfl) (fun H locs ls hP hD hS hl => ?_) (fun q1 r hst1 hin1 hout1 H locs ls hP hD hS hl => ?_)
  · have hP : va_P g.1 vwCl ((wPa g ad A F) ++ (wH g adh q2 Fh)) H := hP
    have hD : va_D Z ((wPa g ad A F) ++ (wH g adh q2 Fh)) := hD
    refine lv_aload_n hx hb dX3_sweepChosen_34 rfl (lv_at hl 0 rfl) ?_
    refine lv_bipush (v := (-9)) hx hb dX3_sweepChosen_35 (by decide) ?_
    refine va_put (D := g.1) (ci := 1) (v := .int (-9)) (ty := .int) (C := RX1) (T := TX1) (N := 18) hx hb hts (fun w h => List.mem_cons_of_mem _ (List.mem_append_left _ (List.mem_append_right _ h))) tyX1 tyX1_ok nmX1 hown hK hP hD hS 4 rfl rfl 13 (by decide) (hts (.fieldLink RX3 154 "PauseRegions$Heap" "latestYoung" "I") (List.mem_of_getElem? (i := 3) rfl)) (fun _ h9 => h9) rfl (by decide +kernel) rfl rfl (Nat.le_of_ble_eq_true rfl) dX3_sweepChosen_37 (fun H locs hP hD hS => ?_)
    obtain ⟨A1h, eA1h, hsem⟩ := bd_some hsem
    have hP : va_P g.1 vwCl ((wPa g ad A F) ++ (wH g adh A1h Fh)) H := by rw [eA1h]; exact hP
    have hD : va_D Z ((wPa g ad A F) ++ (wH g adh A1h Fh)) := by rw [eA1h]; exact hD
    have eo := (Option.some.inj hsem).symm.symm
    subst eo
    exact W.vret hx hb hr (fun t ht hW => ⟨⟨(), rfl, trivial, ⟨by rw [ht]; exact hP, hD⟩⟩, hS.F ht⟩) hS.2.2 dX3_sweepChosen_40
  · unfold sX3_sweepChosen_L2 at hst1
    have hP : va_P g.1 vwCl ((wPa g ad A F) ++ (wH g adh q1.2 Fh)) H := hP
    have hD : va_D Z ((wPa g ad A F) ++ (wH g adh q1.2 Fh)) := hD
    refine lv_iload_n hx hb dX3_sweepChosen_2 rfl (lv_at hl 0 rfl) ?_
    refine lv_bipush (v := 10) hx hb dX3_sweepChosen_3 (by decide) ?_
    refine lv_icmp_ge (tgt := 34) hx hb dX3_sweepChosen_5 (by decide) (fun c1 => ?_) (fun c1 => ?_)
    · rw [if_pos c1] at hst1
      exact hout1 H locs ls _ (Option.some.inj hst1).symm hP hD hS (lv_sub hl [2] rfl)
    · rw [if_neg c1] at hst1
      refine lv_aload_n hx hb dX3_sweepChosen_8 rfl (lv_at hl 1 rfl) ?_
      refine va_get (D := g.1) (ci := 3) (v := .ref (ad 1)) (C := RX3) (T := TX3) (N := 8) hx hb hts (fun w h => List.mem_cons_of_mem _ (List.mem_append_left _ (List.mem_append_left _ (List.mem_append_left _ (List.mem_append_right _ h))))) hown hK hP 0 rfl rfl 0 (by decide) (hts (.fieldLink RX3 12 "PauseRegions$Pause" "choice" "LPauseRegions$Choice;") (List.mem_of_getElem? (i := 1) rfl)) (fun _ h9 => h9) rfl dX3_sweepChosen_9 ?_
      refine va_get (D := g.1) (ci := 0) (v := .int (A 10 0)) (C := RX0) (T := TX0) (N := 3) hx hb hts (fun w h => List.mem_cons_of_mem _ (List.mem_append_left _ (List.mem_append_left _ (List.mem_append_right _ h)))) hown hK hP 1 rfl rfl 0 (by decide) (hts (.fieldLink RX3 80 "PauseRegions$Choice" "regions" "I") (List.mem_of_getElem? (i := 2) rfl)) (fun _ h9 => h9) rfl dX3_sweepChosen_12 ?_
      refine lv_iload_n hx hb dX3_sweepChosen_15 rfl (lv_at hl 0 rfl) ?_
      obtain ⟨x1, hc1, hst1⟩ := bn_some hst1
      refine pcN (As := [.int (A 10 0), .int q1.1]) (rest := []) ⟨hx, hb, hml, hown, hts⟩ hKK ⟨va_cnB 2 hts gX3_sweepChosen_X6_hasBit_n87 rfl rfl rfl (hKK.2 11 _ rfl) (hts (.initialized RX6) (List.mem_of_getElem? (i := 5) rfl)) hdX6_hasBit ⟨Nat.le_of_ble_eq_true rfl, Nat.le_of_ble_eq_true rfl⟩, (hts (.static yX6_hasBit) (List.mem_of_getElem? (i := 4) rfl)), trivial⟩ (kX6_hasBit (l := l) (g := g) hc1) rfl hl.1 rfl (Nat.le_of_ble_eq_true rfl) dX3_sweepChosen_16 ⟨Nat.zero_le _, Nat.zero_le _⟩ ?_
      refine lv_if_eq (tgt := 28) hx hb dX3_sweepChosen_19 (by decide) (fun c2 => ?_) (fun c2 => ?_)
      · rw [if_pos c2] at hst1
        refine lv_iinc (v := q1.1 + 1) (lv' := [(2, .int (q1.1 + 1)), (0, .ref (ad 0)), (1, .ref (adh 0))]) hx hb dX3_sweepChosen_28 hl (k := 0) rfl rfl (by decide) rfl (fun ls hl => ?_)
        refine lv_goto (tgt := 2) hx hb dX3_sweepChosen_31 (by decide) ?_
        exact hin1 H locs ls _ (Option.some.inj hst1).symm hP hD hS (lv_sub hl [0, 1, 2] rfl)
      · rw [if_neg c2] at hst1
        refine lv_aload_n hx hb dX3_sweepChosen_22 rfl (lv_at hl 1 rfl) ?_
        refine lv_aload_n hx hb dX3_sweepChosen_23 rfl (lv_at hl 2 rfl) ?_
        refine lv_iload_n hx hb dX3_sweepChosen_24 rfl (lv_at hl 0 rfl) ?_
        obtain ⟨z1, hc2, hst1⟩ := bn_some hst1
        refine mcV (C := RX3) (As := [.ref (adh 0), .int q1.1]) (rest := []) ⟨hx, hb, hml, hown, hts⟩ hKK hP hD hS hZ (cwV 2 hts gX3_sweepChosen_X3_sweep rfl rfl rfl hdX3_sweep ⟨Nat.le_of_ble_eq_true rfl, Nat.le_of_ble_eq_true rfl⟩) (kX3_sweep (l := l) (g := g) (ad := ad) (A := A) (F := F) (adh := adh) (Ah := q1.2) (Fh := Fh) hc2) (va_recv hK hP (ci := 3) (q0 := 0) rfl rfl) rfl hl.1 rfl (Nat.le_of_ble_eq_true rfl) dX3_sweepChosen_25 ⟨Nat.zero_le _, Nat.zero_le _⟩ (fun H locs hP hD hS => ?_)
        have hP : va_P g.1 vwCl ((wPa g ad A F) ++ (wH g adh z1 Fh)) H := hP
        have hD : va_D Z ((wPa g ad A F) ++ (wH g adh z1 Fh)) := hD
        refine lv_iinc (v := q1.1 + 1) (lv' := [(2, .int (q1.1 + 1)), (0, .ref (ad 0)), (1, .ref (adh 0))]) hx hb dX3_sweepChosen_28 hl (k := 0) rfl rfl (by decide) rfl (fun ls hl => ?_)
        refine lv_goto (tgt := 2) hx hb dX3_sweepChosen_31 (by decide) ?_
        exact hin1 H locs ls _ (Option.some.inj hst1).symm hP hD hS (lv_sub hl [0, 1, 2] rfl)
def sX3_tellCost (A : IA) (Fc : FA) (Ah : IA) (Fhc : FA) : Option (Int32 × IA × FA) :=
  (sJ6_bitCount_0f7a4 (A 4 0)).bind fun x1 => (sJ6_bitCount_0f7a4 (A 8 0)).bind fun x2 => bd (((A 7 0) + (2 * x1)) + (5 * x2)) fun x3 => if (A 5 0) ≤ 0 then (if (A 11 0) ≤ 0 then (bd (sc Ah 16 ((Ah 16 0) + 1)) fun A1h => bd (sc A1h 17 (10 + x3)) fun A2h => some (((A2h 17 0), A2h, Fhc))) else (bd (scF Fhc 15 (FP.fadd (FP.fmul 1061158912 (Fhc 15 0)) (FP.fmul 1048576000 (FP.fdiv (FP.i2f (A 6 0)) (FP.i2f (A 11 0)))))) fun F1hc => bd (sc Ah 16 ((Ah 16 0) + 1)) fun A3h => bd (sc A3h 17 (10 + x3)) fun A4h => some (((A4h 17 0), A4h, F1hc)))) else (bd (scF Fhc 14 (FP.fadd (FP.fmul 1061158912 (Fhc 14 0)) (FP.fmul 1048576000 (FP.fdiv (FP.i2f x3) (FP.i2f (A 5 0)))))) fun F2hc => if (A 11 0) ≤ 0 then (bd (sc Ah 16 ((Ah 16 0) + 1)) fun A5h => bd (sc A5h 17 (10 + x3)) fun A6h => some (((A6h 17 0), A6h, F2hc))) else (bd (scF F2hc 15 (FP.fadd (FP.fmul 1061158912 (F2hc 15 0)) (FP.fmul 1048576000 (FP.fdiv (FP.i2f (A 6 0)) (FP.i2f (A 11 0)))))) fun F3hc => bd (sc Ah 16 ((Ah 16 0) + 1)) fun A7h => bd (sc A7h 17 (10 + x3)) fun A8h => some (((A8h 17 0), A8h, F3hc))))
abbrev rmX3_tellCost : Room := { frames := 1, cells := 0, slots := 0, locals := 20 }
theorem hdX3_tellCost : yX3_tellCost.cls = RX3 ∧ yX3_tellCost.cls ≠ "java/lang/invoke/MethodHandle" ∧ yX3_tellCost.cls ≠ "java/lang/invoke/VarHandle" ∧ (parseMethodDescriptor yX3_tellCost.desc).map (fun d => d.parameters.length) = some 1 := by decide +kernel
set_option maxHeartbeats 4000000 in
set_option maxRecDepth 100000 in
theorem kX3_tellCost {l : Launch} {g : GG} {sz : Nat} {ad : Nat → Nat} {A : IA} {F : FA} {adh : Nat → Nat} {Ah : IA} {Fh : FA} {Fc : FA} (hAL : AL F Fc) {Fhc : FA} (hALh : AL Fh Fhc) {b : Int32 × IA × FA} (hsem : sX3_tellCost A Fc Ah Fhc = some b) : MetDI l yX3_tellCost wsX3_tellCost rmX3_tellCost g [.ref (ad 0), .ref (adh 0)] ((wPa g ad A F) ++ (wH g adh Ah Fh)) sz b.1 (φ := FA) (fun u => AL u b.2.2) (fun u => (wPa g ad A F) ++ (wH g adh b.2.1 u)) := by
  refine MetD.ofW (cc := cX3_tellCost) (maxL := 3) (ret := (some .int)) (by decide) rfl ?_
  intro p e s m args below meth c s₁ B hml hv hdr
  obtain ⟨rfl, hsz, hP, hD0, hKK⟩ := hv
  subst hsz
  have hx := B.exec
  have hb := B.bytes
  have hr := B.returns
  have hts := atoms_spec (ws := wsX3_tellCost) B.pre
  have hown : ∀ d, (s.setDrawn d).vm.findClass RX3 = some m.cls := fun _ => findClass_of_methodNamed B.named
  have hlocks := B.notSynchronized
  have hK : ∀ d, va_K g.1 vwCl (KT g) (s.setDrawn d) := fun d => (hKK.drawn d).1
  have hD := hD0.self (sz := s.heap.size)
  generalize hZe : va_A ((wPa g ad A F) ++ (wH g adh Ah Fh)) s.heap.size = Z at hD ⊢
  have hZ : ∀ q : Nat, s.heap.size ≤ q → Z q := fun q h => by rw [← hZe]; exact Or.inr h
  have hS : va_S Z s.heap s.heap [] := va_S.rf
  have hP : va_P g.1 vwCl ((wPa g ad A F) ++ (wH g adh Ah Fh)) s.heap := hP
  have hD : va_D Z ((wPa g ad A F) ++ (wH g adh Ah Fh)) := hD
  obtain ⟨d, hdr, hdd⟩ : ∃ d, s.drawn.sameBut d lw_cs ∧ s.drawn = d := ⟨_, hdr, rfl⟩
  rw [hdd]
  have hl := lv_entry ([.ref (ad 0), .ref (adh 0)]) (n := 3) (Nat.le_of_ble_eq_true rfl)
  rw [lg_entry_eq]
  generalize (lg_sl ([.ref (ad 0), .ref (adh 0)]) ++ List.replicate (3 - (lg_sl ([.ref (ad 0), .ref (adh 0)])).length) Slot.unset).toArray = ls at hl ⊢
  have hl : lv_has ls 3 [(0, .ref (ad 0)), (1, .ref (adh 0))] := hl
  unfold sX3_tellCost at hsem
  refine lv_aload_n hx hb dX3_tellCost_0 rfl (lv_at hl 0 rfl) ?_
  refine va_get (D := g.1) (ci := 3) (v := .int (A 7 0)) (C := RX3) (T := TX3) (N := 8) hx hb (dr_words hts d) (fun w h => List.mem_cons_of_mem _ (List.mem_append_left _ (List.mem_append_left _ (List.mem_append_right _ h)))) (hown d) (hK d) hP 0 rfl rfl 7 (by decide) ((dr_words hts d) (.fieldLink RX3 77 "PauseRegions$Pause" "copiedCells" "I") (List.mem_of_getElem? (i := 1) rfl)) (fun _ h9 => h9) rfl dX3_tellCost_1 ?_
  refine lv_iconst (v := 2) hx hb dX3_tellCost_4 (by decide) ?_
  refine lv_aload_n hx hb dX3_tellCost_5 rfl (lv_at hl 0 rfl) ?_
  refine va_get (D := g.1) (ci := 3) (v := .int (A 4 0)) (C := RX3) (T := TX3) (N := 8) hx hb (dr_words hts d) (fun w h => List.mem_cons_of_mem _ (List.mem_append_left _ (List.mem_append_left _ (List.mem_append_right _ h)))) (hown d) (hK d) hP 0 rfl rfl 3 (by decide) ((dr_words hts d) (.fieldLink RX3 65 "PauseRegions$Pause" "scanned" "I") (List.mem_of_getElem? (i := 2) rfl)) (fun _ h9 => h9) rfl dX3_tellCost_6 ?_
  obtain ⟨x1, hc1, hsem⟩ := bn_some hsem
  refine pcS (As := [.int (A 4 0)]) (rest := [.int 2, .int (A 7 0)]) ⟨hx, hb, hml, (hown d), (dr_words hts d)⟩ (hKK.drawn d) (va_cwS 1 (dr_words hts d) gX3_tellCost_J6_bitCount_0f7a4 rfl rfl rfl hdJ6_bitCount_0f7a4 ⟨Nat.le_of_ble_eq_true rfl, Nat.le_of_ble_eq_true rfl⟩) (kJ6_bitCount_0f7a4 (l := l) (g := g) hc1) rfl hl.1 rfl (Nat.le_of_ble_eq_true rfl) dX3_tellCost_9 ⟨Nat.zero_le _, Nat.zero_le _⟩ ?_
  refine lv_imul hx hb dX3_tellCost_12 ?_
  refine lv_iadd hx hb dX3_tellCost_13 ?_
  refine lv_iconst (v := 5) hx hb dX3_tellCost_14 (by decide) ?_
  refine lv_aload_n hx hb dX3_tellCost_15 rfl (lv_at hl 0 rfl) ?_
  refine va_get (D := g.1) (ci := 3) (v := .int (A 8 0)) (C := RX3) (T := TX3) (N := 8) hx hb (dr_words hts d) (fun w h => List.mem_cons_of_mem _ (List.mem_append_left _ (List.mem_append_left _ (List.mem_append_right _ h)))) (hown d) (hK d) hP 0 rfl rfl 4 (by decide) ((dr_words hts d) (.fieldLink RX3 68 "PauseRegions$Pause" "stayed" "I") (List.mem_of_getElem? (i := 3) rfl)) (fun _ h9 => h9) rfl dX3_tellCost_16 ?_
  obtain ⟨x2, hc2, hsem⟩ := bn_some hsem
  refine pcS (As := [.int (A 8 0)]) (rest := [.int 5, .int ((A 7 0) + (2 * x1))]) ⟨hx, hb, hml, (hown d), (dr_words hts d)⟩ (hKK.drawn d) (va_cwS 1 (dr_words hts d) gX3_tellCost_J6_bitCount_0f7a4 rfl rfl rfl hdJ6_bitCount_0f7a4 ⟨Nat.le_of_ble_eq_true rfl, Nat.le_of_ble_eq_true rfl⟩) (kJ6_bitCount_0f7a4 (l := l) (g := g) hc2) rfl hl.1 rfl (Nat.le_of_ble_eq_true rfl) dX3_tellCost_19 ⟨Nat.zero_le _, Nat.zero_le _⟩ ?_
  refine lv_imul hx hb dX3_tellCost_22 ?_
  refine lv_iadd hx hb dX3_tellCost_23 ?_
  obtain ⟨x3, ex3, hsem⟩ := bd_some hsem
  rw [← ex3]
  refine lv_istore_n (lv' := [(2, .int x3), (0, .ref (ad 0)), (1, .ref (adh 0))]) hx hb dX3_tellCost_24 rfl hl (by decide) rfl (fun ls hl => ?_)
  refine lv_aload_n hx hb dX3_tellCost_25 rfl (lv_at hl 1 rfl) ?_
  refine va_get (D := g.1) (ci := 3) (v := .int (A 5 0)) (C := RX3) (T := TX3) (N := 8) hx hb (dr_words hts d) (fun w h => List.mem_cons_of_mem _ (List.mem_append_left _ (List.mem_append_left _ (List.mem_append_right _ h)))) (hown d) (hK d) hP 0 rfl rfl 5 (by decide) ((dr_words hts d) (.fieldLink RX3 71 "PauseRegions$Pause" "foundCells" "I") (List.mem_of_getElem? (i := 4) rfl)) (fun _ h9 => h9) rfl dX3_tellCost_26 ?_
  refine lv_if_le (tgt := 55) hx hb dX3_tellCost_29 (by decide) (fun c1 => ?_) (fun c1 => ?_)
  · rw [if_pos c1] at hsem
    refine lv_aload_n hx hb dX3_tellCost_55 rfl (lv_at hl 1 rfl) ?_
    refine va_get (D := g.1) (ci := 3) (v := .ref (ad 1)) (C := RX3) (T := TX3) (N := 8) hx hb (dr_words hts d) (fun w h => List.mem_cons_of_mem _ (List.mem_append_left _ (List.mem_append_left _ (List.mem_append_right _ h)))) (hown d) (hK d) hP 0 rfl rfl 0 (by decide) ((dr_words hts d) (.fieldLink RX3 12 "PauseRegions$Pause" "choice" "LPauseRegions$Choice;") (List.mem_of_getElem? (i := 8) rfl)) (fun _ h9 => h9) rfl dX3_tellCost_56 ?_
    refine va_get (D := g.1) (ci := 0) (v := .int (A 11 0)) (C := RX0) (T := TX0) (N := 3) hx hb (dr_words hts d) (fun w h => List.mem_cons_of_mem _ (List.mem_append_right _ h)) (hown d) (hK d) hP 1 rfl rfl 1 (by decide) ((dr_words hts d) (.fieldLink RX3 184 "PauseRegions$Choice" "youngCells" "I") (List.mem_of_getElem? (i := 9) rfl)) (fun _ h9 => h9) rfl dX3_tellCost_59 ?_
    refine lv_if_le (tgt := 94) hx hb dX3_tellCost_62 (by decide) (fun c2 => ?_) (fun c2 => ?_)
    · rw [if_pos c2] at hsem
      refine lv_aload_n hx hb dX3_tellCost_94 rfl (lv_at hl 2 rfl) ?_
      refine lv_dup hx hb dX3_tellCost_95 rfl ?_
      refine va_get (D := g.1) (ci := 1) (v := .int (Ah 16 0)) (C := RX1) (T := TX1) (N := 18) hx hb (dr_words hts d) (fun w h => List.mem_cons_of_mem _ (List.mem_append_left _ (List.mem_append_right _ h))) (hown d) (hK d) hP 4 rfl rfl 16 (by decide) ((dr_words hts d) (.fieldLink RX3 190 "PauseRegions$Heap" "pauseCount" "I") (List.mem_of_getElem? (i := 12) rfl)) (fun _ h9 => h9) rfl dX3_tellCost_96 ?_
      refine lv_iconst (v := 1) hx hb dX3_tellCost_99 (by decide) ?_
      refine lv_iadd hx hb dX3_tellCost_100 ?_
      refine va_put (D := g.1) (ci := 1) (v := .int ((Ah 16 0) + 1)) (ty := .int) (C := RX1) (T := TX1) (N := 18) hx hb (dr_words hts d) (fun w h => List.mem_cons_of_mem _ (List.mem_append_left _ (List.mem_append_right _ h))) tyX1 tyX1_ok nmX1 (hown d) (hK d) hP hD hS 4 rfl rfl 16 (by decide) ((dr_words hts d) (.fieldLink RX3 190 "PauseRegions$Heap" "pauseCount" "I") (List.mem_of_getElem? (i := 12) rfl)) (fun _ h9 => h9) rfl (by decide +kernel) rfl rfl (Nat.le_of_ble_eq_true rfl) dX3_tellCost_101 (fun H locs hP hD hS => ?_)
      obtain ⟨A1h, eA1h, hsem⟩ := bd_some hsem
      have hP : va_P g.1 vwCl ((wPa g ad A F) ++ (wH g adh A1h Fh)) H := by rw [eA1h]; exact hP
      have hD : va_D Z ((wPa g ad A F) ++ (wH g adh A1h Fh)) := by rw [eA1h]; exact hD
      refine lv_aload_n hx hb dX3_tellCost_104 rfl (lv_at hl 2 rfl) ?_
      refine lv_bipush (v := 10) hx hb dX3_tellCost_105 (by decide) ?_
      refine lv_iload_n hx hb dX3_tellCost_107 rfl (lv_at hl 0 rfl) ?_
      refine lv_iadd hx hb dX3_tellCost_108 ?_
      refine va_put (D := g.1) (ci := 1) (v := .int (10 + x3)) (ty := .int) (C := RX1) (T := TX1) (N := 18) hx hb (dr_words hts d) (fun w h => List.mem_cons_of_mem _ (List.mem_append_left _ (List.mem_append_right _ h))) tyX1 tyX1_ok nmX1 (hown d) (hK d) hP hD hS 4 rfl rfl 17 (by decide) ((dr_words hts d) (.fieldLink RX3 193 "PauseRegions$Heap" "lastCost" "I") (List.mem_of_getElem? (i := 13) rfl)) (fun _ h9 => h9) rfl (by decide +kernel) rfl rfl (Nat.le_of_ble_eq_true rfl) dX3_tellCost_109 (fun H locs hP hD hS => ?_)
      obtain ⟨A2h, eA2h, hsem⟩ := bd_some hsem
      have hP : va_P g.1 vwCl ((wPa g ad A F) ++ (wH g adh A2h Fh)) H := by rw [eA2h]; exact hP
      have hD : va_D Z ((wPa g ad A F) ++ (wH g adh A2h Fh)) := by rw [eA2h]; exact hD
      refine lv_aload_n hx hb dX3_tellCost_112 rfl (lv_at hl 2 rfl) ?_
      refine va_get (D := g.1) (ci := 1) (v := .int (A2h 17 0)) (C := RX1) (T := TX1) (N := 18) hx hb (dr_words hts d) (fun w h => List.mem_cons_of_mem _ (List.mem_append_left _ (List.mem_append_right _ h))) (hown d) (hK d) hP 4 rfl rfl 17 (by decide) ((dr_words hts d) (.fieldLink RX3 193 "PauseRegions$Heap" "lastCost" "I") (List.mem_of_getElem? (i := 13) rfl)) (fun _ h9 => h9) rfl dX3_tellCost_113 ?_
      have eo := (Option.some.inj hsem).symm.symm
      refine W.endD hdr ?_
      subst eo
      exact W.iret (v := (A2h 17 0)) hx hb hr (fun t ht hW => ⟨⟨_, Fh, rfl, ⟨rfl, hALh⟩, ⟨by rw [ht]; exact hP, hD⟩⟩, hS.F ht⟩) hS.2.2 dX3_tellCost_116
    · rw [if_neg c2] at hsem
      refine lv_aload_n hx hb dX3_tellCost_65 rfl (lv_at hl 2 rfl) ?_
      refine lv_ldcf hx hb (hown d) ((dr_words hts d) (.constantFloat RX3 178 (1061158912)) (List.mem_of_getElem? (i := 5) rfl)) dX3_tellCost_66 ?_
      refine lv_aload_n hx hb dX3_tellCost_68 rfl (lv_at hl 2 rfl) ?_
      refine va_get (D := g.1) (ci := 1) (v := .float (Fh 15 0)) (C := RX1) (T := TX1) (N := 18) hx hb (dr_words hts d) (fun w h => List.mem_cons_of_mem _ (List.mem_append_left _ (List.mem_append_right _ h))) (hown d) (hK d) hP 4 rfl rfl 15 (by decide) ((dr_words hts d) (.fieldLink RX3 187 "PauseRegions$Heap" "yielded" "F") (List.mem_of_getElem? (i := 10) rfl)) (fun _ h9 => h9) rfl dX3_tellCost_69 ?_
      refine lv_fmul_any hdr lw_bits hx hb dX3_tellCost_72 (fun y1 d hal hdr => ?_)
      have ay1 := al_fmul hal (al_refl _) (hALh 15 0)
      refine lv_ldcf hx hb (hown d) ((dr_words hts d) (.constantFloat RX3 183 (1048576000)) (List.mem_of_getElem? (i := 7) rfl)) dX3_tellCost_73 ?_
      refine lv_aload_n hx hb dX3_tellCost_75 rfl (lv_at hl 1 rfl) ?_
      refine va_get (D := g.1) (ci := 3) (v := .int (A 6 0)) (C := RX3) (T := TX3) (N := 8) hx hb (dr_words hts d) (fun w h => List.mem_cons_of_mem _ (List.mem_append_left _ (List.mem_append_left _ (List.mem_append_right _ h)))) (hown d) (hK d) hP 0 rfl rfl 6 (by decide) ((dr_words hts d) (.fieldLink RX3 74 "PauseRegions$Pause" "foundYoungCells" "I") (List.mem_of_getElem? (i := 11) rfl)) (fun _ h9 => h9) rfl dX3_tellCost_76 ?_
      refine lv_i2f hx hb dX3_tellCost_79 ?_
      refine lv_aload_n hx hb dX3_tellCost_80 rfl (lv_at hl 1 rfl) ?_
      refine va_get (D := g.1) (ci := 3) (v := .ref (ad 1)) (C := RX3) (T := TX3) (N := 8) hx hb (dr_words hts d) (fun w h => List.mem_cons_of_mem _ (List.mem_append_left _ (List.mem_append_left _ (List.mem_append_right _ h)))) (hown d) (hK d) hP 0 rfl rfl 0 (by decide) ((dr_words hts d) (.fieldLink RX3 12 "PauseRegions$Pause" "choice" "LPauseRegions$Choice;") (List.mem_of_getElem? (i := 8) rfl)) (fun _ h9 => h9) rfl dX3_tellCost_81 ?_
      refine va_get (D := g.1) (ci := 0) (v := .int (A 11 0)) (C := RX0) (T := TX0) (N := 3) hx hb (dr_words hts d) (fun w h => List.mem_cons_of_mem _ (List.mem_append_right _ h)) (hown d) (hK d) hP 1 rfl rfl 1 (by decide) ((dr_words hts d) (.fieldLink RX3 184 "PauseRegions$Choice" "youngCells" "I") (List.mem_of_getElem? (i := 9) rfl)) (fun _ h9 => h9) rfl dX3_tellCost_84 ?_
      refine lv_i2f hx hb dX3_tellCost_87 ?_
      refine lv_fdiv_any hdr lw_bits hx hb dX3_tellCost_88 (fun y2 d hal hdr => ?_)
      have ay2 := al_fdiv hal (al_refl _) (al_refl _)
      refine lv_fmul_any hdr lw_bits hx hb dX3_tellCost_89 (fun y3 d hal hdr => ?_)
      have ay3 := al_fmul hal (al_refl _) ay2
      refine lv_fadd_any hdr lw_bits hx hb dX3_tellCost_90 (fun y4 d hal hdr => ?_)
      have ay4 := al_fadd hal ay1 ay3
      refine va_put (D := g.1) (ci := 1) (v := .float y4) (ty := .float) (C := RX1) (T := TX1) (N := 18) hx hb (dr_words hts d) (fun w h => List.mem_cons_of_mem _ (List.mem_append_left _ (List.mem_append_right _ h))) tyX1 tyX1_ok nmX1 (hown d) (hK d) hP hD hS 4 rfl rfl 15 (by decide) ((dr_words hts d) (.fieldLink RX3 187 "PauseRegions$Heap" "yielded" "F") (List.mem_of_getElem? (i := 10) rfl)) (fun _ h9 => h9) rfl (by decide +kernel) rfl rfl (Nat.le_of_ble_eq_true rfl) dX3_tellCost_91 (fun H locs hP hD hS => ?_)
      obtain ⟨F1h, eF1h⟩ : ∃ z, z = scF Fh 15 y4 := ⟨_, rfl⟩
      obtain ⟨F1hc, eF1hc, hsem⟩ := bd_some hsem
      have haF1h : AL F1h F1hc := by rw [eF1h, eF1hc]; exact AL.sc hALh ay4
      have hP : va_P g.1 vwCl ((wPa g ad A F) ++ (wH g adh Ah F1h)) H := by rw [eF1h]; exact hP
      have hD : va_D Z ((wPa g ad A F) ++ (wH g adh Ah F1h)) := by rw [eF1h]; exact hD
      refine lv_aload_n hx hb dX3_tellCost_94 rfl (lv_at hl 2 rfl) ?_
      refine lv_dup hx hb dX3_tellCost_95 rfl ?_
      refine va_get (D := g.1) (ci := 1) (v := .int (Ah 16 0)) (C := RX1) (T := TX1) (N := 18) hx hb (dr_words hts d) (fun w h => List.mem_cons_of_mem _ (List.mem_append_left _ (List.mem_append_right _ h))) (hown d) (hK d) hP 4 rfl rfl 16 (by decide) ((dr_words hts d) (.fieldLink RX3 190 "PauseRegions$Heap" "pauseCount" "I") (List.mem_of_getElem? (i := 12) rfl)) (fun _ h9 => h9) rfl dX3_tellCost_96 ?_
      refine lv_iconst (v := 1) hx hb dX3_tellCost_99 (by decide) ?_
      refine lv_iadd hx hb dX3_tellCost_100 ?_
      refine va_put (D := g.1) (ci := 1) (v := .int ((Ah 16 0) + 1)) (ty := .int) (C := RX1) (T := TX1) (N := 18) hx hb (dr_words hts d) (fun w h => List.mem_cons_of_mem _ (List.mem_append_left _ (List.mem_append_right _ h))) tyX1 tyX1_ok nmX1 (hown d) (hK d) hP hD hS 4 rfl rfl 16 (by decide) ((dr_words hts d) (.fieldLink RX3 190 "PauseRegions$Heap" "pauseCount" "I") (List.mem_of_getElem? (i := 12) rfl)) (fun _ h9 => h9) rfl (by decide +kernel) rfl rfl (Nat.le_of_ble_eq_true rfl) dX3_tellCost_101 (fun H locs hP hD hS => ?_)
      obtain ⟨A3h, eA3h, hsem⟩ := bd_some hsem
      have hP : va_P g.1 vwCl ((wPa g ad A F) ++ (wH g adh A3h F1h)) H := by rw [eA3h]; exact hP
      have hD : va_D Z ((wPa g ad A F) ++ (wH g adh A3h F1h)) := by rw [eA3h]; exact hD
      refine lv_aload_n hx hb dX3_tellCost_104 rfl (lv_at hl 2 rfl) ?_
      refine lv_bipush (v := 10) hx hb dX3_tellCost_105 (by decide) ?_
      refine lv_iload_n hx hb dX3_tellCost_107 rfl (lv_at hl 0 rfl) ?_
      refine lv_iadd hx hb dX3_tellCost_108 ?_
      refine va_put (D := g.1) (ci := 1) (v := .int (10 + x3)) (ty := .int) (C := RX1) (T := TX1) (N := 18) hx hb (dr_words hts d) (fun w h => List.mem_cons_of_mem _ (List.mem_append_left _ (List.mem_append_right _ h))) tyX1 tyX1_ok nmX1 (hown d) (hK d) hP hD hS 4 rfl rfl 17 (by decide) ((dr_words hts d) (.fieldLink RX3 193 "PauseRegions$Heap" "lastCost" "I") (List.mem_of_getElem? (i := 13) rfl)) (fun _ h9 => h9) rfl (by decide +kernel) rfl rfl (Nat.le_of_ble_eq_true rfl) dX3_tellCost_109 (fun H locs hP hD hS => ?_)
      obtain ⟨A4h, eA4h, hsem⟩ := bd_some hsem
      have hP : va_P g.1 vwCl ((wPa g ad A F) ++ (wH g adh A4h F1h)) H := by rw [eA4h]; exact hP
      have hD : va_D Z ((wPa g ad A F) ++ (wH g adh A4h F1h)) := by rw [eA4h]; exact hD
      refine lv_aload_n hx hb dX3_tellCost_112 rfl (lv_at hl 2 rfl) ?_
      refine va_get (D := g.1) (ci := 1) (v := .int (A4h 17 0)) (C := RX1) (T := TX1) (N := 18) hx hb (dr_words hts d) (fun w h => List.mem_cons_of_mem _ (List.mem_append_left _ (List.mem_append_right _ h))) (hown d) (hK d) hP 4 rfl rfl 17 (by decide) ((dr_words hts d) (.fieldLink RX3 193 "PauseRegions$Heap" "lastCost" "I") (List.mem_of_getElem? (i := 13) rfl)) (fun _ h9 => h9) rfl dX3_tellCost_113 ?_
      have eo := (Option.some.inj hsem).symm.symm
      refine W.endD hdr ?_
      subst eo
      exact W.iret (v := (A4h 17 0)) hx hb hr (fun t ht hW => ⟨⟨_, F1h, rfl, ⟨rfl, haF1h⟩, ⟨by rw [ht]; exact hP, hD⟩⟩, hS.F ht⟩) hS.2.2 dX3_tellCost_116
  · rw [if_neg c1] at hsem
    refine lv_aload_n hx hb dX3_tellCost_32 rfl (lv_at hl 2 rfl) ?_
    refine lv_ldcf hx hb (hown d) ((dr_words hts d) (.constantFloat RX3 178 (1061158912)) (List.mem_of_getElem? (i := 5) rfl)) dX3_tellCost_33 ?_
    refine lv_aload_n hx hb dX3_tellCost_35 rfl (lv_at hl 2 rfl) ?_
    refine va_get (D := g.1) (ci := 1) (v := .float (Fh 14 0)) (C := RX1) (T := TX1) (N := 18) hx hb (dr_words hts d) (fun w h => List.mem_cons_of_mem _ (List.mem_append_left _ (List.mem_append_right _ h))) (hown d) (hK d) hP 4 rfl rfl 14 (by decide) ((dr_words hts d) (.fieldLink RX3 179 "PauseRegions$Heap" "rate" "F") (List.mem_of_getElem? (i := 6) rfl)) (fun _ h9 => h9) rfl dX3_tellCost_36 ?_
    refine lv_fmul_any hdr lw_bits hx hb dX3_tellCost_39 (fun y5 d hal hdr => ?_)
    have ay5 := al_fmul hal (al_refl _) (hALh 14 0)
    refine lv_ldcf hx hb (hown d) ((dr_words hts d) (.constantFloat RX3 183 (1048576000)) (List.mem_of_getElem? (i := 7) rfl)) dX3_tellCost_40 ?_
    refine lv_iload_n hx hb dX3_tellCost_42 rfl (lv_at hl 0 rfl) ?_
    refine lv_i2f hx hb dX3_tellCost_43 ?_
    refine lv_aload_n hx hb dX3_tellCost_44 rfl (lv_at hl 1 rfl) ?_
    refine va_get (D := g.1) (ci := 3) (v := .int (A 5 0)) (C := RX3) (T := TX3) (N := 8) hx hb (dr_words hts d) (fun w h => List.mem_cons_of_mem _ (List.mem_append_left _ (List.mem_append_left _ (List.mem_append_right _ h)))) (hown d) (hK d) hP 0 rfl rfl 5 (by decide) ((dr_words hts d) (.fieldLink RX3 71 "PauseRegions$Pause" "foundCells" "I") (List.mem_of_getElem? (i := 4) rfl)) (fun _ h9 => h9) rfl dX3_tellCost_45 ?_
    refine lv_i2f hx hb dX3_tellCost_48 ?_
    refine lv_fdiv_any hdr lw_bits hx hb dX3_tellCost_49 (fun y6 d hal hdr => ?_)
    have ay6 := al_fdiv hal (al_refl _) (al_refl _)
    refine lv_fmul_any hdr lw_bits hx hb dX3_tellCost_50 (fun y7 d hal hdr => ?_)
    have ay7 := al_fmul hal (al_refl _) ay6
    refine lv_fadd_any hdr lw_bits hx hb dX3_tellCost_51 (fun y8 d hal hdr => ?_)
    have ay8 := al_fadd hal ay5 ay7
    refine va_put (D := g.1) (ci := 1) (v := .float y8) (ty := .float) (C := RX1) (T := TX1) (N := 18) hx hb (dr_words hts d) (fun w h => List.mem_cons_of_mem _ (List.mem_append_left _ (List.mem_append_right _ h))) tyX1 tyX1_ok nmX1 (hown d) (hK d) hP hD hS 4 rfl rfl 14 (by decide) ((dr_words hts d) (.fieldLink RX3 179 "PauseRegions$Heap" "rate" "F") (List.mem_of_getElem? (i := 6) rfl)) (fun _ h9 => h9) rfl (by decide +kernel) rfl rfl (Nat.le_of_ble_eq_true rfl) dX3_tellCost_52 (fun H locs hP hD hS => ?_)
    obtain ⟨F2h, eF2h⟩ : ∃ z, z = scF Fh 14 y8 := ⟨_, rfl⟩
    obtain ⟨F2hc, eF2hc, hsem⟩ := bd_some hsem
    have haF2h : AL F2h F2hc := by rw [eF2h, eF2hc]; exact AL.sc hALh ay8
    have hP : va_P g.1 vwCl ((wPa g ad A F) ++ (wH g adh Ah F2h)) H := by rw [eF2h]; exact hP
    have hD : va_D Z ((wPa g ad A F) ++ (wH g adh Ah F2h)) := by rw [eF2h]; exact hD
    refine lv_aload_n hx hb dX3_tellCost_55 rfl (lv_at hl 1 rfl) ?_
    refine va_get (D := g.1) (ci := 3) (v := .ref (ad 1)) (C := RX3) (T := TX3) (N := 8) hx hb (dr_words hts d) (fun w h => List.mem_cons_of_mem _ (List.mem_append_left _ (List.mem_append_left _ (List.mem_append_right _ h)))) (hown d) (hK d) hP 0 rfl rfl 0 (by decide) ((dr_words hts d) (.fieldLink RX3 12 "PauseRegions$Pause" "choice" "LPauseRegions$Choice;") (List.mem_of_getElem? (i := 8) rfl)) (fun _ h9 => h9) rfl dX3_tellCost_56 ?_
    refine va_get (D := g.1) (ci := 0) (v := .int (A 11 0)) (C := RX0) (T := TX0) (N := 3) hx hb (dr_words hts d) (fun w h => List.mem_cons_of_mem _ (List.mem_append_right _ h)) (hown d) (hK d) hP 1 rfl rfl 1 (by decide) ((dr_words hts d) (.fieldLink RX3 184 "PauseRegions$Choice" "youngCells" "I") (List.mem_of_getElem? (i := 9) rfl)) (fun _ h9 => h9) rfl dX3_tellCost_59 ?_
    refine lv_if_le (tgt := 94) hx hb dX3_tellCost_62 (by decide) (fun c3 => ?_) (fun c3 => ?_)
    · rw [if_pos c3] at hsem
      refine lv_aload_n hx hb dX3_tellCost_94 rfl (lv_at hl 2 rfl) ?_
      refine lv_dup hx hb dX3_tellCost_95 rfl ?_
      refine va_get (D := g.1) (ci := 1) (v := .int (Ah 16 0)) (C := RX1) (T := TX1) (N := 18) hx hb (dr_words hts d) (fun w h => List.mem_cons_of_mem _ (List.mem_append_left _ (List.mem_append_right _ h))) (hown d) (hK d) hP 4 rfl rfl 16 (by decide) ((dr_words hts d) (.fieldLink RX3 190 "PauseRegions$Heap" "pauseCount" "I") (List.mem_of_getElem? (i := 12) rfl)) (fun _ h9 => h9) rfl dX3_tellCost_96 ?_
      refine lv_iconst (v := 1) hx hb dX3_tellCost_99 (by decide) ?_
      refine lv_iadd hx hb dX3_tellCost_100 ?_
      refine va_put (D := g.1) (ci := 1) (v := .int ((Ah 16 0) + 1)) (ty := .int) (C := RX1) (T := TX1) (N := 18) hx hb (dr_words hts d) (fun w h => List.mem_cons_of_mem _ (List.mem_append_left _ (List.mem_append_right _ h))) tyX1 tyX1_ok nmX1 (hown d) (hK d) hP hD hS 4 rfl rfl 16 (by decide) ((dr_words hts d) (.fieldLink RX3 190 "PauseRegions$Heap" "pauseCount" "I") (List.mem_of_getElem? (i := 12) rfl)) (fun _ h9 => h9) rfl (by decide +kernel) rfl rfl (Nat.le_of_ble_eq_true rfl) dX3_tellCost_101 (fun H locs hP hD hS => ?_)
      obtain ⟨A5h, eA5h, hsem⟩ := bd_some hsem
      have hP : va_P g.1 vwCl ((wPa g ad A F) ++ (wH g adh A5h F2h)) H := by rw [eA5h]; exact hP
      have hD : va_D Z ((wPa g ad A F) ++ (wH g adh A5h F2h)) := by rw [eA5h]; exact hD
      refine lv_aload_n hx hb dX3_tellCost_104 rfl (lv_at hl 2 rfl) ?_
      refine lv_bipush (v := 10) hx hb dX3_tellCost_105 (by decide) ?_
      refine lv_iload_n hx hb dX3_tellCost_107 rfl (lv_at hl 0 rfl) ?_
      refine lv_iadd hx hb dX3_tellCost_108 ?_
      refine va_put (D := g.1) (ci := 1) (v := .int (10 + x3)) (ty := .int) (C := RX1) (T := TX1) (N := 18) hx hb (dr_words hts d) (fun w h => List.mem_cons_of_mem _ (List.mem_append_left _ (List.mem_append_right _ h))) tyX1 tyX1_ok nmX1 (hown d) (hK d) hP hD hS 4 rfl rfl 17 (by decide) ((dr_words hts d) (.fieldLink RX3 193 "PauseRegions$Heap" "lastCost" "I") (List.mem_of_getElem? (i := 13) rfl)) (fun _ h9 => h9) rfl (by decide +kernel) rfl rfl (Nat.le_of_ble_eq_true rfl) dX3_tellCost_109 (fun H locs hP hD hS => ?_)
      obtain ⟨A6h, eA6h, hsem⟩ := bd_some hsem
      have hP : va_P g.1 vwCl ((wPa g ad A F) ++ (wH g adh A6h F2h)) H := by rw [eA6h]; exact hP
      have hD : va_D Z ((wPa g ad A F) ++ (wH g adh A6h F2h)) := by rw [eA6h]; exact hD
      refine lv_aload_n hx hb dX3_tellCost_112 rfl (lv_at hl 2 rfl) ?_
      refine va_get (D := g.1) (ci := 1) (v := .int (A6h 17 0)) (C := RX1) (T := TX1) (N := 18) hx hb (dr_words hts d) (fun w h => List.mem_cons_of_mem _ (List.mem_append_left _ (List.mem_append_right _ h))) (hown d) (hK d) hP 4 rfl rfl 17 (by decide) ((dr_words hts d) (.fieldLink RX3 193 "PauseRegions$Heap" "lastCost" "I") (List.mem_of_getElem? (i := 13) rfl)) (fun _ h9 => h9) rfl dX3_tellCost_113 ?_
      have eo := (Option.some.inj hsem).symm.symm
      refine W.endD hdr ?_
      subst eo
      exact W.iret (v := (A6h 17 0)) hx hb hr (fun t ht hW => ⟨⟨_, F2h, rfl, ⟨rfl, haF2h⟩, ⟨by rw [ht]; exact hP, hD⟩⟩, hS.F ht⟩) hS.2.2 dX3_tellCost_116
    · rw [if_neg c3] at hsem
      refine lv_aload_n hx hb dX3_tellCost_65 rfl (lv_at hl 2 rfl) ?_
      refine lv_ldcf hx hb (hown d) ((dr_words hts d) (.constantFloat RX3 178 (1061158912)) (List.mem_of_getElem? (i := 5) rfl)) dX3_tellCost_66 ?_
      refine lv_aload_n hx hb dX3_tellCost_68 rfl (lv_at hl 2 rfl) ?_
      refine va_get (D := g.1) (ci := 1) (v := .float (F2h 15 0)) (C := RX1) (T := TX1) (N := 18) hx hb (dr_words hts d) (fun w h => List.mem_cons_of_mem _ (List.mem_append_left _ (List.mem_append_right _ h))) (hown d) (hK d) hP 4 rfl rfl 15 (by decide) ((dr_words hts d) (.fieldLink RX3 187 "PauseRegions$Heap" "yielded" "F") (List.mem_of_getElem? (i := 10) rfl)) (fun _ h9 => h9) rfl dX3_tellCost_69 ?_
      refine lv_fmul_any hdr lw_bits hx hb dX3_tellCost_72 (fun y9 d hal hdr => ?_)
      have ay9 := al_fmul hal (al_refl _) (haF2h 15 0)
      refine lv_ldcf hx hb (hown d) ((dr_words hts d) (.constantFloat RX3 183 (1048576000)) (List.mem_of_getElem? (i := 7) rfl)) dX3_tellCost_73 ?_
      refine lv_aload_n hx hb dX3_tellCost_75 rfl (lv_at hl 1 rfl) ?_
      refine va_get (D := g.1) (ci := 3) (v := .int (A 6 0)) (C := RX3) (T := TX3) (N := 8) hx hb (dr_words hts d) (fun w h => List.mem_cons_of_mem _ (List.mem_append_left _ (List.mem_append_left _ (List.mem_append_right _ h)))) (hown d) (hK d) hP 0 rfl rfl 6 (by decide) ((dr_words hts d) (.fieldLink RX3 74 "PauseRegions$Pause" "foundYoungCells" "I") (List.mem_of_getElem? (i := 11) rfl)) (fun _ h9 => h9) rfl dX3_tellCost_76 ?_
      refine lv_i2f hx hb dX3_tellCost_79 ?_
      refine lv_aload_n hx hb dX3_tellCost_80 rfl (lv_at hl 1 rfl) ?_
      refine va_get (D := g.1) (ci := 3) (v := .ref (ad 1)) (C := RX3) (T := TX3) (N := 8) hx hb (dr_words hts d) (fun w h => List.mem_cons_of_mem _ (List.mem_append_left _ (List.mem_append_left _ (List.mem_append_right _ h)))) (hown d) (hK d) hP 0 rfl rfl 0 (by decide) ((dr_words hts d) (.fieldLink RX3 12 "PauseRegions$Pause" "choice" "LPauseRegions$Choice;") (List.mem_of_getElem? (i := 8) rfl)) (fun _ h9 => h9) rfl dX3_tellCost_81 ?_
      refine va_get (D := g.1) (ci := 0) (v := .int (A 11 0)) (C := RX0) (T := TX0) (N := 3) hx hb (dr_words hts d) (fun w h => List.mem_cons_of_mem _ (List.mem_append_right _ h)) (hown d) (hK d) hP 1 rfl rfl 1 (by decide) ((dr_words hts d) (.fieldLink RX3 184 "PauseRegions$Choice" "youngCells" "I") (List.mem_of_getElem? (i := 9) rfl)) (fun _ h9 => h9) rfl dX3_tellCost_84 ?_
      refine lv_i2f hx hb dX3_tellCost_87 ?_
      refine lv_fdiv_any hdr lw_bits hx hb dX3_tellCost_88 (fun y10 d hal hdr => ?_)
      have ay10 := al_fdiv hal (al_refl _) (al_refl _)
      refine lv_fmul_any hdr lw_bits hx hb dX3_tellCost_89 (fun y11 d hal hdr => ?_)
      have ay11 := al_fmul hal (al_refl _) ay10
      refine lv_fadd_any hdr lw_bits hx hb dX3_tellCost_90 (fun y12 d hal hdr => ?_)
      have ay12 := al_fadd hal ay9 ay11
      refine va_put (D := g.1) (ci := 1) (v := .float y12) (ty := .float) (C := RX1) (T := TX1) (N := 18) hx hb (dr_words hts d) (fun w h => List.mem_cons_of_mem _ (List.mem_append_left _ (List.mem_append_right _ h))) tyX1 tyX1_ok nmX1 (hown d) (hK d) hP hD hS 4 rfl rfl 15 (by decide) ((dr_words hts d) (.fieldLink RX3 187 "PauseRegions$Heap" "yielded" "F") (List.mem_of_getElem? (i := 10) rfl)) (fun _ h9 => h9) rfl (by decide +kernel) rfl rfl (Nat.le_of_ble_eq_true rfl) dX3_tellCost_91 (fun H locs hP hD hS => ?_)
      obtain ⟨F3h, eF3h⟩ : ∃ z, z = scF F2h 15 y12 := ⟨_, rfl⟩
      obtain ⟨F3hc, eF3hc, hsem⟩ := bd_some hsem
      have haF3h : AL F3h F3hc := by rw [eF3h, eF3hc]; exact AL.sc haF2h ay12
      have hP : va_P g.1 vwCl ((wPa g ad A F) ++ (wH g adh Ah F3h)) H := by rw [eF3h]; exact hP
      have hD : va_D Z ((wPa g ad A F) ++ (wH g adh Ah F3h)) := by rw [eF3h]; exact hD
      refine lv_aload_n hx hb dX3_tellCost_94 rfl (lv_at hl 2 rfl) ?_
      refine lv_dup hx hb dX3_tellCost_95 rfl ?_
      refine va_get (D := g.1) (ci := 1) (v := .int (Ah 16 0)) (C := RX1) (T := TX1) (N := 18) hx hb (dr_words hts d) (fun w h => List.mem_cons_of_mem _ (List.mem_append_left _ (List.mem_append_right _ h))) (hown d) (hK d) hP 4 rfl rfl 16 (by decide) ((dr_words hts d) (.fieldLink RX3 190 "PauseRegions$Heap" "pauseCount" "I") (List.mem_of_getElem? (i := 12) rfl)) (fun _ h9 => h9) rfl dX3_tellCost_96 ?_
      refine lv_iconst (v := 1) hx hb dX3_tellCost_99 (by decide) ?_
      refine lv_iadd hx hb dX3_tellCost_100 ?_
      refine va_put (D := g.1) (ci := 1) (v := .int ((Ah 16 0) + 1)) (ty := .int) (C := RX1) (T := TX1) (N := 18) hx hb (dr_words hts d) (fun w h => List.mem_cons_of_mem _ (List.mem_append_left _ (List.mem_append_right _ h))) tyX1 tyX1_ok nmX1 (hown d) (hK d) hP hD hS 4 rfl rfl 16 (by decide) ((dr_words hts d) (.fieldLink RX3 190 "PauseRegions$Heap" "pauseCount" "I") (List.mem_of_getElem? (i := 12) rfl)) (fun _ h9 => h9) rfl (by decide +kernel) rfl rfl (Nat.le_of_ble_eq_true rfl) dX3_tellCost_101 (fun H locs hP hD hS => ?_)
      obtain ⟨A7h, eA7h, hsem⟩ := bd_some hsem
      have hP : va_P g.1 vwCl ((wPa g ad A F) ++ (wH g adh A7h F3h)) H := by rw [eA7h]; exact hP
      have hD : va_D Z ((wPa g ad A F) ++ (wH g adh A7h F3h)) := by rw [eA7h]; exact hD
      refine lv_aload_n hx hb dX3_tellCost_104 rfl (lv_at hl 2 rfl) ?_
      refine lv_bipush (v := 10) hx hb dX3_tellCost_105 (by decide) ?_
      refine lv_iload_n hx hb dX3_tellCost_107 rfl (lv_at hl 0 rfl) ?_
      refine lv_iadd hx hb dX3_tellCost_108 ?_
      refine va_put (D := g.1) (ci := 1) (v := .int (10 + x3)) (ty := .int) (C := RX1) (T := TX1) (N := 18) hx hb (dr_words hts d) (fun w h => List.mem_cons_of_mem _ (List.mem_append_left _ (List.mem_append_right _ h))) tyX1 tyX1_ok nmX1 (hown d) (hK d) hP hD hS 4 rfl rfl 17 (by decide) ((dr_words hts d) (.fieldLink RX3 193 "PauseRegions$Heap" "lastCost" "I") (List.mem_of_getElem? (i := 13) rfl)) (fun _ h9 => h9) rfl (by decide +kernel) rfl rfl (Nat.le_of_ble_eq_true rfl) dX3_tellCost_109 (fun H locs hP hD hS => ?_)
      obtain ⟨A8h, eA8h, hsem⟩ := bd_some hsem
      have hP : va_P g.1 vwCl ((wPa g ad A F) ++ (wH g adh A8h F3h)) H := by rw [eA8h]; exact hP
      have hD : va_D Z ((wPa g ad A F) ++ (wH g adh A8h F3h)) := by rw [eA8h]; exact hD
      refine lv_aload_n hx hb dX3_tellCost_112 rfl (lv_at hl 2 rfl) ?_
      refine va_get (D := g.1) (ci := 1) (v := .int (A8h 17 0)) (C := RX1) (T := TX1) (N := 18) hx hb (dr_words hts d) (fun w h => List.mem_cons_of_mem _ (List.mem_append_left _ (List.mem_append_right _ h))) (hown d) (hK d) hP 4 rfl rfl 17 (by decide) ((dr_words hts d) (.fieldLink RX3 193 "PauseRegions$Heap" "lastCost" "I") (List.mem_of_getElem? (i := 13) rfl)) (fun _ h9 => h9) rfl dX3_tellCost_113 ?_
      have eo := (Option.some.inj hsem).symm.symm
      refine W.endD hdr ?_
      subst eo
      exact W.iret (v := (A8h 17 0)) hx hb hr (fun t ht hW => ⟨⟨_, F3h, rfl, ⟨rfl, haF3h⟩, ⟨by rw [ht]; exact hP, hD⟩⟩, hS.F ht⟩) hS.2.2 dX3_tellCost_116
def sX3_run (A : IA) (Fc : FA) (Ah : IA) (Fhc : FA) (p1 : Int32) : Option (Int32 × IA × IA × FA × FA) :=
  (sX3_forgetLast A).bind fun z1 => (sX1_refineOldest Ah 20).bind fun z2 => (sX0_choose (z1 10 0) (z1 11 0) (Fc 12 0) z2.2 Fhc p1).bind fun z3 => bd (scF Fc 12 z3.2.2) fun F1c => bd (sc (sc z1 10 z3.1) 11 z3.2.1) fun A1 => (sX3_findFirst A1 z2.2).bind fun z4 => (sX3_scanCards z4 z2.2).bind fun z5 => (sX3_moveFound z5 z2.2).bind fun z6 => (sX3_dirtyMoved z6.1 z6.2).bind fun z7 => (sX3_sweepChosen z6.1 z7).bind fun z8 => (sX3_tellCost z6.1 F1c z8 Fhc).bind fun z9 => some (z9.1, z6.1, z9.2.1, F1c, z9.2.2)
abbrev rmX3_run : Room := { frames := 5, cells := 0, slots := 0, locals := 113 }
theorem hdX3_run : yX3_run.cls = RX3 ∧ yX3_run.cls ≠ "java/lang/invoke/MethodHandle" ∧ yX3_run.cls ≠ "java/lang/invoke/VarHandle" ∧ (parseMethodDescriptor yX3_run.desc).map (fun d => d.parameters.length) = some 2 := by decide +kernel
set_option maxHeartbeats 4000000 in
set_option maxRecDepth 100000 in
theorem kX3_run {l : Launch} {g : GG} {sz : Nat} {ad : Nat → Nat} {A : IA} {F : FA} {adh : Nat → Nat} {Ah : IA} {Fh : FA} {p1 : Int32} {Fc : FA} (hAL : AL F Fc) {Fhc : FA} (hALh : AL Fh Fhc) {b : Int32 × IA × IA × FA × FA} (hsem : sX3_run A Fc Ah Fhc p1 = some b) : MetDI l yX3_run wsX3_run rmX3_run g [.ref (ad 0), .ref (adh 0), .int p1] ((wPa g ad A F) ++ (wH g adh Ah Fh)) sz b.1 (φ := FA × FA) (fun u => AL u.1 b.2.2.2.1 ∧ AL u.2 b.2.2.2.2) (fun u => (wPa g ad b.2.1 u.1) ++ (wH g adh b.2.2.1 u.2)) := by
  refine MetD.ofW (cc := cX3_run) (maxL := 3) (ret := (some .int)) (by decide) rfl ?_
  intro p e s m args below meth c s₁ B hml hv hdr
  obtain ⟨rfl, hsz, hP, hD0, hKK⟩ := hv
  subst hsz
  have hx := B.exec
  have hb := B.bytes
  have hr := B.returns
  have hts := atoms_spec (ws := wsX3_run) B.pre
  have hown : ∀ d, (s.setDrawn d).vm.findClass RX3 = some m.cls := fun _ => findClass_of_methodNamed B.named
  have hlocks := B.notSynchronized
  have hK : ∀ d, va_K g.1 vwCl (KT g) (s.setDrawn d) := fun d => (hKK.drawn d).1
  have hD := hD0.self (sz := s.heap.size)
  generalize hZe : va_A ((wPa g ad A F) ++ (wH g adh Ah Fh)) s.heap.size = Z at hD ⊢
  have hZ : ∀ q : Nat, s.heap.size ≤ q → Z q := fun q h => by rw [← hZe]; exact Or.inr h
  have hS : va_S Z s.heap s.heap [] := va_S.rf
  have hP : va_P g.1 vwCl ((wPa g ad A F) ++ (wH g adh Ah Fh)) s.heap := hP
  have hD : va_D Z ((wPa g ad A F) ++ (wH g adh Ah Fh)) := hD
  obtain ⟨d, hdr, hdd⟩ : ∃ d, s.drawn.sameBut d lw_cs ∧ s.drawn = d := ⟨_, hdr, rfl⟩
  rw [hdd]
  have hl := lv_entry ([.ref (ad 0), .ref (adh 0), .int p1]) (n := 3) (Nat.le_of_ble_eq_true rfl)
  rw [lg_entry_eq]
  generalize (lg_sl ([.ref (ad 0), .ref (adh 0), .int p1]) ++ List.replicate (3 - (lg_sl ([.ref (ad 0), .ref (adh 0), .int p1])).length) Slot.unset).toArray = ls at hl ⊢
  have hl : lv_has ls 3 [(0, .ref (ad 0)), (1, .ref (adh 0)), (2, .int p1)] := hl
  unfold sX3_run at hsem
  refine lv_aload_n hx hb dX3_run_0 rfl (lv_at hl 0 rfl) ?_
  obtain ⟨z1, hc1, hsem⟩ := bn_some hsem
  refine mcVs (C := RX3) (As := []) (rest := []) (wr := (wH g adh Ah Fh)) ⟨hx, hb, hml, (hown d), (dr_words hts d)⟩ (hKK.drawn d) hP hD hS hZ [0, 1, 2, 3] [4, 5, 6, 7, 8, 9, 10, 11, 12, 13, 14, 15, 16, 17, 18] rfl rfl (by decide) (by decide) (by decide) (cwV 0 (dr_words hts d) gX3_run_X3_forgetLast rfl rfl rfl hdX3_forgetLast ⟨Nat.le_of_ble_eq_true rfl, Nat.le_of_ble_eq_true rfl⟩) (kX3_forgetLast (l := l) (g := g) (ad := ad) (A := A) (F := F) hc1) (va_recv (hK d) hP (ci := 3) (q0 := 0) rfl rfl) rfl hl.1 rfl (Nat.le_of_ble_eq_true rfl) dX3_run_1 ⟨Nat.zero_le _, Nat.zero_le _⟩ (fun H locs hP hD hS => ?_)
  have hP : va_P g.1 vwCl ((wPa g ad z1 F) ++ (wH g adh Ah Fh)) H := hP.sub [15, 16, 17, 18, 0, 1, 2, 3, 4, 5, 6, 7, 8, 9, 10, 11, 12, 13, 14] rfl
  have hD : va_D Z ((wPa g ad z1 F) ++ (wH g adh Ah Fh)) := hD.sub [15, 16, 17, 18, 0, 1, 2, 3, 4, 5, 6, 7, 8, 9, 10, 11, 12, 13, 14] (by decide) rfl
  refine lv_aload_n hx hb dX3_run_4 rfl (lv_at hl 1 rfl) ?_
  refine lv_bipush (v := 20) hx hb dX3_run_5 (by decide) ?_
  obtain ⟨z2, hc2, hsem⟩ := bn_some hsem
  refine mcIs (C := RX1) (As := [.int 20]) (rest := []) (wr := (wPa g ad z1 F)) ⟨hx, hb, hml, (hown d), (dr_words hts d)⟩ (hKK.drawn d) hP hD hS hZ [4, 5, 6, 7, 8, 9, 10, 11, 12, 13, 14, 15, 16, 17, 18] [0, 1, 2, 3] rfl rfl (by decide) (by decide) (by decide) (cwV 1 (dr_words hts d) gX3_run_X1_refineOldest rfl rfl rfl hdX1_refineOldest ⟨Nat.le_of_ble_eq_true rfl, Nat.le_of_ble_eq_true rfl⟩) (kX1_refineOldest (l := l) (g := g) (ad := adh) (A := Ah) (F := Fh) hc2) (va_recv (hK d) hP (ci := 1) (q0 := 4) rfl rfl) rfl hl.1 rfl (Nat.le_of_ble_eq_true rfl) dX3_run_7 ⟨Nat.zero_le _, Nat.zero_le _⟩ (fun H locs hP hD hS => ?_)
  have hP : va_P g.1 vwCl ((wPa g ad z1 F) ++ (wH g adh z2.2 Fh)) H := hP.sub [0, 1, 2, 3, 4, 5, 6, 7, 8, 9, 10, 11, 12, 13, 14, 15, 16, 17, 18] rfl
  have hD : va_D Z ((wPa g ad z1 F) ++ (wH g adh z2.2 Fh)) := hD.sub [0, 1, 2, 3, 4, 5, 6, 7, 8, 9, 10, 11, 12, 13, 14, 15, 16, 17, 18] (by decide) rfl
  refine lv_pop hx hb dX3_run_10 rfl ?_
  refine lv_aload_n hx hb dX3_run_11 rfl (lv_at hl 0 rfl) ?_
  refine va_get (D := g.1) (ci := 3) (v := .ref (ad 1)) (C := RX3) (T := TX3) (N := 8) hx hb (dr_words hts d) (fun w h => List.mem_cons_of_mem _ (List.mem_append_left _ (List.mem_append_left _ (List.mem_append_left _ (List.mem_append_right _ h))))) (hown d) (hK d) hP 0 rfl rfl 0 (by decide) ((dr_words hts d) (.fieldLink RX3 12 "PauseRegions$Pause" "choice" "LPauseRegions$Choice;") (List.mem_of_getElem? (i := 1) rfl)) (fun _ h9 => h9) rfl dX3_run_12 ?_
  refine lv_aload_n hx hb dX3_run_15 rfl (lv_at hl 1 rfl) ?_
  refine lv_iload_n hx hb dX3_run_16 rfl (lv_at hl 2 rfl) ?_
  obtain ⟨z3, hc3, hsem⟩ := bn_some hsem
  refine dcVs (C := RX0) (As := [.ref (adh 0), .int p1]) (rest := []) (wr := (wPa_1 g ad z1 F)) hdr ⟨hx, hb, hml, (hown d), (dr_words hts d)⟩ (hKK.drawn d) hP hD hS hZ [1, 4, 5, 6, 7, 8, 9, 10, 11, 12, 13, 14, 15, 16, 17, 18] [0, 2, 3] rfl rfl (by decide) (by decide) (by decide) (cwV 2 (dr_words hts d) gX3_run_X0_choose rfl rfl rfl hdX0_choose ⟨Nat.le_of_ble_eq_true rfl, Nat.le_of_ble_eq_true rfl⟩) (kX0_choose (l := l) (g := g) (a0 := (ad 1)) (rg := (z1 10 0)) (yc := (z1 11 0)) (adh := adh) (Ah := z2.2) (fc := F 12 0) (fcc := Fc 12 0) (Fh := Fh) (Fhc := Fhc) (hAL 12 0) hALh hc3) (va_recv (hK d) hP (ci := 0) (q0 := 1) rfl rfl) rfl hl.1 rfl (Nat.le_of_ble_eq_true rfl) dX3_run_17 ⟨Nat.zero_le _, Nat.zero_le _⟩ (fun u1 H locs d hpo hP hD hS hdr => ?_)
  obtain ⟨F1, eF1⟩ : ∃ z, z = scF F 12 u1 := ⟨_, rfl⟩
  obtain ⟨F1c, eF1c, hsem⟩ := bd_some hsem
  have haF1 : AL F1 F1c := by rw [eF1, eF1c]; exact AL.sc hAL hpo
  obtain ⟨A1, eA1, hsem⟩ := bd_some hsem
  have hP : va_P g.1 vwCl ((wPa g ad A1 F1) ++ (wH g adh z2.2 Fh)) H := by rw [eF1, eA1]; exact hP.sub [0, 3, 1, 2, 4, 5, 6, 7, 8, 9, 10, 11, 12, 13, 14, 15, 16, 17, 18] rfl
  have hD : va_D Z ((wPa g ad A1 F1) ++ (wH g adh z2.2 Fh)) := by rw [eF1, eA1]; exact hD.sub [0, 3, 1, 2, 4, 5, 6, 7, 8, 9, 10, 11, 12, 13, 14, 15, 16, 17, 18] (by decide) rfl
  refine lv_aload_n hx hb dX3_run_20 rfl (lv_at hl 0 rfl) ?_
  refine lv_aload_n hx hb dX3_run_21 rfl (lv_at hl 1 rfl) ?_
  obtain ⟨z4, hc4, hsem⟩ := bn_some hsem
  refine mcV (C := RX3) (As := [.ref (adh 0)]) (rest := []) ⟨hx, hb, hml, (hown d), (dr_words hts d)⟩ (hKK.drawn d) hP hD hS hZ (cwV 1 (dr_words hts d) gX3_run_X3_findFirst rfl rfl rfl hdX3_findFirst ⟨Nat.le_of_ble_eq_true rfl, Nat.le_of_ble_eq_true rfl⟩) (kX3_findFirst (l := l) (g := g) (ad := ad) (A := A1) (F := F1) (adh := adh) (Ah := z2.2) (Fh := Fh) hc4) (va_recv (hK d) hP (ci := 3) (q0 := 0) rfl rfl) rfl hl.1 rfl (Nat.le_of_ble_eq_true rfl) dX3_run_22 ⟨Nat.zero_le _, Nat.zero_le _⟩ (fun H locs hP hD hS => ?_)
  have hP : va_P g.1 vwCl ((wPa g ad z4 F1) ++ (wH g adh z2.2 Fh)) H := hP
  have hD : va_D Z ((wPa g ad z4 F1) ++ (wH g adh z2.2 Fh)) := hD
  refine lv_aload_n hx hb dX3_run_25 rfl (lv_at hl 0 rfl) ?_
  refine lv_aload_n hx hb dX3_run_26 rfl (lv_at hl 1 rfl) ?_
  obtain ⟨z5, hc5, hsem⟩ := bn_some hsem
  refine mcV (C := RX3) (As := [.ref (adh 0)]) (rest := []) ⟨hx, hb, hml, (hown d), (dr_words hts d)⟩ (hKK.drawn d) hP hD hS hZ (cwV 1 (dr_words hts d) gX3_run_X3_scanCards rfl rfl rfl hdX3_scanCards ⟨Nat.le_of_ble_eq_true rfl, Nat.le_of_ble_eq_true rfl⟩) (kX3_scanCards (l := l) (g := g) (ad := ad) (A := z4) (F := F1) (adh := adh) (Ah := z2.2) (Fh := Fh) hc5) (va_recv (hK d) hP (ci := 3) (q0 := 0) rfl rfl) rfl hl.1 rfl (Nat.le_of_ble_eq_true rfl) dX3_run_27 ⟨Nat.zero_le _, Nat.zero_le _⟩ (fun H locs hP hD hS => ?_)
  have hP : va_P g.1 vwCl ((wPa g ad z5 F1) ++ (wH g adh z2.2 Fh)) H := hP
  have hD : va_D Z ((wPa g ad z5 F1) ++ (wH g adh z2.2 Fh)) := hD
  refine lv_aload_n hx hb dX3_run_30 rfl (lv_at hl 0 rfl) ?_
  refine lv_aload_n hx hb dX3_run_31 rfl (lv_at hl 1 rfl) ?_
  obtain ⟨z6, hc6, hsem⟩ := bn_some hsem
  refine mcV (C := RX3) (As := [.ref (adh 0)]) (rest := []) ⟨hx, hb, hml, (hown d), (dr_words hts d)⟩ (hKK.drawn d) hP hD hS hZ (cwV 1 (dr_words hts d) gX3_run_X3_moveFound rfl rfl rfl hdX3_moveFound ⟨Nat.le_of_ble_eq_true rfl, Nat.le_of_ble_eq_true rfl⟩) (kX3_moveFound (l := l) (g := g) (ad := ad) (A := z5) (F := F1) (adh := adh) (Ah := z2.2) (Fh := Fh) hc6) (va_recv (hK d) hP (ci := 3) (q0 := 0) rfl rfl) rfl hl.1 rfl (Nat.le_of_ble_eq_true rfl) dX3_run_32 ⟨Nat.zero_le _, Nat.zero_le _⟩ (fun H locs hP hD hS => ?_)
  have hP : va_P g.1 vwCl ((wPa g ad z6.1 F1) ++ (wH g adh z6.2 Fh)) H := hP
  have hD : va_D Z ((wPa g ad z6.1 F1) ++ (wH g adh z6.2 Fh)) := hD
  refine lv_aload_n hx hb dX3_run_35 rfl (lv_at hl 0 rfl) ?_
  refine lv_aload_n hx hb dX3_run_36 rfl (lv_at hl 1 rfl) ?_
  obtain ⟨z7, hc7, hsem⟩ := bn_some hsem
  refine mcV (C := RX3) (As := [.ref (adh 0)]) (rest := []) ⟨hx, hb, hml, (hown d), (dr_words hts d)⟩ (hKK.drawn d) hP hD hS hZ (cwV 1 (dr_words hts d) gX3_run_X3_dirtyMoved rfl rfl rfl hdX3_dirtyMoved ⟨Nat.le_of_ble_eq_true rfl, Nat.le_of_ble_eq_true rfl⟩) (kX3_dirtyMoved (l := l) (g := g) (ad := ad) (A := z6.1) (F := F1) (adh := adh) (Ah := z6.2) (Fh := Fh) hc7) (va_recv (hK d) hP (ci := 3) (q0 := 0) rfl rfl) rfl hl.1 rfl (Nat.le_of_ble_eq_true rfl) dX3_run_37 ⟨Nat.zero_le _, Nat.zero_le _⟩ (fun H locs hP hD hS => ?_)
  have hP : va_P g.1 vwCl ((wPa g ad z6.1 F1) ++ (wH g adh z7 Fh)) H := hP
  have hD : va_D Z ((wPa g ad z6.1 F1) ++ (wH g adh z7 Fh)) := hD
  refine lv_aload_n hx hb dX3_run_40 rfl (lv_at hl 0 rfl) ?_
  refine lv_aload_n hx hb dX3_run_41 rfl (lv_at hl 1 rfl) ?_
  obtain ⟨z8, hc8, hsem⟩ := bn_some hsem
  refine mcV (C := RX3) (As := [.ref (adh 0)]) (rest := []) ⟨hx, hb, hml, (hown d), (dr_words hts d)⟩ (hKK.drawn d) hP hD hS hZ (cwV 1 (dr_words hts d) gX3_run_X3_sweepChosen rfl rfl rfl hdX3_sweepChosen ⟨Nat.le_of_ble_eq_true rfl, Nat.le_of_ble_eq_true rfl⟩) (kX3_sweepChosen (l := l) (g := g) (ad := ad) (A := z6.1) (F := F1) (adh := adh) (Ah := z7) (Fh := Fh) hc8) (va_recv (hK d) hP (ci := 3) (q0 := 0) rfl rfl) rfl hl.1 rfl (Nat.le_of_ble_eq_true rfl) dX3_run_42 ⟨Nat.zero_le _, Nat.zero_le _⟩ (fun H locs hP hD hS => ?_)
  have hP : va_P g.1 vwCl ((wPa g ad z6.1 F1) ++ (wH g adh z8 Fh)) H := hP
  have hD : va_D Z ((wPa g ad z6.1 F1) ++ (wH g adh z8 Fh)) := hD
  refine lv_aload_n hx hb dX3_run_45 rfl (lv_at hl 0 rfl) ?_
  refine lv_aload_n hx hb dX3_run_46 rfl (lv_at hl 1 rfl) ?_
  obtain ⟨z9, hc9, hsem⟩ := bn_some hsem
  refine dcI (C := RX3) (As := [.ref (adh 0)]) (rest := []) hdr ⟨hx, hb, hml, (hown d), (dr_words hts d)⟩ (hKK.drawn d) hP hD hS hZ (cwV 1 (dr_words hts d) gX3_run_X3_tellCost rfl rfl rfl hdX3_tellCost ⟨Nat.le_of_ble_eq_true rfl, Nat.le_of_ble_eq_true rfl⟩) (kX3_tellCost (l := l) (g := g) (ad := ad) (A := z6.1) (adh := adh) (Ah := z8) (F := F1) (Fc := F1c) (Fh := Fh) (Fhc := Fhc) haF1 hALh hc9) (va_recv (hK d) hP (ci := 3) (q0 := 0) rfl rfl) rfl hl.1 rfl (Nat.le_of_ble_eq_true rfl) dX3_run_47 ⟨Nat.zero_le _, Nat.zero_le _⟩ (fun u2 H locs d hpo hP hD hS hdr => ?_)
  have hq1 := hpo
  have hP : va_P g.1 vwCl ((wPa g ad z6.1 F1) ++ (wH g adh z9.2.1 u2)) H := hP
  have hD : va_D Z ((wPa g ad z6.1 F1) ++ (wH g adh z9.2.1 u2)) := hD
  have eo := (Option.some.inj hsem).symm.symm
  refine W.endD hdr ?_
  subst eo
  exact W.iret (v := z9.1) hx hb hr (fun t ht hW => ⟨⟨_, (F1, u2), rfl, ⟨rfl, haF1, hq1⟩, ⟨by rw [ht]; exact hP, hD⟩⟩, hS.F ht⟩) hS.2.2 dX3_run_50
