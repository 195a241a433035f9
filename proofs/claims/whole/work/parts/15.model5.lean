def sX7_region_L33 (p0 : Int32) (A1 : IA) (q1 : Int32 × Int32) : Option ((Int32 × Int32) ⊕ (Int32)) :=
  if 32 ≤ q1.2 then (some (.inr q1.1)) else ((sX7_isThing A1 q1.2).bind fun x6 => if x6 = 0 then (bd (q1.1 + 0) fun x7 => some (.inl (x7, q1.2 + 1))) else ((sX7_ofThing A1 q1.2 1).bind fun x8 => if x8 = p0 then (bd (q1.1 + 1) fun x10 => some (.inl (x10, q1.2 + 1))) else (bd (q1.1 + 0) fun x9 => some (.inl (x9, q1.2 + 1)))))
def sX7_region (A : IA) (p0 : Int32) (p1 : Int32) : Option (Int32 × IA) :=
  bd (sc A 0 0) fun A1 => (sX7_isRegion p0).bind fun x1 => if x1 = 0 then (some (((-1), A1))) else ((sX7_in p1 0 4).bind fun x2 => if x2 = 0 then (some (((-1), A1))) else (if p1 = 3 then ((loopN (sX7_region_L33 p0 A1) 2000 (0, 0)).bind fun q2 => some (q2, A1)) else (if p1 = 4 then ((sX7_ofRegion A1 p0 3).bind fun x4 => (sX7_ones x4).bind fun x5 => some (x5, A1)) else ((sX7_ofRegion A1 p0 p1).bind fun x3 => some (x3, A1)))))
abbrev rmX7_region : Room := { frames := 2, cells := 0, slots := 0, locals := 43 }
theorem hdX7_region : yX7_region.cls = RX7 ∧ yX7_region.cls ≠ "java/lang/invoke/MethodHandle" ∧ yX7_region.cls ≠ "java/lang/invoke/VarHandle" ∧ (parseMethodDescriptor yX7_region.desc).map (fun d => d.parameters.length) = some 2 := by decide +kernel
set_option maxHeartbeats 4000000 in
set_option maxRecDepth 100000 in
theorem kX7_region {l : Launch} {g : GG} {sz : Nat} {ad : Nat → Nat} {A : IA} {F : FA} {p0 p1 : Int32} {b : Int32 × IA} (hsem : sX7_region A p0 p1 = some b) : MetI l yX7_region wsX7_region rmX7_region g [.ref (ad 0), .int p0, .int p1] (wM g ad A F) sz b.1 (wM g ad b.2 F) := by
  refine Met.ofW (cc := cX7_region) (maxL := 5) (ret := (some .int)) (by decide) rfl ?_
  intro p e s m args below meth c s₁ B hml hv
  obtain ⟨rfl, hsz, hP, hD0, hKK⟩ := hv
  subst hsz
  have hx := B.exec
  have hb := B.bytes
  have hr := B.returns
  have hts := atoms_spec (ws := wsX7_region) B.pre
  have hown : s.vm.findClass RX7 = some m.cls := findClass_of_methodNamed B.named
  have hlocks := B.notSynchronized
  have hK := hKK.1
  have hD := hD0.self (sz := s.heap.size)
  generalize hZe : va_A (wM g ad A F) s.heap.size = Z at hD ⊢
  have hZ : ∀ q : Nat, s.heap.size ≤ q → Z q := fun q h => by rw [← hZe]; exact Or.inr h
  have hS : va_S Z s.heap s.heap [] := va_S.rf
  have hP : va_P g.1 vwCl (wM g ad A F) s.heap := hP
  have hD : va_D Z (wM g ad A F) := hD
  have hl := lv_entry ([.ref (ad 0), .int p0, .int p1]) (n := 5) (Nat.le_of_ble_eq_true rfl)
  rw [lg_entry_eq]
  generalize (lg_sl ([.ref (ad 0), .int p0, .int p1]) ++ List.replicate (5 - (lg_sl ([.ref (ad 0), .int p0, .int p1])).length) Slot.unset).toArray = ls at hl ⊢
  have hl : lv_has ls 5 [(0, .ref (ad 0)), (1, .int p0), (2, .int p1)] := hl
  unfold sX7_region at hsem
  refine lv_aload_n hx hb dX7_region_0 rfl (lv_at hl 0 rfl) ?_
  refine lv_iconst (v := 0) hx hb dX7_region_1 (by decide) ?_
  refine va_put (D := g.1) (ci := 7) (v := .int 0) (ty := .int) (C := RX7) (T := TX7) (N := 26) hx hb hts (fun w h => List.mem_cons_of_mem _ (List.mem_append_right _ h)) tyX7 tyX7_ok nmX7 hown hK hP hD hS 0 rfl rfl 0 (by decide) (hts (.fieldLink RX7 55 "PauseRegionsModel" "thrown" "I") (List.mem_of_getElem? (i := 1) rfl)) (fun _ h9 => h9) rfl (by decide +kernel) rfl rfl (Nat.le_of_ble_eq_true rfl) dX7_region_2 (fun H locs hP hD hS => ?_)
  obtain ⟨A1, eA1, hsem⟩ := bd_some hsem
  have hP : va_P g.1 vwCl (wM g ad A1 F) H := by rw [eA1]; exact hP
  have hD : va_D Z (wM g ad A1 F) := by rw [eA1]; exact hD
  refine lv_iload_n hx hb dX7_region_5 rfl (lv_at hl 1 rfl) ?_
  obtain ⟨x1, hc1, hsem⟩ := bn_some hsem
  refine pcS (As := [.int p0]) (rest := []) ⟨hx, hb, hml, hown, hts⟩ hKK (va_cwS 1 hts gX7_region_X7_isRegion rfl rfl rfl hdX7_isRegion ⟨Nat.le_of_ble_eq_true rfl, Nat.le_of_ble_eq_true rfl⟩) (kX7_isRegion (l := l) (g := g) hc1) rfl hl.1 rfl (Nat.le_of_ble_eq_true rfl) dX7_region_6 ⟨Nat.zero_le _, Nat.zero_le _⟩ ?_
  refine lv_if_eq (tgt := 21) hx hb dX7_region_9 (by decide) (fun c1 => ?_) (fun c1 => ?_)
  · rw [if_pos c1] at hsem
    refine lv_iconst (v := (-1)) hx hb dX7_region_21 (by decide) ?_
    have eo := (Option.some.inj hsem).symm.symm
    subst eo
    exact W.iret (v := (-1)) hx hb hr (fun t ht hW => ⟨⟨_, (), rfl, rfl, ⟨by rw [ht]; exact hP, hD⟩⟩, hS.F ht⟩) hS.2.2 dX7_region_22
  · rw [if_neg c1] at hsem
    refine lv_iload_n hx hb dX7_region_12 rfl (lv_at hl 2 rfl) ?_
    refine lv_iconst (v := 0) hx hb dX7_region_13 (by decide) ?_
    refine lv_iconst (v := 4) hx hb dX7_region_14 (by decide) ?_
    obtain ⟨x2, hc2, hsem⟩ := bn_some hsem
    refine pcS (As := [.int p1, .int 0, .int 4]) (rest := []) ⟨hx, hb, hml, hown, hts⟩ hKK (va_cwS 3 hts gX7_region_X7_in rfl rfl rfl hdX7_in ⟨Nat.le_of_ble_eq_true rfl, Nat.le_of_ble_eq_true rfl⟩) (kX7_in (l := l) (g := g) hc2) rfl hl.1 rfl (Nat.le_of_ble_eq_true rfl) dX7_region_15 ⟨Nat.zero_le _, Nat.zero_le _⟩ ?_
    refine lv_if_ne (tgt := 23) hx hb dX7_region_18 (by decide) (fun c2 => ?_) (fun c2 => ?_)
    · rw [if_neg c2] at hsem
      refine lv_iload_n hx hb dX7_region_23 rfl (lv_at hl 2 rfl) ?_
      refine lv_iconst (v := 3) hx hb dX7_region_24 (by decide) ?_
      refine lv_icmp_ne (tgt := 76) hx hb dX7_region_25 (by decide) (fun c3 => ?_) (fun c3 => ?_)
      · rw [if_neg c3] at hsem
        refine lv_iload_n hx hb dX7_region_76 rfl (lv_at hl 2 rfl) ?_
        refine lv_iconst (v := 4) hx hb dX7_region_77 (by decide) ?_
        refine lv_icmp_ne (tgt := 93) hx hb dX7_region_78 (by decide) (fun c4 => ?_) (fun c4 => ?_)
        · rw [if_neg c4] at hsem
          refine lv_aload_n hx hb dX7_region_93 rfl (lv_at hl 0 rfl) ?_
          refine lv_iload_n hx hb dX7_region_94 rfl (lv_at hl 1 rfl) ?_
          refine lv_iload_n hx hb dX7_region_95 rfl (lv_at hl 2 rfl) ?_
          obtain ⟨x3, hc3, hsem⟩ := bn_some hsem
          refine pcV (C := RX7) (As := [.int p0, .int p1]) (rest := []) ⟨hx, hb, hml, hown, hts⟩ hKK (cwV 2 hts gX7_region_X7_ofRegion rfl rfl rfl hdX7_ofRegion ⟨Nat.le_of_ble_eq_true rfl, Nat.le_of_ble_eq_true rfl⟩) (kX7_ofRegion (l := l) (g := g) hP hc3) (va_recv hK hP (ci := 7) (q0 := 0) rfl rfl) rfl hl.1 rfl (Nat.le_of_ble_eq_true rfl) dX7_region_96 ⟨Nat.zero_le _, Nat.zero_le _⟩ ?_
          have eo := (Option.some.inj hsem).symm.symm
          subst eo
          exact W.iret (v := x3) hx hb hr (fun t ht hW => ⟨⟨_, (), rfl, rfl, ⟨by rw [ht]; exact hP, hD⟩⟩, hS.F ht⟩) hS.2.2 dX7_region_99
        · rw [if_pos c4] at hsem
          refine lv_aload_n hx hb dX7_region_81 rfl (lv_at hl 0 rfl) ?_
          refine lv_iload_n hx hb dX7_region_82 rfl (lv_at hl 1 rfl) ?_
          refine lv_iconst (v := 3) hx hb dX7_region_83 (by decide) ?_
          obtain ⟨x4, hc4, hsem⟩ := bn_some hsem
          refine pcV (C := RX7) (As := [.int p0, .int 3]) (rest := []) ⟨hx, hb, hml, hown, hts⟩ hKK (cwV 2 hts gX7_region_X7_ofRegion rfl rfl rfl hdX7_ofRegion ⟨Nat.le_of_ble_eq_true rfl, Nat.le_of_ble_eq_true rfl⟩) (kX7_ofRegion (l := l) (g := g) hP hc4) (va_recv hK hP (ci := 7) (q0 := 0) rfl rfl) rfl hl.1 rfl (Nat.le_of_ble_eq_true rfl) dX7_region_84 ⟨Nat.zero_le _, Nat.zero_le _⟩ ?_
          obtain ⟨x5, hc5, hsem⟩ := bn_some hsem
          refine pcS (As := [.int x4]) (rest := []) ⟨hx, hb, hml, hown, hts⟩ hKK (va_cwS 1 hts gX7_region_X7_ones rfl rfl rfl hdX7_ones ⟨Nat.le_of_ble_eq_true rfl, Nat.le_of_ble_eq_true rfl⟩) (kX7_ones (l := l) (g := g) hc5) rfl hl.1 rfl (Nat.le_of_ble_eq_true rfl) dX7_region_87 ⟨Nat.zero_le _, Nat.zero_le _⟩ ?_
          refine lv_goto (tgt := 99) hx hb dX7_region_90 (by decide) ?_
          have eo := (Option.some.inj hsem).symm.symm
          subst eo
          exact W.iret (v := x5) hx hb hr (fun t ht hW => ⟨⟨_, (), rfl, rfl, ⟨by rw [ht]; exact hP, hD⟩⟩, hS.F ht⟩) hS.2.2 dX7_region_99
      · rw [if_pos c3] at hsem
        refine lv_iconst (v := 0) hx hb dX7_region_28 (by decide) ?_
        refine lv_istore_n (lv' := [(3, .int 0), (0, .ref (ad 0)), (1, .int p0), (2, .int p1)]) hx hb dX7_region_29 rfl hl (by decide) rfl (fun ls hl => ?_)
        refine lv_iconst (v := 0) hx hb dX7_region_30 (by decide) ?_
        refine lv_istore (lv' := [(4, .int 0), (3, .int 0), (0, .ref (ad 0)), (1, .int p0), (2, .int p1)]) hx hb dX7_region_31 hl (by decide) rfl (fun ls hl => ?_)
        obtain ⟨q2, hc8, hsem⟩ := bn_some hsem
        refine loopM (g := g) hc8 (fun (q1 : Int32 × Int32) => [(4, .int q1.2), (3, .int q1.1), (0, .ref (ad 0)), (1, .int p0)]) (fun (q1 : Int32) => [(3, .int q1)]) (exit := 74) (fun (q1 : Int32 × Int32) => wM g ad A1 F) (fun (q1 : Int32) => wM g ad A1 F) hP hD hS (lv_sub hl [0, 1, 2, 3] rfl) (fun H locs ls hP hD hS hl => ?_) (fun q1 r hst1 hin1 hout1 H locs ls hP hD hS hl => ?_)
        · have hP : va_P g.1 vwCl (wM g ad A1 F) H := hP
          have hD : va_D Z (wM g ad A1 F) := hD
          refine lv_iload_n hx hb dX7_region_74 rfl (lv_at hl 0 rfl) ?_
          have eo := (Option.some.inj hsem).symm.symm
          subst eo
          exact W.iret (v := q2) hx hb hr (fun t ht hW => ⟨⟨_, (), rfl, rfl, ⟨by rw [ht]; exact hP, hD⟩⟩, hS.F ht⟩) hS.2.2 dX7_region_75
        · unfold sX7_region_L33 at hst1
          have hP : va_P g.1 vwCl (wM g ad A1 F) H := hP
          have hD : va_D Z (wM g ad A1 F) := hD
          refine lv_iload hx hb dX7_region_33 (lv_at hl 0 rfl) ?_
          refine lv_bipush (v := 32) hx hb dX7_region_35 (by decide) ?_
          refine lv_icmp_ge (tgt := 74) hx hb dX7_region_37 (by decide) (fun c5 => ?_) (fun c5 => ?_)
          · rw [if_pos c5] at hst1
            exact hout1 H locs ls _ (Option.some.inj hst1).symm hP hD hS (lv_sub hl [1] rfl)
          · rw [if_neg c5] at hst1
            refine lv_iload_n hx hb dX7_region_40 rfl (lv_at hl 1 rfl) ?_
            refine lv_aload_n hx hb dX7_region_41 rfl (lv_at hl 2 rfl) ?_
            refine lv_iload hx hb dX7_region_42 (lv_at hl 0 rfl) ?_
            obtain ⟨x6, hc6, hst1⟩ := bn_some hst1
            refine pcV (C := RX7) (As := [.int q1.2]) (rest := [.int q1.1]) ⟨hx, hb, hml, hown, hts⟩ hKK (cwV 1 hts gX7_region_X7_isThing rfl rfl rfl hdX7_isThing ⟨Nat.le_of_ble_eq_true rfl, Nat.le_of_ble_eq_true rfl⟩) (kX7_isThing (l := l) (g := g) hP hc6) (va_recv hK hP (ci := 7) (q0 := 0) rfl rfl) rfl hl.1 rfl (Nat.le_of_ble_eq_true rfl) dX7_region_44 ⟨Nat.zero_le _, Nat.zero_le _⟩ ?_
            refine lv_if_eq (tgt := 65) hx hb dX7_region_47 (by decide) (fun c6 => ?_) (fun c6 => ?_)
            · rw [if_pos c6] at hst1
              refine lv_iconst (v := 0) hx hb dX7_region_65 (by decide) ?_
              refine lv_iadd hx hb dX7_region_66 ?_
              obtain ⟨x7, ex7, hst1⟩ := bd_some hst1
              rw [← ex7]
              refine lv_istore_n (lv' := [(3, .int x7), (4, .int q1.2), (0, .ref (ad 0)), (1, .int p0)]) hx hb dX7_region_67 rfl hl (by decide) rfl (fun ls hl => ?_)
              refine lv_iinc (v := q1.2 + 1) (lv' := [(4, .int (q1.2 + 1)), (3, .int x7), (0, .ref (ad 0)), (1, .int p0)]) hx hb dX7_region_68 hl (k := 1) rfl rfl (by decide) rfl (fun ls hl => ?_)
              refine lv_goto (tgt := 33) hx hb dX7_region_71 (by decide) ?_
              exact hin1 H locs ls _ (Option.some.inj hst1).symm hP hD hS (lv_sub hl [0, 1, 2, 3] rfl)
            · rw [if_neg c6] at hst1
              refine lv_aload_n hx hb dX7_region_50 rfl (lv_at hl 2 rfl) ?_
              refine lv_iload hx hb dX7_region_51 (lv_at hl 0 rfl) ?_
              refine lv_iconst (v := 1) hx hb dX7_region_53 (by decide) ?_
              obtain ⟨x8, hc7, hst1⟩ := bn_some hst1
              refine pcV (C := RX7) (As := [.int q1.2, .int 1]) (rest := [.int q1.1]) ⟨hx, hb, hml, hown, hts⟩ hKK (cwV 2 hts gX7_region_X7_ofThing rfl rfl rfl hdX7_ofThing ⟨Nat.le_of_ble_eq_true rfl, Nat.le_of_ble_eq_true rfl⟩) (kX7_ofThing (l := l) (g := g) hP hc7) (va_recv hK hP (ci := 7) (q0 := 0) rfl rfl) rfl hl.1 rfl (Nat.le_of_ble_eq_true rfl) dX7_region_54 ⟨Nat.zero_le _, Nat.zero_le _⟩ ?_
              refine lv_iload_n hx hb dX7_region_57 rfl (lv_at hl 3 rfl) ?_
              refine lv_icmp_ne (tgt := 65) hx hb dX7_region_58 (by decide) (fun c7 => ?_) (fun c7 => ?_)
              · rw [if_neg c7] at hst1
                refine lv_iconst (v := 0) hx hb dX7_region_65 (by decide) ?_
                refine lv_iadd hx hb dX7_region_66 ?_
                obtain ⟨x9, ex9, hst1⟩ := bd_some hst1
                rw [← ex9]
                refine lv_istore_n (lv' := [(3, .int x9), (4, .int q1.2), (0, .ref (ad 0)), (1, .int p0)]) hx hb dX7_region_67 rfl hl (by decide) rfl (fun ls hl => ?_)
                refine lv_iinc (v := q1.2 + 1) (lv' := [(4, .int (q1.2 + 1)), (3, .int x9), (0, .ref (ad 0)), (1, .int p0)]) hx hb dX7_region_68 hl (k := 1) rfl rfl (by decide) rfl (fun ls hl => ?_)
                refine lv_goto (tgt := 33) hx hb dX7_region_71 (by decide) ?_
                exact hin1 H locs ls _ (Option.some.inj hst1).symm hP hD hS (lv_sub hl [0, 1, 2, 3] rfl)
              · rw [if_pos c7] at hst1
                refine lv_iconst (v := 1) hx hb dX7_region_61 (by decide) ?_
                refine lv_goto (tgt := 66) hx hb dX7_region_62 (by decide) ?_
                refine lv_iadd hx hb dX7_region_66 ?_
                obtain ⟨x10, ex10, hst1⟩ := bd_some hst1
                rw [← ex10]
                refine lv_istore_n (lv' := [(3, .int x10), (4, .int q1.2), (0, .ref (ad 0)), (1, .int p0)]) hx hb dX7_region_67 rfl hl (by decide) rfl (fun ls hl => ?_)
                refine lv_iinc (v := q1.2 + 1) (lv' := [(4, .int (q1.2 + 1)), (3, .int x10), (0, .ref (ad 0)), (1, .int p0)]) hx hb dX7_region_68 hl (k := 1) rfl rfl (by decide) rfl (fun ls hl => ?_)
                refine lv_goto (tgt := 33) hx hb dX7_region_71 (by decide) ?_
                exact hin1 H locs ls _ (Option.some.inj hst1).symm hP hD hS (lv_sub hl [0, 1, 2, 3] rfl)
    · rw [if_pos c2] at hsem
      refine lv_iconst (v := (-1)) hx hb dX7_region_21 (by decide) ?_
      have eo := (Option.some.inj hsem).symm.symm
      subst eo
      exact W.iret (v := (-1)) hx hb hr (fun t ht hW => ⟨⟨_, (), rfl, rfl, ⟨by rw [ht]; exact hP, hD⟩⟩, hS.F ht⟩) hS.2.2 dX7_region_22
def sX7_remembers (A : IA) (p0 : Int32) (p1 : Int32) : Option (Int32 × IA) :=
  bd (sc A 0 0) fun A1 => (sX7_isRegion p0).bind fun x1 => if x1 = 0 then (some (((-1), A1))) else ((sX7_in p1 0 19).bind fun x2 => if x2 = 0 then (some (((-1), A1))) else ((sX7_ofRegion A1 p0 3).bind fun x3 => some (((x3 >>> (p1 &&& 31)) &&& 1, A1))))
abbrev rmX7_remembers : Room := { frames := 2, cells := 0, slots := 0, locals := 42 }
theorem hdX7_remembers : yX7_remembers.cls = RX7 ∧ yX7_remembers.cls ≠ "java/lang/invoke/MethodHandle" ∧ yX7_remembers.cls ≠ "java/lang/invoke/VarHandle" ∧ (parseMethodDescriptor yX7_remembers.desc).map (fun d => d.parameters.length) = some 2 := by decide +kernel
set_option maxHeartbeats 4000000 in
set_option maxRecDepth 100000 in
theorem kX7_remembers {l : Launch} {g : GG} {sz : Nat} {ad : Nat → Nat} {A : IA} {F : FA} {p0 p1 : Int32} {b : Int32 × IA} (hsem : sX7_remembers A p0 p1 = some b) : MetI l yX7_remembers wsX7_remembers rmX7_remembers g [.ref (ad 0), .int p0, .int p1] (wM g ad A F) sz b.1 (wM g ad b.2 F) := by
  refine Met.ofW (cc := cX7_remembers) (maxL := 3) (ret := (some .int)) (by decide) rfl ?_
  intro p e s m args below meth c s₁ B hml hv
  obtain ⟨rfl, hsz, hP, hD0, hKK⟩ := hv
  subst hsz
  have hx := B.exec
  have hb := B.bytes
  have hr := B.returns
  have hts := atoms_spec (ws := wsX7_remembers) B.pre
  have hown : s.vm.findClass RX7 = some m.cls := findClass_of_methodNamed B.named
  have hlocks := B.notSynchronized
  have hK := hKK.1
  have hD := hD0.self (sz := s.heap.size)
  generalize hZe : va_A (wM g ad A F) s.heap.size = Z at hD ⊢
  have hZ : ∀ q : Nat, s.heap.size ≤ q → Z q := fun q h => by rw [← hZe]; exact Or.inr h
  have hS : va_S Z s.heap s.heap [] := va_S.rf
  have hP : va_P g.1 vwCl (wM g ad A F) s.heap := hP
  have hD : va_D Z (wM g ad A F) := hD
  have hl := lv_entry ([.ref (ad 0), .int p0, .int p1]) (n := 3) (Nat.le_of_ble_eq_true rfl)
  rw [lg_entry_eq]
  generalize (lg_sl ([.ref (ad 0), .int p0, .int p1]) ++ List.replicate (3 - (lg_sl ([.ref (ad 0), .int p0, .int p1])).length) Slot.unset).toArray = ls at hl ⊢
  have hl : lv_has ls 3 [(0, .ref (ad 0)), (1, .int p0), (2, .int p1)] := hl
  unfold sX7_remembers at hsem
  refine lv_aload_n hx hb dX7_remembers_0 rfl (lv_at hl 0 rfl) ?_
  refine lv_iconst (v := 0) hx hb dX7_remembers_1 (by decide) ?_
  refine va_put (D := g.1) (ci := 7) (v := .int 0) (ty := .int) (C := RX7) (T := TX7) (N := 26) hx hb hts (fun w h => List.mem_cons_of_mem _ (List.mem_append_right _ h)) tyX7 tyX7_ok nmX7 hown hK hP hD hS 0 rfl rfl 0 (by decide) (hts (.fieldLink RX7 55 "PauseRegionsModel" "thrown" "I") (List.mem_of_getElem? (i := 1) rfl)) (fun _ h9 => h9) rfl (by decide +kernel) rfl rfl (Nat.le_of_ble_eq_true rfl) dX7_remembers_2 (fun H locs hP hD hS => ?_)
  obtain ⟨A1, eA1, hsem⟩ := bd_some hsem
  have hP : va_P g.1 vwCl (wM g ad A1 F) H := by rw [eA1]; exact hP
  have hD : va_D Z (wM g ad A1 F) := by rw [eA1]; exact hD
  refine lv_iload_n hx hb dX7_remembers_5 rfl (lv_at hl 1 rfl) ?_
  obtain ⟨x1, hc1, hsem⟩ := bn_some hsem
  refine pcS (As := [.int p0]) (rest := []) ⟨hx, hb, hml, hown, hts⟩ hKK (va_cwS 1 hts gX7_remembers_X7_isRegion rfl rfl rfl hdX7_isRegion ⟨Nat.le_of_ble_eq_true rfl, Nat.le_of_ble_eq_true rfl⟩) (kX7_isRegion (l := l) (g := g) hc1) rfl hl.1 rfl (Nat.le_of_ble_eq_true rfl) dX7_remembers_6 ⟨Nat.zero_le _, Nat.zero_le _⟩ ?_
  refine lv_if_eq (tgt := 35) hx hb dX7_remembers_9 (by decide) (fun c1 => ?_) (fun c1 => ?_)
  · rw [if_pos c1] at hsem
    refine lv_iconst (v := (-1)) hx hb dX7_remembers_35 (by decide) ?_
    have eo := (Option.some.inj hsem).symm.symm
    subst eo
    exact W.iret (v := (-1)) hx hb hr (fun t ht hW => ⟨⟨_, (), rfl, rfl, ⟨by rw [ht]; exact hP, hD⟩⟩, hS.F ht⟩) hS.2.2 dX7_remembers_36
  · rw [if_neg c1] at hsem
    refine lv_iload_n hx hb dX7_remembers_12 rfl (lv_at hl 2 rfl) ?_
    refine lv_iconst (v := 0) hx hb dX7_remembers_13 (by decide) ?_
    refine lv_bipush (v := 19) hx hb dX7_remembers_14 (by decide) ?_
    obtain ⟨x2, hc2, hsem⟩ := bn_some hsem
    refine pcS (As := [.int p1, .int 0, .int 19]) (rest := []) ⟨hx, hb, hml, hown, hts⟩ hKK (va_cwS 3 hts gX7_remembers_X7_in rfl rfl rfl hdX7_in ⟨Nat.le_of_ble_eq_true rfl, Nat.le_of_ble_eq_true rfl⟩) (kX7_in (l := l) (g := g) hc2) rfl hl.1 rfl (Nat.le_of_ble_eq_true rfl) dX7_remembers_16 ⟨Nat.zero_le _, Nat.zero_le _⟩ ?_
    refine lv_if_eq (tgt := 35) hx hb dX7_remembers_19 (by decide) (fun c2 => ?_) (fun c2 => ?_)
    · rw [if_pos c2] at hsem
      refine lv_iconst (v := (-1)) hx hb dX7_remembers_35 (by decide) ?_
      have eo := (Option.some.inj hsem).symm.symm
      subst eo
      exact W.iret (v := (-1)) hx hb hr (fun t ht hW => ⟨⟨_, (), rfl, rfl, ⟨by rw [ht]; exact hP, hD⟩⟩, hS.F ht⟩) hS.2.2 dX7_remembers_36
    · rw [if_neg c2] at hsem
      refine lv_aload_n hx hb dX7_remembers_22 rfl (lv_at hl 0 rfl) ?_
      refine lv_iload_n hx hb dX7_remembers_23 rfl (lv_at hl 1 rfl) ?_
      refine lv_iconst (v := 3) hx hb dX7_remembers_24 (by decide) ?_
      obtain ⟨x3, hc3, hsem⟩ := bn_some hsem
      refine pcV (C := RX7) (As := [.int p0, .int 3]) (rest := []) ⟨hx, hb, hml, hown, hts⟩ hKK (cwV 2 hts gX7_remembers_X7_ofRegion rfl rfl rfl hdX7_ofRegion ⟨Nat.le_of_ble_eq_true rfl, Nat.le_of_ble_eq_true rfl⟩) (kX7_ofRegion (l := l) (g := g) hP hc3) (va_recv hK hP (ci := 7) (q0 := 0) rfl rfl) rfl hl.1 rfl (Nat.le_of_ble_eq_true rfl) dX7_remembers_25 ⟨Nat.zero_le _, Nat.zero_le _⟩ ?_
      refine lv_iload_n hx hb dX7_remembers_28 rfl (lv_at hl 2 rfl) ?_
      refine lv_ishr hx hb dX7_remembers_29 ?_
      refine lv_iconst (v := 1) hx hb dX7_remembers_30 (by decide) ?_
      refine lv_iand hx hb dX7_remembers_31 ?_
      refine lv_goto (tgt := 36) hx hb dX7_remembers_32 (by decide) ?_
      have eo := (Option.some.inj hsem).symm.symm
      subst eo
      exact W.iret (v := (x3 >>> (p1 &&& 31)) &&& 1) hx hb hr (fun t ht hW => ⟨⟨_, (), rfl, rfl, ⟨by rw [ht]; exact hP, hD⟩⟩, hS.F ht⟩) hS.2.2 dX7_remembers_36
def sX7_root (A : IA) (p0 : Int32) : Option (Int32 × IA) :=
  bd (sc A 0 0) fun A1 => (sX7_isRoot p0).bind fun x1 => if x1 = 0 then (some (((-1), A1))) else (ck (192 + p0) 296 (some (((A1 1) (192 + p0).toNatClampNeg, A1))))
abbrev rmX7_root : Room := { frames := 2, cells := 0, slots := 0, locals := 42 }
theorem hdX7_root : yX7_root.cls = RX7 ∧ yX7_root.cls ≠ "java/lang/invoke/MethodHandle" ∧ yX7_root.cls ≠ "java/lang/invoke/VarHandle" ∧ (parseMethodDescriptor yX7_root.desc).map (fun d => d.parameters.length) = some 1 := by decide +kernel
set_option maxHeartbeats 4000000 in
set_option maxRecDepth 100000 in
theorem kX7_root {l : Launch} {g : GG} {sz : Nat} {ad : Nat → Nat} {A : IA} {F : FA} {p0 : Int32} {b : Int32 × IA} (hsem : sX7_root A p0 = some b) : MetI l yX7_root wsX7_root rmX7_root g [.ref (ad 0), .int p0] (wM g ad A F) sz b.1 (wM g ad b.2 F) := by
  refine Met.ofW (cc := cX7_root) (maxL := 2) (ret := (some .int)) (by decide) rfl ?_
  intro p e s m args below meth c s₁ B hml hv
  obtain ⟨rfl, hsz, hP, hD0, hKK⟩ := hv
  subst hsz
  have hx := B.exec
  have hb := B.bytes
  have hr := B.returns
  have hts := atoms_spec (ws := wsX7_root) B.pre
  have hown : s.vm.findClass RX7 = some m.cls := findClass_of_methodNamed B.named
  have hlocks := B.notSynchronized
  have hK := hKK.1
  have hD := hD0.self (sz := s.heap.size)
  generalize hZe : va_A (wM g ad A F) s.heap.size = Z at hD ⊢
  have hZ : ∀ q : Nat, s.heap.size ≤ q → Z q := fun q h => by rw [← hZe]; exact Or.inr h
  have hS : va_S Z s.heap s.heap [] := va_S.rf
  have hP : va_P g.1 vwCl (wM g ad A F) s.heap := hP
  have hD : va_D Z (wM g ad A F) := hD
  have hl := lv_entry ([.ref (ad 0), .int p0]) (n := 2) (Nat.le_of_ble_eq_true rfl)
  rw [lg_entry_eq]
  generalize (lg_sl ([.ref (ad 0), .int p0]) ++ List.replicate (2 - (lg_sl ([.ref (ad 0), .int p0])).length) Slot.unset).toArray = ls at hl ⊢
  have hl : lv_has ls 2 [(0, .ref (ad 0)), (1, .int p0)] := hl
  unfold sX7_root at hsem
  refine lv_aload_n hx hb dX7_root_0 rfl (lv_at hl 0 rfl) ?_
  refine lv_iconst (v := 0) hx hb dX7_root_1 (by decide) ?_
  refine va_put (D := g.1) (ci := 7) (v := .int 0) (ty := .int) (C := RX7) (T := TX7) (N := 26) hx hb hts (fun w h => List.mem_cons_of_mem _ (List.mem_append_right _ h)) tyX7 tyX7_ok nmX7 hown hK hP hD hS 0 rfl rfl 0 (by decide) (hts (.fieldLink RX7 55 "PauseRegionsModel" "thrown" "I") (List.mem_of_getElem? (i := 1) rfl)) (fun _ h9 => h9) rfl (by decide +kernel) rfl rfl (Nat.le_of_ble_eq_true rfl) dX7_root_2 (fun H locs hP hD hS => ?_)
  obtain ⟨A1, eA1, hsem⟩ := bd_some hsem
  have hP : va_P g.1 vwCl (wM g ad A1 F) H := by rw [eA1]; exact hP
  have hD : va_D Z (wM g ad A1 F) := by rw [eA1]; exact hD
  refine lv_iload_n hx hb dX7_root_5 rfl (lv_at hl 1 rfl) ?_
  obtain ⟨x1, hc1, hsem⟩ := bn_some hsem
  refine pcS (As := [.int p0]) (rest := []) ⟨hx, hb, hml, hown, hts⟩ hKK (va_cwS 1 hts gX7_root_X7_isRoot rfl rfl rfl hdX7_isRoot ⟨Nat.le_of_ble_eq_true rfl, Nat.le_of_ble_eq_true rfl⟩) (kX7_isRoot (l := l) (g := g) hc1) rfl hl.1 rfl (Nat.le_of_ble_eq_true rfl) dX7_root_6 ⟨Nat.zero_le _, Nat.zero_le _⟩ ?_
  refine lv_if_eq (tgt := 25) hx hb dX7_root_9 (by decide) (fun c1 => ?_) (fun c1 => ?_)
  · rw [if_pos c1] at hsem
    refine lv_iconst (v := (-1)) hx hb dX7_root_25 (by decide) ?_
    have eo := (Option.some.inj hsem).symm.symm
    subst eo
    exact W.iret (v := (-1)) hx hb hr (fun t ht hW => ⟨⟨_, (), rfl, rfl, ⟨by rw [ht]; exact hP, hD⟩⟩, hS.F ht⟩) hS.2.2 dX7_root_26
  · rw [if_neg c1] at hsem
    refine lv_aload_n hx hb dX7_root_12 rfl (lv_at hl 0 rfl) ?_
    refine va_get (D := g.1) (ci := 7) (v := .ref (ad 1)) (C := RX7) (T := TX7) (N := 26) hx hb hts (fun w h => List.mem_cons_of_mem _ (List.mem_append_right _ h)) hown hK hP 0 rfl rfl 1 (by decide) (hts (.fieldLink RX7 7 "PauseRegionsModel" "s" "[I") (List.mem_of_getElem? (i := 2) rfl)) (fun _ h9 => h9) rfl dX7_root_13 ?_
    refine lv_sipush (v := 192) hx hb dX7_root_16 (by decide) ?_
    refine lv_iload_n hx hb dX7_root_19 rfl (lv_at hl 1 rfl) ?_
    refine lv_iadd hx hb dX7_root_20 ?_
    obtain ⟨h1, hsem⟩ := ck_some hsem
    refine va_iald (D := g.1) hx hb hK hP 1 0 rfl rfl h1 dX7_root_21 ?_
    refine lv_goto (tgt := 26) hx hb dX7_root_22 (by decide) ?_
    have eo := (Option.some.inj hsem).symm.symm
    subst eo
    exact W.iret (v := (A1 1) (192 + p0).toNatClampNeg) hx hb hr (fun t ht hW => ⟨⟨_, (), rfl, rfl, ⟨by rw [ht]; exact hP, hD⟩⟩, hS.F ht⟩) hS.2.2 dX7_root_26
def sX7_rubbish_L24 (p0 : Int32) (z1 : IA) (q1 : Int32 × Int32) : Option ((Int32 × Int32) ⊕ (Int32)) :=
  if 32 ≤ q1.2 then (some (.inr q1.1)) else ((sX7_isThing z1 q1.2).bind fun x2 => if x2 = 0 then (some (.inl (q1.1, q1.2 + 1))) else (ck q1.2 32 (if ((z1 24) q1.2.toNatClampNeg) = 0 then (if p0 = 0 then (bd (q1.1 + 1) fun x5 => some (.inl (x5, q1.2 + 1))) else ((sX7_ofThing z1 q1.2 0).bind fun x3 => bd (q1.1 + x3) fun x4 => some (.inl (x4, q1.2 + 1)))) else (some (.inl (q1.1, q1.2 + 1))))))
def sX7_rubbish (A : IA) (p0 : Int32) : Option (Int32 × IA) :=
  bd (sc A 0 0) fun A1 => (sX7_in p0 0 1).bind fun x1 => if x1 = 0 then (some (((-1), A1))) else ((sX7_laysFar A1).bind fun z1 => (loopN (sX7_rubbish_L24 p0 z1) 2000 (0, 0)).bind fun q2 => some (q2, z1))
abbrev rmX7_rubbish : Room := { frames := 2, cells := 0, slots := 0, locals := 44 }
theorem hdX7_rubbish : yX7_rubbish.cls = RX7 ∧ yX7_rubbish.cls ≠ "java/lang/invoke/MethodHandle" ∧ yX7_rubbish.cls ≠ "java/lang/invoke/VarHandle" ∧ (parseMethodDescriptor yX7_rubbish.desc).map (fun d => d.parameters.length) = some 1 := by decide +kernel
set_option maxHeartbeats 4000000 in
set_option maxRecDepth 100000 in
theorem kX7_rubbish {l : Launch} {g : GG} {sz : Nat} {ad : Nat → Nat} {A : IA} {F : FA} {p0 : Int32} {b : Int32 × IA} (hsem : sX7_rubbish A p0 = some b) : MetI l yX7_rubbish wsX7_rubbish rmX7_rubbish g [.ref (ad 0), .int p0] (wM g ad A F) sz b.1 (wM g ad b.2 F) := by
  refine Met.ofW (cc := cX7_rubbish) (maxL := 4) (ret := (some .int)) (by decide) rfl ?_
  intro p e s m args below meth c s₁ B hml hv
  obtain ⟨rfl, hsz, hP, hD0, hKK⟩ := hv
  subst hsz
  have hx := B.exec
  have hb := B.bytes
  have hr := B.returns
  have hts := atoms_spec (ws := wsX7_rubbish) B.pre
  have hown : s.vm.findClass RX7 = some m.cls := findClass_of_methodNamed B.named
  have hlocks := B.notSynchronized
  have hK := hKK.1
  have hD := hD0.self (sz := s.heap.size)
  generalize hZe : va_A (wM g ad A F) s.heap.size = Z at hD ⊢
  have hZ : ∀ q : Nat, s.heap.size ≤ q → Z q := fun q h => by rw [← hZe]; exact Or.inr h
  have hS : va_S Z s.heap s.heap [] := va_S.rf
  have hP : va_P g.1 vwCl (wM g ad A F) s.heap := hP
  have hD : va_D Z (wM g ad A F) := hD
  have hl := lv_entry ([.ref (ad 0), .int p0]) (n := 4) (Nat.le_of_ble_eq_true rfl)
  rw [lg_entry_eq]
  generalize (lg_sl ([.ref (ad 0), .int p0]) ++ List.replicate (4 - (lg_sl ([.ref (ad 0), .int p0])).length) Slot.unset).toArray = ls at hl ⊢
  have hl : lv_has ls 4 [(0, .ref (ad 0)), (1, .int p0)] := hl
  unfold sX7_rubbish at hsem
  refine lv_aload_n hx hb dX7_rubbish_0 rfl (lv_at hl 0 rfl) ?_
  refine lv_iconst (v := 0) hx hb dX7_rubbish_1 (by decide) ?_
  refine va_put (D := g.1) (ci := 7) (v := .int 0) (ty := .int) (C := RX7) (T := TX7) (N := 26) hx hb hts (fun w h => List.mem_cons_of_mem _ (List.mem_append_right _ h)) tyX7 tyX7_ok nmX7 hown hK hP hD hS 0 rfl rfl 0 (by decide) (hts (.fieldLink RX7 55 "PauseRegionsModel" "thrown" "I") (List.mem_of_getElem? (i := 1) rfl)) (fun _ h9 => h9) rfl (by decide +kernel) rfl rfl (Nat.le_of_ble_eq_true rfl) dX7_rubbish_2 (fun H locs hP hD hS => ?_)
  obtain ⟨A1, eA1, hsem⟩ := bd_some hsem
  have hP : va_P g.1 vwCl (wM g ad A1 F) H := by rw [eA1]; exact hP
  have hD : va_D Z (wM g ad A1 F) := by rw [eA1]; exact hD
  refine lv_iload_n hx hb dX7_rubbish_5 rfl (lv_at hl 1 rfl) ?_
  refine lv_iconst (v := 0) hx hb dX7_rubbish_6 (by decide) ?_
  refine lv_iconst (v := 1) hx hb dX7_rubbish_7 (by decide) ?_
  obtain ⟨x1, hc1, hsem⟩ := bn_some hsem
  refine pcS (As := [.int p0, .int 0, .int 1]) (rest := []) ⟨hx, hb, hml, hown, hts⟩ hKK (va_cwS 3 hts gX7_rubbish_X7_in rfl rfl rfl hdX7_in ⟨Nat.le_of_ble_eq_true rfl, Nat.le_of_ble_eq_true rfl⟩) (kX7_in (l := l) (g := g) hc1) rfl hl.1 rfl (Nat.le_of_ble_eq_true rfl) dX7_rubbish_8 ⟨Nat.zero_le _, Nat.zero_le _⟩ ?_
  refine lv_if_ne (tgt := 16) hx hb dX7_rubbish_11 (by decide) (fun c1 => ?_) (fun c1 => ?_)
  · rw [if_neg c1] at hsem
    refine lv_aload_n hx hb dX7_rubbish_16 rfl (lv_at hl 0 rfl) ?_
    obtain ⟨z1, hc2, hsem⟩ := bn_some hsem
    refine mcV (C := RX7) (As := []) (rest := []) ⟨hx, hb, hml, hown, hts⟩ hKK hP hD hS hZ (cwV 0 hts gX7_rubbish_X7_laysFar rfl rfl rfl hdX7_laysFar ⟨Nat.le_of_ble_eq_true rfl, Nat.le_of_ble_eq_true rfl⟩) (kX7_laysFar (l := l) (g := g) (ad := ad) (A := A1) (F := F) hc2) (va_recv hK hP (ci := 7) (q0 := 0) rfl rfl) rfl hl.1 rfl (Nat.le_of_ble_eq_true rfl) dX7_rubbish_17 ⟨Nat.zero_le _, Nat.zero_le _⟩ (fun H locs hP hD hS => ?_)
    have hP : va_P g.1 vwCl (wM g ad z1 F) H := hP
    have hD : va_D Z (wM g ad z1 F) := hD
    refine lv_iconst (v := 0) hx hb dX7_rubbish_20 (by decide) ?_
    refine lv_istore_n (lv' := [(2, .int 0), (0, .ref (ad 0)), (1, .int p0)]) hx hb dX7_rubbish_21 rfl hl (by decide) rfl (fun ls hl => ?_)
    refine lv_iconst (v := 0) hx hb dX7_rubbish_22 (by decide) ?_
    refine lv_istore_n (lv' := [(3, .int 0), (2, .int 0), (0, .ref (ad 0)), (1, .int p0)]) hx hb dX7_rubbish_23 rfl hl (by decide) rfl (fun ls hl => ?_)
    obtain ⟨q2, hc5, hsem⟩ := bn_some hsem
    refine loopM (g := g) hc5 (fun (q1 : Int32 × Int32) => [(3, .int q1.2), (2, .int q1.1), (0, .ref (ad 0)), (1, .int p0)]) (fun (q1 : Int32) => [(2, .int q1)]) (exit := 70) (fun (q1 : Int32 × Int32) => wM g ad z1 F) (fun (q1 : Int32) => wM g ad z1 F) hP hD hS (lv_sub hl [0, 1, 2, 3] rfl) (fun H locs ls hP hD hS hl => ?_) (fun q1 r hst1 hin1 hout1 H locs ls hP hD hS hl => ?_)
    · have hP : va_P g.1 vwCl (wM g ad z1 F) H := hP
      have hD : va_D Z (wM g ad z1 F) := hD
      refine lv_iload_n hx hb dX7_rubbish_70 rfl (lv_at hl 0 rfl) ?_
      have eo := (Option.some.inj hsem).symm.symm
      subst eo
      exact W.iret (v := q2) hx hb hr (fun t ht hW => ⟨⟨_, (), rfl, rfl, ⟨by rw [ht]; exact hP, hD⟩⟩, hS.F ht⟩) hS.2.2 dX7_rubbish_71
    · unfold sX7_rubbish_L24 at hst1
      have hP : va_P g.1 vwCl (wM g ad z1 F) H := hP
      have hD : va_D Z (wM g ad z1 F) := hD
      refine lv_iload_n hx hb dX7_rubbish_24 rfl (lv_at hl 0 rfl) ?_
      refine lv_bipush (v := 32) hx hb dX7_rubbish_25 (by decide) ?_
      refine lv_icmp_ge (tgt := 70) hx hb dX7_rubbish_27 (by decide) (fun c2 => ?_) (fun c2 => ?_)
      · rw [if_pos c2] at hst1
        exact hout1 H locs ls _ (Option.some.inj hst1).symm hP hD hS (lv_sub hl [1] rfl)
      · rw [if_neg c2] at hst1
        refine lv_aload_n hx hb dX7_rubbish_30 rfl (lv_at hl 2 rfl) ?_
        refine lv_iload_n hx hb dX7_rubbish_31 rfl (lv_at hl 0 rfl) ?_
        obtain ⟨x2, hc3, hst1⟩ := bn_some hst1
        refine pcV (C := RX7) (As := [.int q1.2]) (rest := []) ⟨hx, hb, hml, hown, hts⟩ hKK (cwV 1 hts gX7_rubbish_X7_isThing rfl rfl rfl hdX7_isThing ⟨Nat.le_of_ble_eq_true rfl, Nat.le_of_ble_eq_true rfl⟩) (kX7_isThing (l := l) (g := g) hP hc3) (va_recv hK hP (ci := 7) (q0 := 0) rfl rfl) rfl hl.1 rfl (Nat.le_of_ble_eq_true rfl) dX7_rubbish_32 ⟨Nat.zero_le _, Nat.zero_le _⟩ ?_
        refine lv_if_eq (tgt := 64) hx hb dX7_rubbish_35 (by decide) (fun c3 => ?_) (fun c3 => ?_)
        · rw [if_pos c3] at hst1
          refine lv_iinc (v := q1.2 + 1) (lv' := [(3, .int (q1.2 + 1)), (2, .int q1.1), (0, .ref (ad 0)), (1, .int p0)]) hx hb dX7_rubbish_64 hl (k := 0) rfl rfl (by decide) rfl (fun ls hl => ?_)
          refine lv_goto (tgt := 24) hx hb dX7_rubbish_67 (by decide) ?_
          exact hin1 H locs ls _ (Option.some.inj hst1).symm hP hD hS (lv_sub hl [0, 1, 2, 3] rfl)
        · rw [if_neg c3] at hst1
          refine lv_aload_n hx hb dX7_rubbish_38 rfl (lv_at hl 2 rfl) ?_
          refine va_get (D := g.1) (ci := 7) (v := .ref (ad 13)) (C := RX7) (T := TX7) (N := 26) hx hb hts (fun w h => List.mem_cons_of_mem _ (List.mem_append_right _ h)) hown hK hP 0 rfl rfl 24 (by decide) (hts (.fieldLink RX7 48 "PauseRegionsModel" "far" "[I") (List.mem_of_getElem? (i := 2) rfl)) (fun _ h9 => h9) rfl dX7_rubbish_39 ?_
          refine lv_iload_n hx hb dX7_rubbish_42 rfl (lv_at hl 0 rfl) ?_
          obtain ⟨h1, hst1⟩ := ck_some hst1
          refine va_iald (D := g.1) hx hb hK hP 13 0 rfl rfl h1 dX7_rubbish_43 ?_
          refine lv_if_ne (tgt := 64) hx hb dX7_rubbish_44 (by decide) (fun c4 => ?_) (fun c4 => ?_)
          · rw [if_neg c4] at hst1
            refine lv_iinc (v := q1.2 + 1) (lv' := [(3, .int (q1.2 + 1)), (2, .int q1.1), (0, .ref (ad 0)), (1, .int p0)]) hx hb dX7_rubbish_64 hl (k := 0) rfl rfl (by decide) rfl (fun ls hl => ?_)
            refine lv_goto (tgt := 24) hx hb dX7_rubbish_67 (by decide) ?_
            exact hin1 H locs ls _ (Option.some.inj hst1).symm hP hD hS (lv_sub hl [0, 1, 2, 3] rfl)
          · rw [if_pos c4] at hst1
            refine lv_iload_n hx hb dX7_rubbish_47 rfl (lv_at hl 1 rfl) ?_
            refine lv_iload_n hx hb dX7_rubbish_48 rfl (lv_at hl 3 rfl) ?_
            refine lv_if_ne (tgt := 56) hx hb dX7_rubbish_49 (by decide) (fun c5 => ?_) (fun c5 => ?_)
            · rw [if_neg c5] at hst1
              refine lv_aload_n hx hb dX7_rubbish_56 rfl (lv_at hl 2 rfl) ?_
              refine lv_iload_n hx hb dX7_rubbish_57 rfl (lv_at hl 0 rfl) ?_
              refine lv_iconst (v := 0) hx hb dX7_rubbish_58 (by decide) ?_
              obtain ⟨x3, hc4, hst1⟩ := bn_some hst1
              refine pcV (C := RX7) (As := [.int q1.2, .int 0]) (rest := [.int q1.1]) ⟨hx, hb, hml, hown, hts⟩ hKK (cwV 2 hts gX7_rubbish_X7_ofThing rfl rfl rfl hdX7_ofThing ⟨Nat.le_of_ble_eq_true rfl, Nat.le_of_ble_eq_true rfl⟩) (kX7_ofThing (l := l) (g := g) hP hc4) (va_recv hK hP (ci := 7) (q0 := 0) rfl rfl) rfl hl.1 rfl (Nat.le_of_ble_eq_true rfl) dX7_rubbish_59 ⟨Nat.zero_le _, Nat.zero_le _⟩ ?_
              refine lv_iadd hx hb dX7_rubbish_62 ?_
              obtain ⟨x4, ex4, hst1⟩ := bd_some hst1
              rw [← ex4]
              refine lv_istore_n (lv' := [(2, .int x4), (3, .int q1.2), (0, .ref (ad 0)), (1, .int p0)]) hx hb dX7_rubbish_63 rfl hl (by decide) rfl (fun ls hl => ?_)
              refine lv_iinc (v := q1.2 + 1) (lv' := [(3, .int (q1.2 + 1)), (2, .int x4), (0, .ref (ad 0)), (1, .int p0)]) hx hb dX7_rubbish_64 hl (k := 1) rfl rfl (by decide) rfl (fun ls hl => ?_)
              refine lv_goto (tgt := 24) hx hb dX7_rubbish_67 (by decide) ?_
              exact hin1 H locs ls _ (Option.some.inj hst1).symm hP hD hS (lv_sub hl [0, 1, 2, 3] rfl)
            · rw [if_pos c5] at hst1
              refine lv_iconst (v := 1) hx hb dX7_rubbish_52 (by decide) ?_
              refine lv_goto (tgt := 62) hx hb dX7_rubbish_53 (by decide) ?_
              refine lv_iadd hx hb dX7_rubbish_62 ?_
              obtain ⟨x5, ex5, hst1⟩ := bd_some hst1
              rw [← ex5]
              refine lv_istore_n (lv' := [(2, .int x5), (3, .int q1.2), (0, .ref (ad 0)), (1, .int p0)]) hx hb dX7_rubbish_63 rfl hl (by decide) rfl (fun ls hl => ?_)
              refine lv_iinc (v := q1.2 + 1) (lv' := [(3, .int (q1.2 + 1)), (2, .int x5), (0, .ref (ad 0)), (1, .int p0)]) hx hb dX7_rubbish_64 hl (k := 1) rfl rfl (by decide) rfl (fun ls hl => ?_)
              refine lv_goto (tgt := 24) hx hb dX7_rubbish_67 (by decide) ?_
              exact hin1 H locs ls _ (Option.some.inj hst1).symm hP hD hS (lv_sub hl [0, 1, 2, 3] rfl)
  · rw [if_pos c1] at hsem
    refine lv_iconst (v := (-1)) hx hb dX7_rubbish_14 (by decide) ?_
    have eo := (Option.some.inj hsem).symm.symm
    subst eo
    exact W.iret (v := (-1)) hx hb hr (fun t ht hW => ⟨⟨_, (), rfl, rfl, ⟨by rw [ht]; exact hP, hD⟩⟩, hS.F ht⟩) hS.2.2 dX7_rubbish_15
def sX7_sets (A : IA) (Fc : FA) (p0 : Int32) (p1 : Int32) : Option (Int32 × IA × FA) :=
  bd (sc A 0 0) fun A1 => (sX7_isRoot p0).bind fun x1 => if x1 = 0 then (some (((-1), A1, Fc))) else ((sX7_in p1 (-1) 5).bind fun x2 => if x2 = 0 then (some (((-1), A1, Fc))) else ((sX7_notes A1 Fc).bind fun z1 => ck (192 + p0) 296 (bd ((z1.1 1) (192 + p0).toNatClampNeg) fun x3 => if 0 ≤ p1 then (ck (192 + p1) 296 (ck (192 + p0) 296 (bd (wr z1.1 1 ((192 + p0).toNatClampNeg) ((z1.1 1) (192 + p1).toNatClampNeg)) fun A2 => some (x3, A2, z1.2)))) else (ck (192 + p0) 296 (bd (wr z1.1 1 ((192 + p0).toNatClampNeg) (-5)) fun A3 => some (x3, A3, z1.2))))))
abbrev rmX7_sets : Room := { frames := 2, cells := 0, slots := 0, locals := 42 }
theorem hdX7_sets : yX7_sets.cls = RX7 ∧ yX7_sets.cls ≠ "java/lang/invoke/MethodHandle" ∧ yX7_sets.cls ≠ "java/lang/invoke/VarHandle" ∧ (parseMethodDescriptor yX7_sets.desc).map (fun d => d.parameters.length) = some 2 := by decide +kernel
set_option maxHeartbeats 4000000 in
set_option maxRecDepth 100000 in
theorem kX7_sets {l : Launch} {g : GG} {sz : Nat} {ad : Nat → Nat} {A : IA} {F : FA} {p0 p1 : Int32} {Fc : FA} (hAL : AL F Fc) {b : Int32 × IA × FA} (hsem : sX7_sets A Fc p0 p1 = some b) : MetDI l yX7_sets wsX7_sets rmX7_sets g [.ref (ad 0), .int p0, .int p1] (wM g ad A F) sz b.1 (φ := FA) (fun u => AL u b.2.2) (fun u => wM g ad b.2.1 u) := by
  refine MetD.ofW (cc := cX7_sets) (maxL := 4) (ret := (some .int)) (by decide) rfl ?_
  intro p e s m args below meth c s₁ B hml hv hdr
  obtain ⟨rfl, hsz, hP, hD0, hKK⟩ := hv
  subst hsz
  have hx := B.exec
  have hb := B.bytes
  have hr := B.returns
  have hts := atoms_spec (ws := wsX7_sets) B.pre
  have hown : ∀ d, (s.setDrawn d).vm.findClass RX7 = some m.cls := fun _ => findClass_of_methodNamed B.named
  have hlocks := B.notSynchronized
  have hK : ∀ d, va_K g.1 vwCl (KT g) (s.setDrawn d) := fun d => (hKK.drawn d).1
  have hD := hD0.self (sz := s.heap.size)
  generalize hZe : va_A (wM g ad A F) s.heap.size = Z at hD ⊢
  have hZ : ∀ q : Nat, s.heap.size ≤ q → Z q := fun q h => by rw [← hZe]; exact Or.inr h
  have hS : va_S Z s.heap s.heap [] := va_S.rf
  have hP : va_P g.1 vwCl (wM g ad A F) s.heap := hP
  have hD : va_D Z (wM g ad A F) := hD
  obtain ⟨d, hdr, hdd⟩ : ∃ d, s.drawn.sameBut d lw_cs ∧ s.drawn = d := ⟨_, hdr, rfl⟩
  rw [hdd]
  have hl := lv_entry ([.ref (ad 0), .int p0, .int p1]) (n := 4) (Nat.le_of_ble_eq_true rfl)
  rw [lg_entry_eq]
  generalize (lg_sl ([.ref (ad 0), .int p0, .int p1]) ++ List.replicate (4 - (lg_sl ([.ref (ad 0), .int p0, .int p1])).length) Slot.unset).toArray = ls at hl ⊢
  have hl : lv_has ls 4 [(0, .ref (ad 0)), (1, .int p0), (2, .int p1)] := hl
  unfold sX7_sets at hsem
  refine lv_aload_n hx hb dX7_sets_0 rfl (lv_at hl 0 rfl) ?_
  refine lv_iconst (v := 0) hx hb dX7_sets_1 (by decide) ?_
  refine va_put (D := g.1) (ci := 7) (v := .int 0) (ty := .int) (C := RX7) (T := TX7) (N := 26) hx hb (dr_words hts d) (fun w h => List.mem_cons_of_mem _ (List.mem_append_right _ h)) tyX7 tyX7_ok nmX7 (hown d) (hK d) hP hD hS 0 rfl rfl 0 (by decide) ((dr_words hts d) (.fieldLink RX7 55 "PauseRegionsModel" "thrown" "I") (List.mem_of_getElem? (i := 1) rfl)) (fun _ h9 => h9) rfl (by decide +kernel) rfl rfl (Nat.le_of_ble_eq_true rfl) dX7_sets_2 (fun H locs hP hD hS => ?_)
  obtain ⟨A1, eA1, hsem⟩ := bd_some hsem
  have hP : va_P g.1 vwCl (wM g ad A1 F) H := by rw [eA1]; exact hP
  have hD : va_D Z (wM g ad A1 F) := by rw [eA1]; exact hD
  refine lv_iload_n hx hb dX7_sets_5 rfl (lv_at hl 1 rfl) ?_
  obtain ⟨x1, hc1, hsem⟩ := bn_some hsem
  refine pcS (As := [.int p0]) (rest := []) ⟨hx, hb, hml, (hown d), (dr_words hts d)⟩ (hKK.drawn d) (va_cwS 1 (dr_words hts d) gX7_sets_X7_isRoot rfl rfl rfl hdX7_isRoot ⟨Nat.le_of_ble_eq_true rfl, Nat.le_of_ble_eq_true rfl⟩) (kX7_isRoot (l := l) (g := g) hc1) rfl hl.1 rfl (Nat.le_of_ble_eq_true rfl) dX7_sets_6 ⟨Nat.zero_le _, Nat.zero_le _⟩ ?_
  refine lv_if_eq (tgt := 21) hx hb dX7_sets_9 (by decide) (fun c1 => ?_) (fun c1 => ?_)
  · rw [if_pos c1] at hsem
    refine lv_iconst (v := (-1)) hx hb dX7_sets_21 (by decide) ?_
    have eo := (Option.some.inj hsem).symm.symm
    refine W.endD hdr ?_
    subst eo
    exact W.iret (v := (-1)) hx hb hr (fun t ht hW => ⟨⟨_, F, rfl, ⟨rfl, hAL⟩, ⟨by rw [ht]; exact hP, hD⟩⟩, hS.F ht⟩) hS.2.2 dX7_sets_22
  · rw [if_neg c1] at hsem
    refine lv_iload_n hx hb dX7_sets_12 rfl (lv_at hl 2 rfl) ?_
    refine lv_iconst (v := (-1)) hx hb dX7_sets_13 (by decide) ?_
    refine lv_iconst (v := 5) hx hb dX7_sets_14 (by decide) ?_
    obtain ⟨x2, hc2, hsem⟩ := bn_some hsem
    refine pcS (As := [.int p1, .int (-1), .int 5]) (rest := []) ⟨hx, hb, hml, (hown d), (dr_words hts d)⟩ (hKK.drawn d) (va_cwS 3 (dr_words hts d) gX7_sets_X7_in rfl rfl rfl hdX7_in ⟨Nat.le_of_ble_eq_true rfl, Nat.le_of_ble_eq_true rfl⟩) (kX7_in (l := l) (g := g) hc2) rfl hl.1 rfl (Nat.le_of_ble_eq_true rfl) dX7_sets_15 ⟨Nat.zero_le _, Nat.zero_le _⟩ ?_
    refine lv_if_ne (tgt := 23) hx hb dX7_sets_18 (by decide) (fun c2 => ?_) (fun c2 => ?_)
    · rw [if_neg c2] at hsem
      refine lv_aload_n hx hb dX7_sets_23 rfl (lv_at hl 0 rfl) ?_
      obtain ⟨z1, hc3, hsem⟩ := bn_some hsem
      refine dcV (C := RX7) (As := []) (rest := []) hdr ⟨hx, hb, hml, (hown d), (dr_words hts d)⟩ (hKK.drawn d) hP hD hS hZ (cwV 0 (dr_words hts d) gX7_sets_X7_notes rfl rfl rfl hdX7_notes ⟨Nat.le_of_ble_eq_true rfl, Nat.le_of_ble_eq_true rfl⟩) (kX7_notes (l := l) (g := g) (ad := ad) (A := A1) (F := F) (Fc := Fc) hAL hc3) (va_recv (hK d) hP (ci := 7) (q0 := 0) rfl rfl) rfl hl.1 rfl (Nat.le_of_ble_eq_true rfl) dX7_sets_24 ⟨Nat.zero_le _, Nat.zero_le _⟩ (fun u1 H locs d hpo hP hD hS hdr => ?_)
      have hq1 := hpo
      have hP : va_P g.1 vwCl (wM g ad z1.1 u1) H := hP
      have hD : va_D Z (wM g ad z1.1 u1) := hD
      refine lv_aload_n hx hb dX7_sets_27 rfl (lv_at hl 0 rfl) ?_
      refine va_get (D := g.1) (ci := 7) (v := .ref (ad 1)) (C := RX7) (T := TX7) (N := 26) hx hb (dr_words hts d) (fun w h => List.mem_cons_of_mem _ (List.mem_append_right _ h)) (hown d) (hK d) hP 0 rfl rfl 1 (by decide) ((dr_words hts d) (.fieldLink RX7 7 "PauseRegionsModel" "s" "[I") (List.mem_of_getElem? (i := 2) rfl)) (fun _ h9 => h9) rfl dX7_sets_28 ?_
      refine lv_sipush (v := 192) hx hb dX7_sets_31 (by decide) ?_
      refine lv_iload_n hx hb dX7_sets_34 rfl (lv_at hl 1 rfl) ?_
      refine lv_iadd hx hb dX7_sets_35 ?_
      obtain ⟨h1, hsem⟩ := ck_some hsem
      refine va_iald (D := g.1) hx hb (hK d) hP 1 0 rfl rfl h1 dX7_sets_36 ?_
      obtain ⟨x3, ex3, hsem⟩ := bd_some hsem
      rw [← ex3]
      refine lv_istore_n (lv' := [(3, .int x3), (0, .ref (ad 0)), (1, .int p0), (2, .int p1)]) hx hb dX7_sets_37 rfl hl (by decide) rfl (fun ls hl => ?_)
      refine lv_aload_n hx hb dX7_sets_38 rfl (lv_at hl 1 rfl) ?_
      refine va_get (D := g.1) (ci := 7) (v := .ref (ad 1)) (C := RX7) (T := TX7) (N := 26) hx hb (dr_words hts d) (fun w h => List.mem_cons_of_mem _ (List.mem_append_right _ h)) (hown d) (hK d) hP 0 rfl rfl 1 (by decide) ((dr_words hts d) (.fieldLink RX7 7 "PauseRegionsModel" "s" "[I") (List.mem_of_getElem? (i := 2) rfl)) (fun _ h9 => h9) rfl dX7_sets_39 ?_
      refine lv_sipush (v := 192) hx hb dX7_sets_42 (by decide) ?_
      refine lv_iload_n hx hb dX7_sets_45 rfl (lv_at hl 2 rfl) ?_
      refine lv_iadd hx hb dX7_sets_46 ?_
      refine lv_iload_n hx hb dX7_sets_47 rfl (lv_at hl 3 rfl) ?_
      refine lv_if_ge (tgt := 56) hx hb dX7_sets_48 (by decide) (fun c3 => ?_) (fun c3 => ?_)
      · rw [if_pos c3] at hsem
        refine lv_aload_n hx hb dX7_sets_56 rfl (lv_at hl 1 rfl) ?_
        refine va_get (D := g.1) (ci := 7) (v := .ref (ad 1)) (C := RX7) (T := TX7) (N := 26) hx hb (dr_words hts d) (fun w h => List.mem_cons_of_mem _ (List.mem_append_right _ h)) (hown d) (hK d) hP 0 rfl rfl 1 (by decide) ((dr_words hts d) (.fieldLink RX7 7 "PauseRegionsModel" "s" "[I") (List.mem_of_getElem? (i := 2) rfl)) (fun _ h9 => h9) rfl dX7_sets_57 ?_
        refine lv_sipush (v := 192) hx hb dX7_sets_60 (by decide) ?_
        refine lv_iload_n hx hb dX7_sets_63 rfl (lv_at hl 3 rfl) ?_
        refine lv_iadd hx hb dX7_sets_64 ?_
        obtain ⟨h2, hsem⟩ := ck_some hsem
        refine va_iald (D := g.1) hx hb (hK d) hP 1 0 rfl rfl h2 dX7_sets_65 ?_
        obtain ⟨h3, hsem⟩ := ck_some hsem
        refine va_iast (D := g.1) hx hb (hK d) hP hD hS 1 0 rfl rfl h3 dX7_sets_66 (fun H locs hP hD hS => ?_)
        obtain ⟨A2, eA2, hsem⟩ := bd_some hsem
        have hP : va_P g.1 vwCl (wM g ad A2 u1) H := by rw [eA2]; exact hP
        have hD : va_D Z (wM g ad A2 u1) := by rw [eA2]; exact hD
        refine lv_iload_n hx hb dX7_sets_67 rfl (lv_at hl 0 rfl) ?_
        have eo := (Option.some.inj hsem).symm.symm
        refine W.endD hdr ?_
        subst eo
        exact W.iret (v := x3) hx hb hr (fun t ht hW => ⟨⟨_, u1, rfl, ⟨rfl, hq1⟩, ⟨by rw [ht]; exact hP, hD⟩⟩, hS.F ht⟩) hS.2.2 dX7_sets_68
      · rw [if_neg c3] at hsem
        refine lv_bipush (v := (-5)) hx hb dX7_sets_51 (by decide) ?_
        refine lv_goto (tgt := 66) hx hb dX7_sets_53 (by decide) ?_
        obtain ⟨h4, hsem⟩ := ck_some hsem
        refine va_iast (D := g.1) hx hb (hK d) hP hD hS 1 0 rfl rfl h4 dX7_sets_66 (fun H locs hP hD hS => ?_)
        obtain ⟨A3, eA3, hsem⟩ := bd_some hsem
        have hP : va_P g.1 vwCl (wM g ad A3 u1) H := by rw [eA3]; exact hP
        have hD : va_D Z (wM g ad A3 u1) := by rw [eA3]; exact hD
        refine lv_iload_n hx hb dX7_sets_67 rfl (lv_at hl 0 rfl) ?_
        have eo := (Option.some.inj hsem).symm.symm
        refine W.endD hdr ?_
        subst eo
        exact W.iret (v := x3) hx hb hr (fun t ht hW => ⟨⟨_, u1, rfl, ⟨rfl, hq1⟩, ⟨by rw [ht]; exact hP, hD⟩⟩, hS.F ht⟩) hS.2.2 dX7_sets_68
    · rw [if_pos c2] at hsem
      refine lv_iconst (v := (-1)) hx hb dX7_sets_21 (by decide) ?_
      have eo := (Option.some.inj hsem).symm.symm
      refine W.endD hdr ?_
      subst eo
      exact W.iret (v := (-1)) hx hb hr (fun t ht hW => ⟨⟨_, F, rfl, ⟨rfl, hAL⟩, ⟨by rw [ht]; exact hP, hD⟩⟩, hS.F ht⟩) hS.2.2 dX7_sets_22
def sX7_step (A : IA) : Option (IA) :=
  bd ((A 1) (Int32.toNatClampNeg 259)) fun x1 => (sX7_leaves A 259 291 0).bind fun z1 => ck ((6 * x1) + 5) 296 (bd (wr z1 1 (((6 * x1) + 5).toNatClampNeg) 2) fun A1 => (sX7_ofThing A1 x1 3).bind fun x2 => (sX7_becomesGrey A1 x2).bind fun z2 => (sX7_ofThing z2 x1 4).bind fun x3 => (sX7_becomesGrey z2 x3).bind fun z3 => if ((z3 1) (Int32.toNatClampNeg 291)) = 0 then ((sX7_ends z3).bind fun z4 => some z4) else (some z3))
abbrev rmX7_step : Room := { frames := 5, cells := 0, slots := 0, locals := 113 }
theorem hdX7_step : yX7_step.cls = RX7 ∧ yX7_step.cls ≠ "java/lang/invoke/MethodHandle" ∧ yX7_step.cls ≠ "java/lang/invoke/VarHandle" ∧ (parseMethodDescriptor yX7_step.desc).map (fun d => d.parameters.length) = some 0 := by decide +kernel
set_option maxHeartbeats 4000000 in
set_option maxRecDepth 100000 in
theorem kX7_step {l : Launch} {g : GG} {sz : Nat} {ad : Nat → Nat} {A : IA} {F : FA} {b : IA} (hsem : sX7_step A = some b) : MetV l yX7_step wsX7_step rmX7_step g [.ref (ad 0)] (wM g ad A F) sz (wM g ad b F) := by
  refine Met.ofW (cc := cX7_step) (maxL := 2) (ret := none) (by decide) rfl ?_
  intro p e s m args below meth c s₁ B hml hv
  obtain ⟨rfl, hsz, hP, hD0, hKK⟩ := hv
  subst hsz
  have hx := B.exec
  have hb := B.bytes
  have hr := B.returns
  have hts := atoms_spec (ws := wsX7_step) B.pre
  have hown : s.vm.findClass RX7 = some m.cls := findClass_of_methodNamed B.named
  have hlocks := B.notSynchronized
  have hK := hKK.1
  have hD := hD0.self (sz := s.heap.size)
  generalize hZe : va_A (wM g ad A F) s.heap.size = Z at hD ⊢
  have hZ : ∀ q : Nat, s.heap.size ≤ q → Z q := fun q h => by rw [← hZe]; exact Or.inr h
  have hS : va_S Z s.heap s.heap [] := va_S.rf
  have hP : va_P g.1 vwCl (wM g ad A F) s.heap := hP
  have hD : va_D Z (wM g ad A F) := hD
  have hl := lv_entry ([.ref (ad 0)]) (n := 2) (Nat.le_of_ble_eq_true rfl)
  rw [lg_entry_eq]
  generalize (lg_sl ([.ref (ad 0)]) ++ List.replicate (2 - (lg_sl ([.ref (ad 0)])).length) Slot.unset).toArray = ls at hl ⊢
  have hl : lv_has ls 2 [(0, .ref (ad 0))] := hl
  unfold sX7_step at hsem
  refine lv_aload_n hx hb dX7_step_0 rfl (lv_at hl 0 rfl) ?_
  refine va_get (D := g.1) (ci := 7) (v := .ref (ad 1)) (C := RX7) (T := TX7) (N := 26) hx hb hts (fun w h => List.mem_cons_of_mem _ (List.mem_append_right _ h)) hown hK hP 0 rfl rfl 1 (by decide) (hts (.fieldLink RX7 7 "PauseRegionsModel" "s" "[I") (List.mem_of_getElem? (i := 1) rfl)) (fun _ h9 => h9) rfl dX7_step_1 ?_
  refine lv_sipush (v := 259) hx hb dX7_step_4 (by decide) ?_
  have h1 : vp_in 259 296 := inb_vp rfl
  refine va_iald (D := g.1) hx hb hK hP 1 0 rfl rfl h1 dX7_step_7 ?_
  obtain ⟨x1, ex1, hsem⟩ := bd_some hsem
  rw [← ex1]
  refine lv_istore_n (lv' := [(1, .int x1), (0, .ref (ad 0))]) hx hb dX7_step_8 rfl hl (by decide) rfl (fun ls hl => ?_)
  refine lv_aload_n hx hb dX7_step_9 rfl (lv_at hl 1 rfl) ?_
  refine lv_sipush (v := 259) hx hb dX7_step_10 (by decide) ?_
  refine lv_sipush (v := 291) hx hb dX7_step_13 (by decide) ?_
  refine lv_iconst (v := 0) hx hb dX7_step_16 (by decide) ?_
  obtain ⟨z1, hc1, hsem⟩ := bn_some hsem
  refine mcV (C := RX7) (As := [.int 259, .int 291, .int 0]) (rest := []) ⟨hx, hb, hml, hown, hts⟩ hKK hP hD hS hZ (cwV 3 hts gX7_step_X7_leaves rfl rfl rfl hdX7_leaves ⟨Nat.le_of_ble_eq_true rfl, Nat.le_of_ble_eq_true rfl⟩) (kX7_leaves (l := l) (g := g) (ad := ad) (A := A) (F := F) hc1) (va_recv hK hP (ci := 7) (q0 := 0) rfl rfl) rfl hl.1 rfl (Nat.le_of_ble_eq_true rfl) dX7_step_17 ⟨Nat.zero_le _, Nat.zero_le _⟩ (fun H locs hP hD hS => ?_)
  have hP : va_P g.1 vwCl (wM g ad z1 F) H := hP
  have hD : va_D Z (wM g ad z1 F) := hD
  refine lv_aload_n hx hb dX7_step_20 rfl (lv_at hl 1 rfl) ?_
  refine va_get (D := g.1) (ci := 7) (v := .ref (ad 1)) (C := RX7) (T := TX7) (N := 26) hx hb hts (fun w h => List.mem_cons_of_mem _ (List.mem_append_right _ h)) hown hK hP 0 rfl rfl 1 (by decide) (hts (.fieldLink RX7 7 "PauseRegionsModel" "s" "[I") (List.mem_of_getElem? (i := 1) rfl)) (fun _ h9 => h9) rfl dX7_step_21 ?_
  refine lv_bipush (v := 6) hx hb dX7_step_24 (by decide) ?_
  refine lv_iload_n hx hb dX7_step_26 rfl (lv_at hl 0 rfl) ?_
  refine lv_imul hx hb dX7_step_27 ?_
  refine lv_iconst (v := 5) hx hb dX7_step_28 (by decide) ?_
  refine lv_iadd hx hb dX7_step_29 ?_
  refine lv_iconst (v := 2) hx hb dX7_step_30 (by decide) ?_
  obtain ⟨h2, hsem⟩ := ck_some hsem
  refine va_iast (D := g.1) hx hb hK hP hD hS 1 0 rfl rfl h2 dX7_step_31 (fun H locs hP hD hS => ?_)
  obtain ⟨A1, eA1, hsem⟩ := bd_some hsem
  have hP : va_P g.1 vwCl (wM g ad A1 F) H := by rw [eA1]; exact hP
  have hD : va_D Z (wM g ad A1 F) := by rw [eA1]; exact hD
  refine lv_aload_n hx hb dX7_step_32 rfl (lv_at hl 1 rfl) ?_
  refine lv_aload_n hx hb dX7_step_33 rfl (lv_at hl 1 rfl) ?_
  refine lv_iload_n hx hb dX7_step_34 rfl (lv_at hl 0 rfl) ?_
  refine lv_iconst (v := 3) hx hb dX7_step_35 (by decide) ?_
  obtain ⟨x2, hc2, hsem⟩ := bn_some hsem
  refine pcV (C := RX7) (As := [.int x1, .int 3]) (rest := [.ref (ad 0)]) ⟨hx, hb, hml, hown, hts⟩ hKK (cwV 2 hts gX7_step_X7_ofThing rfl rfl rfl hdX7_ofThing ⟨Nat.le_of_ble_eq_true rfl, Nat.le_of_ble_eq_true rfl⟩) (kX7_ofThing (l := l) (g := g) hP hc2) (va_recv hK hP (ci := 7) (q0 := 0) rfl rfl) rfl hl.1 rfl (Nat.le_of_ble_eq_true rfl) dX7_step_36 ⟨Nat.zero_le _, Nat.zero_le _⟩ ?_
  obtain ⟨z2, hc3, hsem⟩ := bn_some hsem
  refine mcV (C := RX7) (As := [.int x2]) (rest := []) ⟨hx, hb, hml, hown, hts⟩ hKK hP hD hS hZ (cwV 1 hts gX7_step_X7_becomesGrey rfl rfl rfl hdX7_becomesGrey ⟨Nat.le_of_ble_eq_true rfl, Nat.le_of_ble_eq_true rfl⟩) (kX7_becomesGrey (l := l) (g := g) (ad := ad) (A := A1) (F := F) hc3) (va_recv hK hP (ci := 7) (q0 := 0) rfl rfl) rfl hl.1 rfl (Nat.le_of_ble_eq_true rfl) dX7_step_39 ⟨Nat.zero_le _, Nat.zero_le _⟩ (fun H locs hP hD hS => ?_)
  have hP : va_P g.1 vwCl (wM g ad z2 F) H := hP
  have hD : va_D Z (wM g ad z2 F) := hD
  refine lv_aload_n hx hb dX7_step_42 rfl (lv_at hl 1 rfl) ?_
  refine lv_aload_n hx hb dX7_step_43 rfl (lv_at hl 1 rfl) ?_
  refine lv_iload_n hx hb dX7_step_44 rfl (lv_at hl 0 rfl) ?_
  refine lv_iconst (v := 4) hx hb dX7_step_45 (by decide) ?_
  obtain ⟨x3, hc4, hsem⟩ := bn_some hsem
  refine pcV (C := RX7) (As := [.int x1, .int 4]) (rest := [.ref (ad 0)]) ⟨hx, hb, hml, hown, hts⟩ hKK (cwV 2 hts gX7_step_X7_ofThing rfl rfl rfl hdX7_ofThing ⟨Nat.le_of_ble_eq_true rfl, Nat.le_of_ble_eq_true rfl⟩) (kX7_ofThing (l := l) (g := g) hP hc4) (va_recv hK hP (ci := 7) (q0 := 0) rfl rfl) rfl hl.1 rfl (Nat.le_of_ble_eq_true rfl) dX7_step_46 ⟨Nat.zero_le _, Nat.zero_le _⟩ ?_
  obtain ⟨z3, hc5, hsem⟩ := bn_some hsem
  refine mcV (C := RX7) (As := [.int x3]) (rest := []) ⟨hx, hb, hml, hown, hts⟩ hKK hP hD hS hZ (cwV 1 hts gX7_step_X7_becomesGrey rfl rfl rfl hdX7_becomesGrey ⟨Nat.le_of_ble_eq_true rfl, Nat.le_of_ble_eq_true rfl⟩) (kX7_becomesGrey (l := l) (g := g) (ad := ad) (A := z2) (F := F) hc5) (va_recv hK hP (ci := 7) (q0 := 0) rfl rfl) rfl hl.1 rfl (Nat.le_of_ble_eq_true rfl) dX7_step_49 ⟨Nat.zero_le _, Nat.zero_le _⟩ (fun H locs hP hD hS => ?_)
  have hP : va_P g.1 vwCl (wM g ad z3 F) H := hP
  have hD : va_D Z (wM g ad z3 F) := hD
  refine lv_aload_n hx hb dX7_step_52 rfl (lv_at hl 1 rfl) ?_
  refine va_get (D := g.1) (ci := 7) (v := .ref (ad 1)) (C := RX7) (T := TX7) (N := 26) hx hb hts (fun w h => List.mem_cons_of_mem _ (List.mem_append_right _ h)) hown hK hP 0 rfl rfl 1 (by decide) (hts (.fieldLink RX7 7 "PauseRegionsModel" "s" "[I") (List.mem_of_getElem? (i := 1) rfl)) (fun _ h9 => h9) rfl dX7_step_53 ?_
  refine lv_sipush (v := 291) hx hb dX7_step_56 (by decide) ?_
  have h3 : vp_in 291 296 := inb_vp rfl
  refine va_iald (D := g.1) hx hb hK hP 1 0 rfl rfl h3 dX7_step_59 ?_
  refine lv_if_ne (tgt := 67) hx hb dX7_step_60 (by decide) (fun c1 => ?_) (fun c1 => ?_)
  · rw [if_neg c1] at hsem
    have eo := (Option.some.inj hsem).symm.symm
    subst eo
    exact W.vret hx hb hr (fun t ht hW => ⟨⟨(), rfl, trivial, ⟨by rw [ht]; exact hP, hD⟩⟩, hS.F ht⟩) hS.2.2 dX7_step_67
  · rw [if_pos c1] at hsem
    refine lv_aload_n hx hb dX7_step_63 rfl (lv_at hl 1 rfl) ?_
    obtain ⟨z4, hc6, hsem⟩ := bn_some hsem
    refine mcV (C := RX7) (As := []) (rest := []) ⟨hx, hb, hml, hown, hts⟩ hKK hP hD hS hZ (cwV 0 hts gX7_step_X7_ends rfl rfl rfl hdX7_ends ⟨Nat.le_of_ble_eq_true rfl, Nat.le_of_ble_eq_true rfl⟩) (kX7_ends (l := l) (g := g) (ad := ad) (A := z3) (F := F) hc6) (va_recv hK hP (ci := 7) (q0 := 0) rfl rfl) rfl hl.1 rfl (Nat.le_of_ble_eq_true rfl) dX7_step_64 ⟨Nat.zero_le _, Nat.zero_le _⟩ (fun H locs hP hD hS => ?_)
    have hP : va_P g.1 vwCl (wM g ad z4 F) H := hP
    have hD : va_D Z (wM g ad z4 F) := hD
    have eo := (Option.some.inj hsem).symm.symm
    subst eo
    exact W.vret hx hb hr (fun t ht hW => ⟨⟨(), rfl, trivial, ⟨by rw [ht]; exact hP, hD⟩⟩, hS.F ht⟩) hS.2.2 dX7_step_67
def sX7_steps_L37 (p0 : Int32) (q1 : Int32 × IA) : Option ((Int32 × IA) ⊕ (IA)) :=
  if p0 ≤ q1.1 then (some (.inr q1.2)) else (if ((q1.2 1) (Int32.toNatClampNeg 292)) = 1 then ((sX7_step q1.2).bind fun z2 => some (.inl (q1.1 + 1, z2))) else (some (.inr q1.2)))
def sX7_steps (A : IA) (Fc : FA) (p0 : Int32) : Option (Int32 × IA × FA) :=
  bd (sc A 0 0) fun A1 => (sX7_in p0 1 32).bind fun x1 => if x1 = 0 then (some (((-1), A1, Fc))) else (if ((A1 1) (Int32.toNatClampNeg 292)) = 0 then (some (((-2), A1, Fc))) else ((sX7_notes A1 Fc).bind fun z1 => (loopN (sX7_steps_L37 p0) 2000 (0, z1.1)).bind fun q2 => some (((q2 1) (Int32.toNatClampNeg 291), q2, z1.2))))
abbrev rmX7_steps : Room := { frames := 6, cells := 0, slots := 0, locals := 134 }
theorem hdX7_steps : yX7_steps.cls = RX7 ∧ yX7_steps.cls ≠ "java/lang/invoke/MethodHandle" ∧ yX7_steps.cls ≠ "java/lang/invoke/VarHandle" ∧ (parseMethodDescriptor yX7_steps.desc).map (fun d => d.parameters.length) = some 1 := by decide +kernel
set_option maxHeartbeats 4000000 in
set_option maxRecDepth 100000 in
theorem kX7_steps {l : Launch} {g : GG} {sz : Nat} {ad : Nat → Nat} {A : IA} {F : FA} {p0 : Int32} {Fc : FA} (hAL : AL F Fc) {b : Int32 × IA × FA} (hsem : sX7_steps A Fc p0 = some b) : MetDI l yX7_steps wsX7_steps rmX7_steps g [.ref (ad 0), .int p0] (wM g ad A F) sz b.1 (φ := FA) (fun u => AL u b.2.2) (fun u => wM g ad b.2.1 u) := by
  refine MetD.ofW (cc := cX7_steps) (maxL := 3) (ret := (some .int)) (by decide) rfl ?_
  intro p e s m args below meth c s₁ B hml hv hdr
  obtain ⟨rfl, hsz, hP, hD0, hKK⟩ := hv
  subst hsz
  have hx := B.exec
  have hb := B.bytes
  have hr := B.returns
  have hts := atoms_spec (ws := wsX7_steps) B.pre
  have hown : ∀ d, (s.setDrawn d).vm.findClass RX7 = some m.cls := fun _ => findClass_of_methodNamed B.named
  have hlocks := B.notSynchronized
  have hK : ∀ d, va_K g.1 vwCl (KT g) (s.setDrawn d) := fun d => (hKK.drawn d).1
  have hD := hD0.self (sz := s.heap.size)
  generalize hZe : va_A (wM g ad A F) s.heap.size = Z at hD ⊢
  have hZ : ∀ q : Nat, s.heap.size ≤ q → Z q := fun q h => by rw [← hZe]; exact Or.inr h
  have hS : va_S Z s.heap s.heap [] := va_S.rf
  have hP : va_P g.1 vwCl (wM g ad A F) s.heap := hP
  have hD : va_D Z (wM g ad A F) := hD
  obtain ⟨d, hdr, hdd⟩ : ∃ d, s.drawn.sameBut d lw_cs ∧ s.drawn = d := ⟨_, hdr, rfl⟩
  rw [hdd]
  have hl := lv_entry ([.ref (ad 0), .int p0]) (n := 3) (Nat.le_of_ble_eq_true rfl)
  rw [lg_entry_eq]
  generalize (lg_sl ([.ref (ad 0), .int p0]) ++ List.replicate (3 - (lg_sl ([.ref (ad 0), .int p0])).length) Slot.unset).toArray = ls at hl ⊢
  have hl : lv_has ls 3 [(0, .ref (ad 0)), (1, .int p0)] := hl
  unfold sX7_steps at hsem
  refine lv_aload_n hx hb dX7_steps_0 rfl (lv_at hl 0 rfl) ?_
  refine lv_iconst (v := 0) hx hb dX7_steps_1 (by decide) ?_
  refine va_put (D := g.1) (ci := 7) (v := .int 0) (ty := .int) (C := RX7) (T := TX7) (N := 26) hx hb (dr_words hts d) (fun w h => List.mem_cons_of_mem _ (List.mem_append_right _ h)) tyX7 tyX7_ok nmX7 (hown d) (hK d) hP hD hS 0 rfl rfl 0 (by decide) ((dr_words hts d) (.fieldLink RX7 55 "PauseRegionsModel" "thrown" "I") (List.mem_of_getElem? (i := 1) rfl)) (fun _ h9 => h9) rfl (by decide +kernel) rfl rfl (Nat.le_of_ble_eq_true rfl) dX7_steps_2 (fun H locs hP hD hS => ?_)
  obtain ⟨A1, eA1, hsem⟩ := bd_some hsem
  have hP : va_P g.1 vwCl (wM g ad A1 F) H := by rw [eA1]; exact hP
  have hD : va_D Z (wM g ad A1 F) := by rw [eA1]; exact hD
  refine lv_iload_n hx hb dX7_steps_5 rfl (lv_at hl 1 rfl) ?_
  refine lv_iconst (v := 1) hx hb dX7_steps_6 (by decide) ?_
  refine lv_bipush (v := 32) hx hb dX7_steps_7 (by decide) ?_
  obtain ⟨x1, hc1, hsem⟩ := bn_some hsem
  refine pcS (As := [.int p0, .int 1, .int 32]) (rest := []) ⟨hx, hb, hml, (hown d), (dr_words hts d)⟩ (hKK.drawn d) (va_cwS 3 (dr_words hts d) gX7_steps_X7_in rfl rfl rfl hdX7_in ⟨Nat.le_of_ble_eq_true rfl, Nat.le_of_ble_eq_true rfl⟩) (kX7_in (l := l) (g := g) hc1) rfl hl.1 rfl (Nat.le_of_ble_eq_true rfl) dX7_steps_9 ⟨Nat.zero_le _, Nat.zero_le _⟩ ?_
  refine lv_if_ne (tgt := 17) hx hb dX7_steps_12 (by decide) (fun c1 => ?_) (fun c1 => ?_)
  · rw [if_neg c1] at hsem
    refine lv_aload_n hx hb dX7_steps_17 rfl (lv_at hl 0 rfl) ?_
    refine va_get (D := g.1) (ci := 7) (v := .ref (ad 1)) (C := RX7) (T := TX7) (N := 26) hx hb (dr_words hts d) (fun w h => List.mem_cons_of_mem _ (List.mem_append_right _ h)) (hown d) (hK d) hP 0 rfl rfl 1 (by decide) ((dr_words hts d) (.fieldLink RX7 7 "PauseRegionsModel" "s" "[I") (List.mem_of_getElem? (i := 2) rfl)) (fun _ h9 => h9) rfl dX7_steps_18 ?_
    refine lv_sipush (v := 292) hx hb dX7_steps_21 (by decide) ?_
    have h1 : vp_in 292 296 := inb_vp rfl
    refine va_iald (D := g.1) hx hb (hK d) hP 1 0 rfl rfl h1 dX7_steps_24 ?_
    refine lv_if_ne (tgt := 31) hx hb dX7_steps_25 (by decide) (fun c2 => ?_) (fun c2 => ?_)
    · rw [if_neg c2] at hsem
      refine lv_aload_n hx hb dX7_steps_31 rfl (lv_at hl 0 rfl) ?_
      obtain ⟨z1, hc2, hsem⟩ := bn_some hsem
      refine dcV (C := RX7) (As := []) (rest := []) hdr ⟨hx, hb, hml, (hown d), (dr_words hts d)⟩ (hKK.drawn d) hP hD hS hZ (cwV 0 (dr_words hts d) gX7_steps_X7_notes rfl rfl rfl hdX7_notes ⟨Nat.le_of_ble_eq_true rfl, Nat.le_of_ble_eq_true rfl⟩) (kX7_notes (l := l) (g := g) (ad := ad) (A := A1) (F := F) (Fc := Fc) hAL hc2) (va_recv (hK d) hP (ci := 7) (q0 := 0) rfl rfl) rfl hl.1 rfl (Nat.le_of_ble_eq_true rfl) dX7_steps_32 ⟨Nat.zero_le _, Nat.zero_le _⟩ (fun u1 H locs d hpo hP hD hS hdr => ?_)
      have hq1 := hpo
      have hP : va_P g.1 vwCl (wM g ad z1.1 u1) H := hP
      have hD : va_D Z (wM g ad z1.1 u1) := hD
      refine lv_iconst (v := 0) hx hb dX7_steps_35 (by decide) ?_
      refine lv_istore_n (lv' := [(2, .int 0), (0, .ref (ad 0)), (1, .int p0)]) hx hb dX7_steps_36 rfl hl (by decide) rfl (fun ls hl => ?_)
      obtain ⟨q2, hc4, hsem⟩ := bn_some hsem
      refine loopMD (g := g) hdr hc4 (fun (q1 : Int32 × IA) => [(2, .int q1.1), (0, .ref (ad 0)), (1, .int p0)]) (fun (q1 : IA) => [(0, .ref (ad 0))]) (exit := 64) (fun (q1 : Int32 × IA) (fz1 : Unit) => wM g ad q1.2 u1) (fun (q1 : IA) (fz1 : Unit) => wM g ad q1 u1) (fun (_ : Int32 × IA) (_ : Unit) => True) (fun (_ : IA) (_ : Unit) => True) () trivial hP hD hS (lv_sub hl [0, 1, 2] rfl) (fun d H locs ls fz1 hdr hrfz1 hP hD hS hl => ?_) (fun q1 r hst1 hin1 hout1 d H locs ls fz1 hdr hrfz1 hP hD hS hl => ?_)
      · have hP : va_P g.1 vwCl (wM g ad q2 u1) H := hP
        have hD : va_D Z (wM g ad q2 u1) := hD
        refine lv_aload_n hx hb dX7_steps_64 rfl (lv_at hl 0 rfl) ?_
        refine va_get (D := g.1) (ci := 7) (v := .ref (ad 1)) (C := RX7) (T := TX7) (N := 26) hx hb (dr_words hts d) (fun w h => List.mem_cons_of_mem _ (List.mem_append_right _ h)) (hown d) (hK d) hP 0 rfl rfl 1 (by decide) ((dr_words hts d) (.fieldLink RX7 7 "PauseRegionsModel" "s" "[I") (List.mem_of_getElem? (i := 2) rfl)) (fun _ h9 => h9) rfl dX7_steps_65 ?_
        refine lv_sipush (v := 291) hx hb dX7_steps_68 (by decide) ?_
        have h3 : vp_in 291 296 := inb_vp rfl
        refine va_iald (D := g.1) hx hb (hK d) hP 1 0 rfl rfl h3 dX7_steps_71 ?_
        have eo := (Option.some.inj hsem).symm.symm
        refine W.endD hdr ?_
        subst eo
        exact W.iret (v := (q2 1) (Int32.toNatClampNeg 291)) hx hb hr (fun t ht hW => ⟨⟨_, u1, rfl, ⟨rfl, hq1⟩, ⟨by rw [ht]; exact hP, hD⟩⟩, hS.F ht⟩) hS.2.2 dX7_steps_72
      · unfold sX7_steps_L37 at hst1
        have hP : va_P g.1 vwCl (wM g ad q1.2 u1) H := hP
        have hD : va_D Z (wM g ad q1.2 u1) := hD
        refine lv_iload_n hx hb dX7_steps_37 rfl (lv_at hl 0 rfl) ?_
        refine lv_iload_n hx hb dX7_steps_38 rfl (lv_at hl 2 rfl) ?_
        refine lv_icmp_ge (tgt := 64) hx hb dX7_steps_39 (by decide) (fun c3 => ?_) (fun c3 => ?_)
        · rw [if_pos c3] at hst1
          exact hout1 _ H locs ls () _ (Option.some.inj hst1).symm hdr trivial hP hD hS (lv_sub hl [1] rfl)
        · rw [if_neg c3] at hst1
          refine lv_aload_n hx hb dX7_steps_42 rfl (lv_at hl 1 rfl) ?_
          refine va_get (D := g.1) (ci := 7) (v := .ref (ad 1)) (C := RX7) (T := TX7) (N := 26) hx hb (dr_words hts d) (fun w h => List.mem_cons_of_mem _ (List.mem_append_right _ h)) (hown d) (hK d) hP 0 rfl rfl 1 (by decide) ((dr_words hts d) (.fieldLink RX7 7 "PauseRegionsModel" "s" "[I") (List.mem_of_getElem? (i := 2) rfl)) (fun _ h9 => h9) rfl dX7_steps_43 ?_
          refine lv_sipush (v := 292) hx hb dX7_steps_46 (by decide) ?_
          have h2 : vp_in 292 296 := inb_vp rfl
          refine va_iald (D := g.1) hx hb (hK d) hP 1 0 rfl rfl h2 dX7_steps_49 ?_
          refine lv_iconst (v := 1) hx hb dX7_steps_50 (by decide) ?_
          refine lv_icmp_ne (tgt := 64) hx hb dX7_steps_51 (by decide) (fun c4 => ?_) (fun c4 => ?_)
          · rw [if_neg c4] at hst1
            exact hout1 _ H locs ls () _ (Option.some.inj hst1).symm hdr trivial hP hD hS (lv_sub hl [1] rfl)
          · rw [if_pos c4] at hst1
            refine lv_aload_n hx hb dX7_steps_54 rfl (lv_at hl 1 rfl) ?_
            obtain ⟨z2, hc3, hst1⟩ := bn_some hst1
            refine mcV (C := RX7) (As := []) (rest := []) ⟨hx, hb, hml, (hown d), (dr_words hts d)⟩ (hKK.drawn d) hP hD hS hZ (cwV 0 (dr_words hts d) gX7_steps_X7_step rfl rfl rfl hdX7_step ⟨Nat.le_of_ble_eq_true rfl, Nat.le_of_ble_eq_true rfl⟩) (kX7_step (l := l) (g := g) (ad := ad) (A := q1.2) (F := u1) hc3) (va_recv (hK d) hP (ci := 7) (q0 := 0) rfl rfl) rfl hl.1 rfl (Nat.le_of_ble_eq_true rfl) dX7_steps_55 ⟨Nat.zero_le _, Nat.zero_le _⟩ (fun H locs hP hD hS => ?_)
            have hP : va_P g.1 vwCl (wM g ad z2 u1) H := hP
            have hD : va_D Z (wM g ad z2 u1) := hD
            refine lv_iinc (v := q1.1 + 1) (lv' := [(2, .int (q1.1 + 1)), (0, .ref (ad 0)), (1, .int p0)]) hx hb dX7_steps_58 hl (k := 0) rfl rfl (by decide) rfl (fun ls hl => ?_)
            refine lv_goto (tgt := 37) hx hb dX7_steps_61 (by decide) ?_
            exact hin1 _ H locs ls () _ (Option.some.inj hst1).symm hdr trivial hP hD hS (lv_sub hl [0, 1, 2] rfl)
    · rw [if_pos c2] at hsem
      refine lv_bipush (v := (-2)) hx hb dX7_steps_28 (by decide) ?_
      have eo := (Option.some.inj hsem).symm.symm
      refine W.endD hdr ?_
      subst eo
      exact W.iret (v := (-2)) hx hb hr (fun t ht hW => ⟨⟨_, F, rfl, ⟨rfl, hAL⟩, ⟨by rw [ht]; exact hP, hD⟩⟩, hS.F ht⟩) hS.2.2 dX7_steps_30
  · rw [if_pos c1] at hsem
    refine lv_iconst (v := (-1)) hx hb dX7_steps_15 (by decide) ?_
    have eo := (Option.some.inj hsem).symm.symm
    refine W.endD hdr ?_
    subst eo
    exact W.iret (v := (-1)) hx hb hr (fun t ht hW => ⟨⟨_, F, rfl, ⟨rfl, hAL⟩, ⟨by rw [ht]; exact hP, hD⟩⟩, hS.F ht⟩) hS.2.2 dX7_steps_16
def sX7_takes (A : IA) (Fc : FA) (p0 : Int32) (p1 : Int32) (p2 : Int32) : Option (Int32 × IA × FA) :=
  bd (sc A 0 0) fun A1 => (sX7_isRoot p0).bind fun x1 => if x1 = 0 then (some (((-1), A1, Fc))) else ((sX7_isRoot p1).bind fun x2 => if x2 = 0 then (some (((-1), A1, Fc))) else ((sX7_in p2 0 1).bind fun x3 => if x3 = 0 then (some (((-1), A1, Fc))) else (ck (192 + p1) 296 (bd ((A1 1) (192 + p1).toNatClampNeg) fun x4 => if x4 = (-5) then (some (((-2), A1, Fc))) else ((sX7_notes A1 Fc).bind fun z1 => (sX7_ofThing z1.1 x4 (3 + p2)).bind fun x5 => ck (192 + p0) 296 (bd (wr z1.1 1 ((192 + p0).toNatClampNeg) x5) fun A2 => ck (192 + p0) 296 (some (((A2 1) (192 + p0).toNatClampNeg, A2, z1.2)))))))))
abbrev rmX7_takes : Room := { frames := 2, cells := 0, slots := 0, locals := 42 }
theorem hdX7_takes : yX7_takes.cls = RX7 ∧ yX7_takes.cls ≠ "java/lang/invoke/MethodHandle" ∧ yX7_takes.cls ≠ "java/lang/invoke/VarHandle" ∧ (parseMethodDescriptor yX7_takes.desc).map (fun d => d.parameters.length) = some 3 := by decide +kernel
set_option maxHeartbeats 4000000 in
set_option maxRecDepth 100000 in
theorem kX7_takes {l : Launch} {g : GG} {sz : Nat} {ad : Nat → Nat} {A : IA} {F : FA} {p0 p1 p2 : Int32} {Fc : FA} (hAL : AL F Fc) {b : Int32 × IA × FA} (hsem : sX7_takes A Fc p0 p1 p2 = some b) : MetDI l yX7_takes wsX7_takes rmX7_takes g [.ref (ad 0), .int p0, .int p1, .int p2] (wM g ad A F) sz b.1 (φ := FA) (fun u => AL u b.2.2) (fun u => wM g ad b.2.1 u) := by
  refine MetD.ofW (cc := cX7_takes) (maxL := 5) (ret := (some .int)) (by decide) rfl ?_
  intro p e s m args below meth c s₁ B hml hv hdr
  obtain ⟨rfl, hsz, hP, hD0, hKK⟩ := hv
  subst hsz
  have hx := B.exec
  have hb := B.bytes
  have hr := B.returns
  have hts := atoms_spec (ws := wsX7_takes) B.pre
  have hown : ∀ d, (s.setDrawn d).vm.findClass RX7 = some m.cls := fun _ => findClass_of_methodNamed B.named
  have hlocks := B.notSynchronized
  have hK : ∀ d, va_K g.1 vwCl (KT g) (s.setDrawn d) := fun d => (hKK.drawn d).1
  have hD := hD0.self (sz := s.heap.size)
  generalize hZe : va_A (wM g ad A F) s.heap.size = Z at hD ⊢
  have hZ : ∀ q : Nat, s.heap.size ≤ q → Z q := fun q h => by rw [← hZe]; exact Or.inr h
  have hS : va_S Z s.heap s.heap [] := va_S.rf
  have hP : va_P g.1 vwCl (wM g ad A F) s.heap := hP
  have hD : va_D Z (wM g ad A F) := hD
  obtain ⟨d, hdr, hdd⟩ : ∃ d, s.drawn.sameBut d lw_cs ∧ s.drawn = d := ⟨_, hdr, rfl⟩
  rw [hdd]
  have hl := lv_entry ([.ref (ad 0), .int p0, .int p1, .int p2]) (n := 5) (Nat.le_of_ble_eq_true rfl)
  rw [lg_entry_eq]
  generalize (lg_sl ([.ref (ad 0), .int p0, .int p1, .int p2]) ++ List.replicate (5 - (lg_sl ([.ref (ad 0), .int p0, .int p1, .int p2])).length) Slot.unset).toArray = ls at hl ⊢
  have hl : lv_has ls 5 [(0, .ref (ad 0)), (1, .int p0), (2, .int p1), (3, .int p2)] := hl
  unfold sX7_takes at hsem
  refine lv_aload_n hx hb dX7_takes_0 rfl (lv_at hl 0 rfl) ?_
  refine lv_iconst (v := 0) hx hb dX7_takes_1 (by decide) ?_
  refine va_put (D := g.1) (ci := 7) (v := .int 0) (ty := .int) (C := RX7) (T := TX7) (N := 26) hx hb (dr_words hts d) (fun w h => List.mem_cons_of_mem _ (List.mem_append_right _ h)) tyX7 tyX7_ok nmX7 (hown d) (hK d) hP hD hS 0 rfl rfl 0 (by decide) ((dr_words hts d) (.fieldLink RX7 55 "PauseRegionsModel" "thrown" "I") (List.mem_of_getElem? (i := 1) rfl)) (fun _ h9 => h9) rfl (by decide +kernel) rfl rfl (Nat.le_of_ble_eq_true rfl) dX7_takes_2 (fun H locs hP hD hS => ?_)
  obtain ⟨A1, eA1, hsem⟩ := bd_some hsem
  have hP : va_P g.1 vwCl (wM g ad A1 F) H := by rw [eA1]; exact hP
  have hD : va_D Z (wM g ad A1 F) := by rw [eA1]; exact hD
  refine lv_iload_n hx hb dX7_takes_5 rfl (lv_at hl 1 rfl) ?_
  obtain ⟨x1, hc1, hsem⟩ := bn_some hsem
  refine pcS (As := [.int p0]) (rest := []) ⟨hx, hb, hml, (hown d), (dr_words hts d)⟩ (hKK.drawn d) (va_cwS 1 (dr_words hts d) gX7_takes_X7_isRoot rfl rfl rfl hdX7_isRoot ⟨Nat.le_of_ble_eq_true rfl, Nat.le_of_ble_eq_true rfl⟩) (kX7_isRoot (l := l) (g := g) hc1) rfl hl.1 rfl (Nat.le_of_ble_eq_true rfl) dX7_takes_6 ⟨Nat.zero_le _, Nat.zero_le _⟩ ?_
  refine lv_if_eq (tgt := 28) hx hb dX7_takes_9 (by decide) (fun c1 => ?_) (fun c1 => ?_)
  · rw [if_pos c1] at hsem
    refine lv_iconst (v := (-1)) hx hb dX7_takes_28 (by decide) ?_
    have eo := (Option.some.inj hsem).symm.symm
    refine W.endD hdr ?_
    subst eo
    exact W.iret (v := (-1)) hx hb hr (fun t ht hW => ⟨⟨_, F, rfl, ⟨rfl, hAL⟩, ⟨by rw [ht]; exact hP, hD⟩⟩, hS.F ht⟩) hS.2.2 dX7_takes_29
  · rw [if_neg c1] at hsem
    refine lv_iload_n hx hb dX7_takes_12 rfl (lv_at hl 2 rfl) ?_
    obtain ⟨x2, hc2, hsem⟩ := bn_some hsem
    refine pcS (As := [.int p1]) (rest := []) ⟨hx, hb, hml, (hown d), (dr_words hts d)⟩ (hKK.drawn d) (va_cwS 1 (dr_words hts d) gX7_takes_X7_isRoot rfl rfl rfl hdX7_isRoot ⟨Nat.le_of_ble_eq_true rfl, Nat.le_of_ble_eq_true rfl⟩) (kX7_isRoot (l := l) (g := g) hc2) rfl hl.1 rfl (Nat.le_of_ble_eq_true rfl) dX7_takes_13 ⟨Nat.zero_le _, Nat.zero_le _⟩ ?_
    refine lv_if_eq (tgt := 28) hx hb dX7_takes_16 (by decide) (fun c2 => ?_) (fun c2 => ?_)
    · rw [if_pos c2] at hsem
      refine lv_iconst (v := (-1)) hx hb dX7_takes_28 (by decide) ?_
      have eo := (Option.some.inj hsem).symm.symm
      refine W.endD hdr ?_
      subst eo
      exact W.iret (v := (-1)) hx hb hr (fun t ht hW => ⟨⟨_, F, rfl, ⟨rfl, hAL⟩, ⟨by rw [ht]; exact hP, hD⟩⟩, hS.F ht⟩) hS.2.2 dX7_takes_29
    · rw [if_neg c2] at hsem
      refine lv_iload_n hx hb dX7_takes_19 rfl (lv_at hl 3 rfl) ?_
      refine lv_iconst (v := 0) hx hb dX7_takes_20 (by decide) ?_
      refine lv_iconst (v := 1) hx hb dX7_takes_21 (by decide) ?_
      obtain ⟨x3, hc3, hsem⟩ := bn_some hsem
      refine pcS (As := [.int p2, .int 0, .int 1]) (rest := []) ⟨hx, hb, hml, (hown d), (dr_words hts d)⟩ (hKK.drawn d) (va_cwS 3 (dr_words hts d) gX7_takes_X7_in rfl rfl rfl hdX7_in ⟨Nat.le_of_ble_eq_true rfl, Nat.le_of_ble_eq_true rfl⟩) (kX7_in (l := l) (g := g) hc3) rfl hl.1 rfl (Nat.le_of_ble_eq_true rfl) dX7_takes_22 ⟨Nat.zero_le _, Nat.zero_le _⟩ ?_
      refine lv_if_ne (tgt := 30) hx hb dX7_takes_25 (by decide) (fun c3 => ?_) (fun c3 => ?_)
      · rw [if_neg c3] at hsem
        refine lv_aload_n hx hb dX7_takes_30 rfl (lv_at hl 0 rfl) ?_
        refine va_get (D := g.1) (ci := 7) (v := .ref (ad 1)) (C := RX7) (T := TX7) (N := 26) hx hb (dr_words hts d) (fun w h => List.mem_cons_of_mem _ (List.mem_append_right _ h)) (hown d) (hK d) hP 0 rfl rfl 1 (by decide) ((dr_words hts d) (.fieldLink RX7 7 "PauseRegionsModel" "s" "[I") (List.mem_of_getElem? (i := 2) rfl)) (fun _ h9 => h9) rfl dX7_takes_31 ?_
        refine lv_sipush (v := 192) hx hb dX7_takes_34 (by decide) ?_
        refine lv_iload_n hx hb dX7_takes_37 rfl (lv_at hl 2 rfl) ?_
        refine lv_iadd hx hb dX7_takes_38 ?_
        obtain ⟨h1, hsem⟩ := ck_some hsem
        refine va_iald (D := g.1) hx hb (hK d) hP 1 0 rfl rfl h1 dX7_takes_39 ?_
        obtain ⟨x4, ex4, hsem⟩ := bd_some hsem
        rw [← ex4]
        refine lv_istore (lv' := [(4, .int x4), (0, .ref (ad 0)), (1, .int p0), (2, .int p1), (3, .int p2)]) hx hb dX7_takes_40 hl (by decide) rfl (fun ls hl => ?_)
        refine lv_iload hx hb dX7_takes_42 (lv_at hl 0 rfl) ?_
        refine lv_bipush (v := (-5)) hx hb dX7_takes_44 (by decide) ?_
        refine lv_icmp_ne (tgt := 52) hx hb dX7_takes_46 (by decide) (fun c4 => ?_) (fun c4 => ?_)
        · rw [if_neg c4] at hsem
          refine lv_aload_n hx hb dX7_takes_52 rfl (lv_at hl 1 rfl) ?_
          obtain ⟨z1, hc4, hsem⟩ := bn_some hsem
          refine dcV (C := RX7) (As := []) (rest := []) hdr ⟨hx, hb, hml, (hown d), (dr_words hts d)⟩ (hKK.drawn d) hP hD hS hZ (cwV 0 (dr_words hts d) gX7_takes_X7_notes rfl rfl rfl hdX7_notes ⟨Nat.le_of_ble_eq_true rfl, Nat.le_of_ble_eq_true rfl⟩) (kX7_notes (l := l) (g := g) (ad := ad) (A := A1) (F := F) (Fc := Fc) hAL hc4) (va_recv (hK d) hP (ci := 7) (q0 := 0) rfl rfl) rfl hl.1 rfl (Nat.le_of_ble_eq_true rfl) dX7_takes_53 ⟨Nat.zero_le _, Nat.zero_le _⟩ (fun u1 H locs d hpo hP hD hS hdr => ?_)
          have hq1 := hpo
          have hP : va_P g.1 vwCl (wM g ad z1.1 u1) H := hP
          have hD : va_D Z (wM g ad z1.1 u1) := hD
          refine lv_aload_n hx hb dX7_takes_56 rfl (lv_at hl 1 rfl) ?_
          refine va_get (D := g.1) (ci := 7) (v := .ref (ad 1)) (C := RX7) (T := TX7) (N := 26) hx hb (dr_words hts d) (fun w h => List.mem_cons_of_mem _ (List.mem_append_right _ h)) (hown d) (hK d) hP 0 rfl rfl 1 (by decide) ((dr_words hts d) (.fieldLink RX7 7 "PauseRegionsModel" "s" "[I") (List.mem_of_getElem? (i := 2) rfl)) (fun _ h9 => h9) rfl dX7_takes_57 ?_
          refine lv_sipush (v := 192) hx hb dX7_takes_60 (by decide) ?_
          refine lv_iload_n hx hb dX7_takes_63 rfl (lv_at hl 2 rfl) ?_
          refine lv_iadd hx hb dX7_takes_64 ?_
          refine lv_aload_n hx hb dX7_takes_65 rfl (lv_at hl 1 rfl) ?_
          refine lv_iload hx hb dX7_takes_66 (lv_at hl 0 rfl) ?_
          refine lv_iconst (v := 3) hx hb dX7_takes_68 (by decide) ?_
          refine lv_iload_n hx hb dX7_takes_69 rfl (lv_at hl 4 rfl) ?_
          refine lv_iadd hx hb dX7_takes_70 ?_
          obtain ⟨x5, hc5, hsem⟩ := bn_some hsem
          refine pcV (C := RX7) (As := [.int x4, .int (3 + p2)]) (rest := [.int (192 + p0), .ref (ad 1)]) ⟨hx, hb, hml, (hown d), (dr_words hts d)⟩ (hKK.drawn d) (cwV 2 (dr_words hts d) gX7_takes_X7_ofThing rfl rfl rfl hdX7_ofThing ⟨Nat.le_of_ble_eq_true rfl, Nat.le_of_ble_eq_true rfl⟩) (kX7_ofThing (l := l) (g := g) hP hc5) (va_recv (hK d) hP (ci := 7) (q0 := 0) rfl rfl) rfl hl.1 rfl (Nat.le_of_ble_eq_true rfl) dX7_takes_71 ⟨Nat.zero_le _, Nat.zero_le _⟩ ?_
          obtain ⟨h2, hsem⟩ := ck_some hsem
          refine va_iast (D := g.1) hx hb (hK d) hP hD hS 1 0 rfl rfl h2 dX7_takes_74 (fun H locs hP hD hS => ?_)
          obtain ⟨A2, eA2, hsem⟩ := bd_some hsem
          have hP : va_P g.1 vwCl (wM g ad A2 u1) H := by rw [eA2]; exact hP
          have hD : va_D Z (wM g ad A2 u1) := by rw [eA2]; exact hD
          refine lv_aload_n hx hb dX7_takes_75 rfl (lv_at hl 1 rfl) ?_
          refine va_get (D := g.1) (ci := 7) (v := .ref (ad 1)) (C := RX7) (T := TX7) (N := 26) hx hb (dr_words hts d) (fun w h => List.mem_cons_of_mem _ (List.mem_append_right _ h)) (hown d) (hK d) hP 0 rfl rfl 1 (by decide) ((dr_words hts d) (.fieldLink RX7 7 "PauseRegionsModel" "s" "[I") (List.mem_of_getElem? (i := 2) rfl)) (fun _ h9 => h9) rfl dX7_takes_76 ?_
          refine lv_sipush (v := 192) hx hb dX7_takes_79 (by decide) ?_
          refine lv_iload_n hx hb dX7_takes_82 rfl (lv_at hl 2 rfl) ?_
          refine lv_iadd hx hb dX7_takes_83 ?_
          obtain ⟨h3, hsem⟩ := ck_some hsem
          refine va_iald (D := g.1) hx hb (hK d) hP 1 0 rfl rfl h3 dX7_takes_84 ?_
          have eo := (Option.some.inj hsem).symm.symm
          refine W.endD hdr ?_
          subst eo
          exact W.iret (v := (A2 1) (192 + p0).toNatClampNeg) hx hb hr (fun t ht hW => ⟨⟨_, u1, rfl, ⟨rfl, hq1⟩, ⟨by rw [ht]; exact hP, hD⟩⟩, hS.F ht⟩) hS.2.2 dX7_takes_85
        · rw [if_pos c4] at hsem
          refine lv_bipush (v := (-2)) hx hb dX7_takes_49 (by decide) ?_
          have eo := (Option.some.inj hsem).symm.symm
          refine W.endD hdr ?_
          subst eo
          exact W.iret (v := (-2)) hx hb hr (fun t ht hW => ⟨⟨_, F, rfl, ⟨rfl, hAL⟩, ⟨by rw [ht]; exact hP, hD⟩⟩, hS.F ht⟩) hS.2.2 dX7_takes_51
      · rw [if_pos c3] at hsem
        refine lv_iconst (v := (-1)) hx hb dX7_takes_28 (by decide) ?_
        have eo := (Option.some.inj hsem).symm.symm
        refine W.endD hdr ?_
        subst eo
        exact W.iret (v := (-1)) hx hb hr (fun t ht hW => ⟨⟨_, F, rfl, ⟨rfl, hAL⟩, ⟨by rw [ht]; exact hP, hD⟩⟩, hS.F ht⟩) hS.2.2 dX7_takes_29
def sX7_thing (A : IA) (p0 : Int32) (p1 : Int32) : Option (Int32 × IA) :=
  bd (sc A 0 0) fun A1 => (sX7_in p0 0 31).bind fun x1 => if x1 = 0 then (some (((-1), A1))) else ((sX7_in p1 0 5).bind fun x2 => if x2 = 0 then (some (((-1), A1))) else ((sX7_isThing A1 p0).bind fun x3 => if x3 = 0 then (some (((-9), A1))) else (if p1 = 5 then (if ((A1 1) (Int32.toNatClampNeg 292)) = 0 then (some (((-9), A1))) else ((sX7_ofThing A1 p0 p1).bind fun x5 => some (x5, A1))) else ((sX7_ofThing A1 p0 p1).bind fun x4 => some (x4, A1)))))
abbrev rmX7_thing : Room := { frames := 2, cells := 0, slots := 0, locals := 43 }
theorem hdX7_thing : yX7_thing.cls = RX7 ∧ yX7_thing.cls ≠ "java/lang/invoke/MethodHandle" ∧ yX7_thing.cls ≠ "java/lang/invoke/VarHandle" ∧ (parseMethodDescriptor yX7_thing.desc).map (fun d => d.parameters.length) = some 2 := by decide +kernel
set_option maxHeartbeats 4000000 in
set_option maxRecDepth 100000 in
theorem kX7_thing {l : Launch} {g : GG} {sz : Nat} {ad : Nat → Nat} {A : IA} {F : FA} {p0 p1 : Int32} {b : Int32 × IA} (hsem : sX7_thing A p0 p1 = some b) : MetI l yX7_thing wsX7_thing rmX7_thing g [.ref (ad 0), .int p0, .int p1] (wM g ad A F) sz b.1 (wM g ad b.2 F) := by
  refine Met.ofW (cc := cX7_thing) (maxL := 3) (ret := (some .int)) (by decide) rfl ?_
  intro p e s m args below meth c s₁ B hml hv
  obtain ⟨rfl, hsz, hP, hD0, hKK⟩ := hv
  subst hsz
  have hx := B.exec
  have hb := B.bytes
  have hr := B.returns
  have hts := atoms_spec (ws := wsX7_thing) B.pre
  have hown : s.vm.findClass RX7 = some m.cls := findClass_of_methodNamed B.named
  have hlocks := B.notSynchronized
  have hK := hKK.1
  have hD := hD0.self (sz := s.heap.size)
  generalize hZe : va_A (wM g ad A F) s.heap.size = Z at hD ⊢
  have hZ : ∀ q : Nat, s.heap.size ≤ q → Z q := fun q h => by rw [← hZe]; exact Or.inr h
  have hS : va_S Z s.heap s.heap [] := va_S.rf
  have hP : va_P g.1 vwCl (wM g ad A F) s.heap := hP
  have hD : va_D Z (wM g ad A F) := hD
  have hl := lv_entry ([.ref (ad 0), .int p0, .int p1]) (n := 3) (Nat.le_of_ble_eq_true rfl)
  rw [lg_entry_eq]
  generalize (lg_sl ([.ref (ad 0), .int p0, .int p1]) ++ List.replicate (3 - (lg_sl ([.ref (ad 0), .int p0, .int p1])).length) Slot.unset).toArray = ls at hl ⊢
  have hl : lv_has ls 3 [(0, .ref (ad 0)), (1, .int p0), (2, .int p1)] := hl
  unfold sX7_thing at hsem
  refine lv_aload_n hx hb dX7_thing_0 rfl (lv_at hl 0 rfl) ?_
  refine lv_iconst (v := 0) hx hb dX7_thing_1 (by decide) ?_
  refine va_put (D := g.1) (ci := 7) (v := .int 0) (ty := .int) (C := RX7) (T := TX7) (N := 26) hx hb hts (fun w h => List.mem_cons_of_mem _ (List.mem_append_right _ h)) tyX7 tyX7_ok nmX7 hown hK hP hD hS 0 rfl rfl 0 (by decide) (hts (.fieldLink RX7 55 "PauseRegionsModel" "thrown" "I") (List.mem_of_getElem? (i := 1) rfl)) (fun _ h9 => h9) rfl (by decide +kernel) rfl rfl (Nat.le_of_ble_eq_true rfl) dX7_thing_2 (fun H locs hP hD hS => ?_)
  obtain ⟨A1, eA1, hsem⟩ := bd_some hsem
  have hP : va_P g.1 vwCl (wM g ad A1 F) H := by rw [eA1]; exact hP
  have hD : va_D Z (wM g ad A1 F) := by rw [eA1]; exact hD
  refine lv_iload_n hx hb dX7_thing_5 rfl (lv_at hl 1 rfl) ?_
  refine lv_iconst (v := 0) hx hb dX7_thing_6 (by decide) ?_
  refine lv_bipush (v := 31) hx hb dX7_thing_7 (by decide) ?_
  obtain ⟨x1, hc1, hsem⟩ := bn_some hsem
  refine pcS (As := [.int p0, .int 0, .int 31]) (rest := []) ⟨hx, hb, hml, hown, hts⟩ hKK (va_cwS 3 hts gX7_thing_X7_in rfl rfl rfl hdX7_in ⟨Nat.le_of_ble_eq_true rfl, Nat.le_of_ble_eq_true rfl⟩) (kX7_in (l := l) (g := g) hc1) rfl hl.1 rfl (Nat.le_of_ble_eq_true rfl) dX7_thing_9 ⟨Nat.zero_le _, Nat.zero_le _⟩ ?_
  refine lv_if_eq (tgt := 24) hx hb dX7_thing_12 (by decide) (fun c1 => ?_) (fun c1 => ?_)
  · rw [if_pos c1] at hsem
    refine lv_iconst (v := (-1)) hx hb dX7_thing_24 (by decide) ?_
    have eo := (Option.some.inj hsem).symm.symm
    subst eo
    exact W.iret (v := (-1)) hx hb hr (fun t ht hW => ⟨⟨_, (), rfl, rfl, ⟨by rw [ht]; exact hP, hD⟩⟩, hS.F ht⟩) hS.2.2 dX7_thing_25
  · rw [if_neg c1] at hsem
    refine lv_iload_n hx hb dX7_thing_15 rfl (lv_at hl 2 rfl) ?_
    refine lv_iconst (v := 0) hx hb dX7_thing_16 (by decide) ?_
    refine lv_iconst (v := 5) hx hb dX7_thing_17 (by decide) ?_
    obtain ⟨x2, hc2, hsem⟩ := bn_some hsem
    refine pcS (As := [.int p1, .int 0, .int 5]) (rest := []) ⟨hx, hb, hml, hown, hts⟩ hKK (va_cwS 3 hts gX7_thing_X7_in rfl rfl rfl hdX7_in ⟨Nat.le_of_ble_eq_true rfl, Nat.le_of_ble_eq_true rfl⟩) (kX7_in (l := l) (g := g) hc2) rfl hl.1 rfl (Nat.le_of_ble_eq_true rfl) dX7_thing_18 ⟨Nat.zero_le _, Nat.zero_le _⟩ ?_
    refine lv_if_ne (tgt := 26) hx hb dX7_thing_21 (by decide) (fun c2 => ?_) (fun c2 => ?_)
    · rw [if_neg c2] at hsem
      refine lv_aload_n hx hb dX7_thing_26 rfl (lv_at hl 0 rfl) ?_
      refine lv_iload_n hx hb dX7_thing_27 rfl (lv_at hl 1 rfl) ?_
      obtain ⟨x3, hc3, hsem⟩ := bn_some hsem
      refine pcV (C := RX7) (As := [.int p0]) (rest := []) ⟨hx, hb, hml, hown, hts⟩ hKK (cwV 1 hts gX7_thing_X7_isThing rfl rfl rfl hdX7_isThing ⟨Nat.le_of_ble_eq_true rfl, Nat.le_of_ble_eq_true rfl⟩) (kX7_isThing (l := l) (g := g) hP hc3) (va_recv hK hP (ci := 7) (q0 := 0) rfl rfl) rfl hl.1 rfl (Nat.le_of_ble_eq_true rfl) dX7_thing_28 ⟨Nat.zero_le _, Nat.zero_le _⟩ ?_
      refine lv_if_eq (tgt := 50) hx hb dX7_thing_31 (by decide) (fun c3 => ?_) (fun c3 => ?_)
      · rw [if_pos c3] at hsem
        refine lv_bipush (v := (-9)) hx hb dX7_thing_50 (by decide) ?_
        refine lv_goto (tgt := 61) hx hb dX7_thing_52 (by decide) ?_
        have eo := (Option.some.inj hsem).symm.symm
        subst eo
        exact W.iret (v := (-9)) hx hb hr (fun t ht hW => ⟨⟨_, (), rfl, rfl, ⟨by rw [ht]; exact hP, hD⟩⟩, hS.F ht⟩) hS.2.2 dX7_thing_61
      · rw [if_neg c3] at hsem
        refine lv_iload_n hx hb dX7_thing_34 rfl (lv_at hl 2 rfl) ?_
        refine lv_iconst (v := 5) hx hb dX7_thing_35 (by decide) ?_
        refine lv_icmp_ne (tgt := 55) hx hb dX7_thing_36 (by decide) (fun c4 => ?_) (fun c4 => ?_)
        · rw [if_neg c4] at hsem
          refine lv_aload_n hx hb dX7_thing_55 rfl (lv_at hl 0 rfl) ?_
          refine lv_iload_n hx hb dX7_thing_56 rfl (lv_at hl 1 rfl) ?_
          refine lv_iload_n hx hb dX7_thing_57 rfl (lv_at hl 2 rfl) ?_
          obtain ⟨x4, hc4, hsem⟩ := bn_some hsem
          refine pcV (C := RX7) (As := [.int p0, .int p1]) (rest := []) ⟨hx, hb, hml, hown, hts⟩ hKK (cwV 2 hts gX7_thing_X7_ofThing rfl rfl rfl hdX7_ofThing ⟨Nat.le_of_ble_eq_true rfl, Nat.le_of_ble_eq_true rfl⟩) (kX7_ofThing (l := l) (g := g) hP hc4) (va_recv hK hP (ci := 7) (q0 := 0) rfl rfl) rfl hl.1 rfl (Nat.le_of_ble_eq_true rfl) dX7_thing_58 ⟨Nat.zero_le _, Nat.zero_le _⟩ ?_
          have eo := (Option.some.inj hsem).symm.symm
          subst eo
          exact W.iret (v := x4) hx hb hr (fun t ht hW => ⟨⟨_, (), rfl, rfl, ⟨by rw [ht]; exact hP, hD⟩⟩, hS.F ht⟩) hS.2.2 dX7_thing_61
        · rw [if_pos c4] at hsem
          refine lv_aload_n hx hb dX7_thing_39 rfl (lv_at hl 0 rfl) ?_
          refine va_get (D := g.1) (ci := 7) (v := .ref (ad 1)) (C := RX7) (T := TX7) (N := 26) hx hb hts (fun w h => List.mem_cons_of_mem _ (List.mem_append_right _ h)) hown hK hP 0 rfl rfl 1 (by decide) (hts (.fieldLink RX7 7 "PauseRegionsModel" "s" "[I") (List.mem_of_getElem? (i := 2) rfl)) (fun _ h9 => h9) rfl dX7_thing_40 ?_
          refine lv_sipush (v := 292) hx hb dX7_thing_43 (by decide) ?_
          have h1 : vp_in 292 296 := inb_vp rfl
          refine va_iald (D := g.1) hx hb hK hP 1 0 rfl rfl h1 dX7_thing_46 ?_
          refine lv_if_ne (tgt := 55) hx hb dX7_thing_47 (by decide) (fun c5 => ?_) (fun c5 => ?_)
          · rw [if_neg c5] at hsem
            refine lv_aload_n hx hb dX7_thing_55 rfl (lv_at hl 0 rfl) ?_
            refine lv_iload_n hx hb dX7_thing_56 rfl (lv_at hl 1 rfl) ?_
            refine lv_iload_n hx hb dX7_thing_57 rfl (lv_at hl 2 rfl) ?_
            obtain ⟨x5, hc5, hsem⟩ := bn_some hsem
            refine pcV (C := RX7) (As := [.int p0, .int p1]) (rest := []) ⟨hx, hb, hml, hown, hts⟩ hKK (cwV 2 hts gX7_thing_X7_ofThing rfl rfl rfl hdX7_ofThing ⟨Nat.le_of_ble_eq_true rfl, Nat.le_of_ble_eq_true rfl⟩) (kX7_ofThing (l := l) (g := g) hP hc5) (va_recv hK hP (ci := 7) (q0 := 0) rfl rfl) rfl hl.1 rfl (Nat.le_of_ble_eq_true rfl) dX7_thing_58 ⟨Nat.zero_le _, Nat.zero_le _⟩ ?_
            have eo := (Option.some.inj hsem).symm.symm
            subst eo
            exact W.iret (v := x5) hx hb hr (fun t ht hW => ⟨⟨_, (), rfl, rfl, ⟨by rw [ht]; exact hP, hD⟩⟩, hS.F ht⟩) hS.2.2 dX7_thing_61
          · rw [if_pos c5] at hsem
            refine lv_bipush (v := (-9)) hx hb dX7_thing_50 (by decide) ?_
            refine lv_goto (tgt := 61) hx hb dX7_thing_52 (by decide) ?_
            have eo := (Option.some.inj hsem).symm.symm
            subst eo
            exact W.iret (v := (-9)) hx hb hr (fun t ht hW => ⟨⟨_, (), rfl, rfl, ⟨by rw [ht]; exact hP, hD⟩⟩, hS.F ht⟩) hS.2.2 dX7_thing_61
    · rw [if_pos c2] at hsem
      refine lv_iconst (v := (-1)) hx hb dX7_thing_24 (by decide) ?_
      have eo := (Option.some.inj hsem).symm.symm
      subst eo
      exact W.iret (v := (-1)) hx hb hr (fun t ht hW => ⟨⟨_, (), rfl, rfl, ⟨by rw [ht]; exact hP, hD⟩⟩, hS.F ht⟩) hS.2.2 dX7_thing_25
def sX7_undo_L27 (q1 : Int32 × IA) : Option ((Int32 × IA) ⊕ (IA)) :=
  if 296 ≤ q1.1 then (some (.inr q1.2)) else (ck ((296 * (q1.2 5 0)) + q1.1) 1776 (ck q1.1 296 (bd (wr q1.2 1 q1.1.toNatClampNeg ((q1.2 3) ((296 * (q1.2 5 0)) + q1.1).toNatClampNeg)) fun A3 => some (.inl (q1.1 + 1, A3)))))
def sX7_undo (A : IA) (Fc : FA) : Option (Int32 × IA × FA) :=
  bd (sc A 0 0) fun A1 => if (A1 5 0) = 0 then (some (((-2), A1, Fc))) else (bd (sc A1 5 ((A1 5 0) - 1)) fun A2 => (loopN (sX7_undo_L27) 2000 (0, A2)).bind fun q2 => ck (2 * (q2 5 0)) 12 (bd (wrF Fc 2 ((Int32.toNatClampNeg 0)) (Fc 4 (2 * (q2 5 0)).toNatClampNeg)) fun F1c => ck ((2 * (q2 5 0)) + 1) 12 (bd (wrF F1c 2 ((Int32.toNatClampNeg 1)) (F1c 4 ((2 * (q2 5 0)) + 1).toNatClampNeg)) fun F2c => some (((q2 5 0), q2, F2c)))))
abbrev rmX7_undo : Room := { frames := 0, cells := 0, slots := 0, locals := 0 }
theorem hdX7_undo : yX7_undo.cls = RX7 ∧ yX7_undo.cls ≠ "java/lang/invoke/MethodHandle" ∧ yX7_undo.cls ≠ "java/lang/invoke/VarHandle" ∧ (parseMethodDescriptor yX7_undo.desc).map (fun d => d.parameters.length) = some 0 := by decide +kernel
set_option maxHeartbeats 4000000 in
set_option maxRecDepth 100000 in
theorem kX7_undo {l : Launch} {g : GG} {sz : Nat} {ad : Nat → Nat} {A : IA} {F : FA} {Fc : FA} (hAL : AL F Fc) {b : Int32 × IA × FA} (hsem : sX7_undo A Fc = some b) : MetDI l yX7_undo wsX7_undo rmX7_undo g [.ref (ad 0)] (wM g ad A F) sz b.1 (φ := FA) (fun u => AL u b.2.2) (fun u => wM g ad b.2.1 u) := by
  refine MetD.ofW (cc := cX7_undo) (maxL := 2) (ret := (some .int)) (by decide) rfl ?_
  intro p e s m args below meth c s₁ B hml hv hdr
  obtain ⟨rfl, hsz, hP, hD0, hKK⟩ := hv
  subst hsz
  have hx := B.exec
  have hb := B.bytes
  have hr := B.returns
  have hts := atoms_spec (ws := wsX7_undo) B.pre
  have hown : ∀ d, (s.setDrawn d).vm.findClass RX7 = some m.cls := fun _ => findClass_of_methodNamed B.named
  have hlocks := B.notSynchronized
  have hK : ∀ d, va_K g.1 vwCl (KT g) (s.setDrawn d) := fun d => (hKK.drawn d).1
  have hD := hD0.self (sz := s.heap.size)
  generalize hZe : va_A (wM g ad A F) s.heap.size = Z at hD ⊢
  have hZ : ∀ q : Nat, s.heap.size ≤ q → Z q := fun q h => by rw [← hZe]; exact Or.inr h
  have hS : va_S Z s.heap s.heap [] := va_S.rf
  have hP : va_P g.1 vwCl (wM g ad A F) s.heap := hP
  have hD : va_D Z (wM g ad A F) := hD
  obtain ⟨d, hdr, hdd⟩ : ∃ d, s.drawn.sameBut d lw_cs ∧ s.drawn = d := ⟨_, hdr, rfl⟩
  rw [hdd]
  have hl := lv_entry ([.ref (ad 0)]) (n := 2) (Nat.le_of_ble_eq_true rfl)
  rw [lg_entry_eq]
  generalize (lg_sl ([.ref (ad 0)]) ++ List.replicate (2 - (lg_sl ([.ref (ad 0)])).length) Slot.unset).toArray = ls at hl ⊢
  have hl : lv_has ls 2 [(0, .ref (ad 0))] := hl
  unfold sX7_undo at hsem
  refine lv_aload_n hx hb dX7_undo_0 rfl (lv_at hl 0 rfl) ?_
  refine lv_iconst (v := 0) hx hb dX7_undo_1 (by decide) ?_
  refine va_put (D := g.1) (ci := 7) (v := .int 0) (ty := .int) (C := RX7) (T := TX7) (N := 26) hx hb (dr_words hts d) (fun w h => List.mem_cons_of_mem _ (List.mem_append_right _ h)) tyX7 tyX7_ok nmX7 (hown d) (hK d) hP hD hS 0 rfl rfl 0 (by decide) ((dr_words hts d) (.fieldLink RX7 55 "PauseRegionsModel" "thrown" "I") (List.mem_of_getElem? (i := 1) rfl)) (fun _ h9 => h9) rfl (by decide +kernel) rfl rfl (Nat.le_of_ble_eq_true rfl) dX7_undo_2 (fun H locs hP hD hS => ?_)
  obtain ⟨A1, eA1, hsem⟩ := bd_some hsem
  have hP : va_P g.1 vwCl (wM g ad A1 F) H := by rw [eA1]; exact hP
  have hD : va_D Z (wM g ad A1 F) := by rw [eA1]; exact hD
  refine lv_aload_n hx hb dX7_undo_5 rfl (lv_at hl 0 rfl) ?_
  refine va_get (D := g.1) (ci := 7) (v := .int (A1 5 0)) (C := RX7) (T := TX7) (N := 26) hx hb (dr_words hts d) (fun w h => List.mem_cons_of_mem _ (List.mem_append_right _ h)) (hown d) (hK d) hP 0 rfl rfl 5 (by decide) ((dr_words hts d) (.fieldLink RX7 70 "PauseRegionsModel" "undos" "I") (List.mem_of_getElem? (i := 2) rfl)) (fun _ h9 => h9) rfl dX7_undo_6 ?_
  refine lv_if_ne (tgt := 15) hx hb dX7_undo_9 (by decide) (fun c1 => ?_) (fun c1 => ?_)
  · rw [if_neg c1] at hsem
    refine lv_aload_n hx hb dX7_undo_15 rfl (lv_at hl 0 rfl) ?_
    refine lv_dup hx hb dX7_undo_16 rfl ?_
    refine va_get (D := g.1) (ci := 7) (v := .int (A1 5 0)) (C := RX7) (T := TX7) (N := 26) hx hb (dr_words hts d) (fun w h => List.mem_cons_of_mem _ (List.mem_append_right _ h)) (hown d) (hK d) hP 0 rfl rfl 5 (by decide) ((dr_words hts d) (.fieldLink RX7 70 "PauseRegionsModel" "undos" "I") (List.mem_of_getElem? (i := 2) rfl)) (fun _ h9 => h9) rfl dX7_undo_17 ?_
    refine lv_iconst (v := 1) hx hb dX7_undo_20 (by decide) ?_
    refine lv_isub hx hb dX7_undo_21 ?_
    refine va_put (D := g.1) (ci := 7) (v := .int ((A1 5 0) - 1)) (ty := .int) (C := RX7) (T := TX7) (N := 26) hx hb (dr_words hts d) (fun w h => List.mem_cons_of_mem _ (List.mem_append_right _ h)) tyX7 tyX7_ok nmX7 (hown d) (hK d) hP hD hS 0 rfl rfl 5 (by decide) ((dr_words hts d) (.fieldLink RX7 70 "PauseRegionsModel" "undos" "I") (List.mem_of_getElem? (i := 2) rfl)) (fun _ h9 => h9) rfl (by decide +kernel) rfl rfl (Nat.le_of_ble_eq_true rfl) dX7_undo_22 (fun H locs hP hD hS => ?_)
    obtain ⟨A2, eA2, hsem⟩ := bd_some hsem
    have hP : va_P g.1 vwCl (wM g ad A2 F) H := by rw [eA2]; exact hP
    have hD : va_D Z (wM g ad A2 F) := by rw [eA2]; exact hD
    refine lv_iconst (v := 0) hx hb dX7_undo_25 (by decide) ?_
    refine lv_istore_n (lv' := [(1, .int 0), (0, .ref (ad 0))]) hx hb dX7_undo_26 rfl hl (by decide) rfl (fun ls hl => ?_)
    obtain ⟨q2, hc1, hsem⟩ := bn_some hsem
    refine loopMD (g := g) hdr hc1 (fun (q1 : Int32 × IA) => [(1, .int q1.1), (0, .ref (ad 0))]) (fun (q1 : IA) => [(0, .ref (ad 0))]) (exit := 61) (fun (q1 : Int32 × IA) (fz1 : Unit) => wM g ad q1.2 F) (fun (q1 : IA) (fz1 : Unit) => wM g ad q1 F) (fun (_ : Int32 × IA) (_ : Unit) => True) (fun (_ : IA) (_ : Unit) => True) () trivial hP hD hS (lv_sub hl [0, 1] rfl) (fun d H locs ls fz1 hdr hrfz1 hP hD hS hl => ?_) (fun q1 r hst1 hin1 hout1 d H locs ls fz1 hdr hrfz1 hP hD hS hl => ?_)
    · have hP : va_P g.1 vwCl (wM g ad q2 F) H := hP
      have hD : va_D Z (wM g ad q2 F) := hD
      refine lv_aload_n hx hb dX7_undo_61 rfl (lv_at hl 0 rfl) ?_
      refine va_get (D := g.1) (ci := 7) (v := .ref (ad 2)) (C := RX7) (T := TX7) (N := 26) hx hb (dr_words hts d) (fun w h => List.mem_cons_of_mem _ (List.mem_append_right _ h)) (hown d) (hK d) hP 0 rfl rfl 2 (by decide) ((dr_words hts d) (.fieldLink RX7 13 "PauseRegionsModel" "learnt" "[F") (List.mem_of_getElem? (i := 5) rfl)) (fun _ h9 => h9) rfl dX7_undo_62 ?_
      refine lv_iconst (v := 0) hx hb dX7_undo_65 (by decide) ?_
      refine lv_aload_n hx hb dX7_undo_66 rfl (lv_at hl 0 rfl) ?_
      refine va_get (D := g.1) (ci := 7) (v := .ref (ad 4)) (C := RX7) (T := TX7) (N := 26) hx hb (dr_words hts d) (fun w h => List.mem_cons_of_mem _ (List.mem_append_right _ h)) (hown d) (hK d) hP 0 rfl rfl 4 (by decide) ((dr_words hts d) (.fieldLink RX7 20 "PauseRegionsModel" "pastLearnt" "[F") (List.mem_of_getElem? (i := 6) rfl)) (fun _ h9 => h9) rfl dX7_undo_67 ?_
      refine lv_iconst (v := 2) hx hb dX7_undo_70 (by decide) ?_
      refine lv_aload_n hx hb dX7_undo_71 rfl (lv_at hl 0 rfl) ?_
      refine va_get (D := g.1) (ci := 7) (v := .int (q2 5 0)) (C := RX7) (T := TX7) (N := 26) hx hb (dr_words hts d) (fun w h => List.mem_cons_of_mem _ (List.mem_append_right _ h)) (hown d) (hK d) hP 0 rfl rfl 5 (by decide) ((dr_words hts d) (.fieldLink RX7 70 "PauseRegionsModel" "undos" "I") (List.mem_of_getElem? (i := 2) rfl)) (fun _ h9 => h9) rfl dX7_undo_72 ?_
      refine lv_imul hx hb dX7_undo_75 ?_
      obtain ⟨h3, hsem⟩ := ck_some hsem
      refine va_fald (D := g.1) hx hb (hK d) hP 4 2 rfl rfl h3 dX7_undo_76 ?_
      have h4 : vp_in 0 2 := inb_vp rfl
      refine va_fast (D := g.1) hx hb (hK d) hP hD hS 2 2 rfl rfl h4 dX7_undo_77 (fun H locs hP hD hS => ?_)
      obtain ⟨F1, eF1⟩ : ∃ z, z = wrF F 2 ((Int32.toNatClampNeg 0)) ((F 4) (2 * (q2 5 0)).toNatClampNeg) := ⟨_, rfl⟩
      obtain ⟨F1c, eF1c, hsem⟩ := bd_some hsem
      have haF1 : AL F1 F1c := by rw [eF1, eF1c]; exact AL.wr hAL (hAL 4 _)
      have hP : va_P g.1 vwCl (wM g ad q2 F1) H := by rw [eF1]; exact hP
      have hD : va_D Z (wM g ad q2 F1) := by rw [eF1]; exact hD
      refine lv_aload_n hx hb dX7_undo_78 rfl (lv_at hl 0 rfl) ?_
      refine va_get (D := g.1) (ci := 7) (v := .ref (ad 2)) (C := RX7) (T := TX7) (N := 26) hx hb (dr_words hts d) (fun w h => List.mem_cons_of_mem _ (List.mem_append_right _ h)) (hown d) (hK d) hP 0 rfl rfl 2 (by decide) ((dr_words hts d) (.fieldLink RX7 13 "PauseRegionsModel" "learnt" "[F") (List.mem_of_getElem? (i := 5) rfl)) (fun _ h9 => h9) rfl dX7_undo_79 ?_
      refine lv_iconst (v := 1) hx hb dX7_undo_82 (by decide) ?_
      refine lv_aload_n hx hb dX7_undo_83 rfl (lv_at hl 0 rfl) ?_
      refine va_get (D := g.1) (ci := 7) (v := .ref (ad 4)) (C := RX7) (T := TX7) (N := 26) hx hb (dr_words hts d) (fun w h => List.mem_cons_of_mem _ (List.mem_append_right _ h)) (hown d) (hK d) hP 0 rfl rfl 4 (by decide) ((dr_words hts d) (.fieldLink RX7 20 "PauseRegionsModel" "pastLearnt" "[F") (List.mem_of_getElem? (i := 6) rfl)) (fun _ h9 => h9) rfl dX7_undo_84 ?_
      refine lv_iconst (v := 2) hx hb dX7_undo_87 (by decide) ?_
      refine lv_aload_n hx hb dX7_undo_88 rfl (lv_at hl 0 rfl) ?_
      refine va_get (D := g.1) (ci := 7) (v := .int (q2 5 0)) (C := RX7) (T := TX7) (N := 26) hx hb (dr_words hts d) (fun w h => List.mem_cons_of_mem _ (List.mem_append_right _ h)) (hown d) (hK d) hP 0 rfl rfl 5 (by decide) ((dr_words hts d) (.fieldLink RX7 70 "PauseRegionsModel" "undos" "I") (List.mem_of_getElem? (i := 2) rfl)) (fun _ h9 => h9) rfl dX7_undo_89 ?_
      refine lv_imul hx hb dX7_undo_92 ?_
      refine lv_iconst (v := 1) hx hb dX7_undo_93 (by decide) ?_
      refine lv_iadd hx hb dX7_undo_94 ?_
      obtain ⟨h5, hsem⟩ := ck_some hsem
      refine va_fald (D := g.1) hx hb (hK d) hP 4 2 rfl rfl h5 dX7_undo_95 ?_
      have h6 : vp_in 1 2 := inb_vp rfl
      refine va_fast (D := g.1) hx hb (hK d) hP hD hS 2 2 rfl rfl h6 dX7_undo_96 (fun H locs hP hD hS => ?_)
      obtain ⟨F2, eF2⟩ : ∃ z, z = wrF F1 2 ((Int32.toNatClampNeg 1)) ((F1 4) ((2 * (q2 5 0)) + 1).toNatClampNeg) := ⟨_, rfl⟩
      obtain ⟨F2c, eF2c, hsem⟩ := bd_some hsem
      have haF2 : AL F2 F2c := by rw [eF2, eF2c]; exact AL.wr haF1 (haF1 4 _)
      have hP : va_P g.1 vwCl (wM g ad q2 F2) H := by rw [eF2]; exact hP
      have hD : va_D Z (wM g ad q2 F2) := by rw [eF2]; exact hD
      refine lv_aload_n hx hb dX7_undo_97 rfl (lv_at hl 0 rfl) ?_
      refine va_get (D := g.1) (ci := 7) (v := .int (q2 5 0)) (C := RX7) (T := TX7) (N := 26) hx hb (dr_words hts d) (fun w h => List.mem_cons_of_mem _ (List.mem_append_right _ h)) (hown d) (hK d) hP 0 rfl rfl 5 (by decide) ((dr_words hts d) (.fieldLink RX7 70 "PauseRegionsModel" "undos" "I") (List.mem_of_getElem? (i := 2) rfl)) (fun _ h9 => h9) rfl dX7_undo_98 ?_
      have eo := (Option.some.inj hsem).symm.symm
      refine W.endD hdr ?_
      subst eo
      exact W.iret (v := (q2 5 0)) hx hb hr (fun t ht hW => ⟨⟨_, F2, rfl, ⟨rfl, haF2⟩, ⟨by rw [ht]; exact hP, hD⟩⟩, hS.F ht⟩) hS.2.2 dX7_undo_101
    · unfold sX7_undo_L27 at hst1
      have hP : va_P g.1 vwCl (wM g ad q1.2 F) H := hP
      have hD : va_D Z (wM g ad q1.2 F) := hD
      refine lv_iload_n hx hb dX7_undo_27 rfl (lv_at hl 0 rfl) ?_
      refine lv_sipush (v := 296) hx hb dX7_undo_28 (by decide) ?_
      refine lv_icmp_ge (tgt := 61) hx hb dX7_undo_31 (by decide) (fun c2 => ?_) (fun c2 => ?_)
      · rw [if_pos c2] at hst1
        exact hout1 _ H locs ls () _ (Option.some.inj hst1).symm hdr trivial hP hD hS (lv_sub hl [1] rfl)
      · rw [if_neg c2] at hst1
        refine lv_aload_n hx hb dX7_undo_34 rfl (lv_at hl 1 rfl) ?_
        refine va_get (D := g.1) (ci := 7) (v := .ref (ad 1)) (C := RX7) (T := TX7) (N := 26) hx hb (dr_words hts d) (fun w h => List.mem_cons_of_mem _ (List.mem_append_right _ h)) (hown d) (hK d) hP 0 rfl rfl 1 (by decide) ((dr_words hts d) (.fieldLink RX7 7 "PauseRegionsModel" "s" "[I") (List.mem_of_getElem? (i := 3) rfl)) (fun _ h9 => h9) rfl dX7_undo_35 ?_
        refine lv_iload_n hx hb dX7_undo_38 rfl (lv_at hl 0 rfl) ?_
        refine lv_aload_n hx hb dX7_undo_39 rfl (lv_at hl 1 rfl) ?_
        refine va_get (D := g.1) (ci := 7) (v := .ref (ad 3)) (C := RX7) (T := TX7) (N := 26) hx hb (dr_words hts d) (fun w h => List.mem_cons_of_mem _ (List.mem_append_right _ h)) (hown d) (hK d) hP 0 rfl rfl 3 (by decide) ((dr_words hts d) (.fieldLink RX7 17 "PauseRegionsModel" "past" "[I") (List.mem_of_getElem? (i := 4) rfl)) (fun _ h9 => h9) rfl dX7_undo_40 ?_
        refine lv_sipush (v := 296) hx hb dX7_undo_43 (by decide) ?_
        refine lv_aload_n hx hb dX7_undo_46 rfl (lv_at hl 1 rfl) ?_
        refine va_get (D := g.1) (ci := 7) (v := .int (q1.2 5 0)) (C := RX7) (T := TX7) (N := 26) hx hb (dr_words hts d) (fun w h => List.mem_cons_of_mem _ (List.mem_append_right _ h)) (hown d) (hK d) hP 0 rfl rfl 5 (by decide) ((dr_words hts d) (.fieldLink RX7 70 "PauseRegionsModel" "undos" "I") (List.mem_of_getElem? (i := 2) rfl)) (fun _ h9 => h9) rfl dX7_undo_47 ?_
        refine lv_imul hx hb dX7_undo_50 ?_
        refine lv_iload_n hx hb dX7_undo_51 rfl (lv_at hl 0 rfl) ?_
        refine lv_iadd hx hb dX7_undo_52 ?_
        obtain ⟨h1, hst1⟩ := ck_some hst1
        refine va_iald (D := g.1) hx hb (hK d) hP 3 0 rfl rfl h1 dX7_undo_53 ?_
        obtain ⟨h2, hst1⟩ := ck_some hst1
        refine va_iast (D := g.1) hx hb (hK d) hP hD hS 1 0 rfl rfl h2 dX7_undo_54 (fun H locs hP hD hS => ?_)
        obtain ⟨A3, eA3, hst1⟩ := bd_some hst1
        have hP : va_P g.1 vwCl (wM g ad A3 F) H := by rw [eA3]; exact hP
        have hD : va_D Z (wM g ad A3 F) := by rw [eA3]; exact hD
        refine lv_iinc (v := q1.1 + 1) (lv' := [(1, .int (q1.1 + 1)), (0, .ref (ad 0))]) hx hb dX7_undo_55 hl (k := 0) rfl rfl (by decide) rfl (fun ls hl => ?_)
        refine lv_goto (tgt := 27) hx hb dX7_undo_58 (by decide) ?_
        exact hin1 _ H locs ls () _ (Option.some.inj hst1).symm hdr trivial hP hD hS (lv_sub hl [0, 1] rfl)
  · rw [if_pos c1] at hsem
    refine lv_bipush (v := (-2)) hx hb dX7_undo_12 (by decide) ?_
    have eo := (Option.some.inj hsem).symm.symm
    refine W.endD hdr ?_
    subst eo
    exact W.iret (v := (-2)) hx hb hr (fun t ht hW => ⟨⟨_, F, rfl, ⟨rfl, hAL⟩, ⟨by rw [ht]; exact hP, hD⟩⟩, hS.F ht⟩) hS.2.2 dX7_undo_14
def sX7_way_L79 (z2 : IA) (q1 : Int32 × Int32) (q2 : Int32) : Option ((Int32) ⊕ (Int32)) :=
  ck q2 32 (if ((z2 24) q2.toNatClampNeg) = q1.2 then (ck q2 32 (if ((z2 25) q2.toNatClampNeg) = 0 then (some (.inl (q2 + 1))) else (if q1.2 ≤ 1 then (some (.inr q2)) else ((sX7_isFieldOf z2 q1.1 q2).bind fun x2 => if x2 = 0 then (some (.inl (q2 + 1))) else (some (.inr q2)))))) else (some (.inl (q2 + 1))))
def sX7_way_L68 (p1 : Int32) (z2 : IA) (q1 : Int32 × Int32) : Option ((Int32 × Int32) ⊕ (Int32)) :=
  if (p1 + 1) < q1.2 then (some (.inr q1.1)) else ((loopN (sX7_way_L79 z2 q1) 2000 0).bind fun q3 => some (.inl (q3, q1.2 + 1)))
def sX7_way (A : IA) (p0 : Int32) (p1 : Int32) : Option (Int32 × IA) :=
  bd (sc A 0 0) fun A1 => (sX7_isThing A1 p0).bind fun x1 => if x1 = 0 then (some (((-1), A1))) else (if (-1) ≤ p1 then ((sX7_laysFar A1).bind fun z1 => ck p0 32 (if ((z1 24) p0.toNatClampNeg) = 0 then (some (((-9), z1))) else (ck p0 32 (if p1 < ((z1 24) p0.toNatClampNeg) then (if 0 ≤ p1 then ((sX7_laysLeads z1 p0).bind fun z2 => (loopN (sX7_way_L68 p1 z2) 2000 (((-9), 1))).bind fun q4 => some (q4, z2)) else (ck p0 32 (some (((z1 24) p0.toNatClampNeg, z1))))) else (some (((-9), z1))))))) else (some (((-1), A1))))
abbrev rmX7_way : Room := { frames := 3, cells := 0, slots := 0, locals := 68 }
theorem hdX7_way : yX7_way.cls = RX7 ∧ yX7_way.cls ≠ "java/lang/invoke/MethodHandle" ∧ yX7_way.cls ≠ "java/lang/invoke/VarHandle" ∧ (parseMethodDescriptor yX7_way.desc).map (fun d => d.parameters.length) = some 2 := by decide +kernel
set_option maxHeartbeats 4000000 in
set_option maxRecDepth 100000 in
theorem kX7_way {l : Launch} {g : GG} {sz : Nat} {ad : Nat → Nat} {A : IA} {F : FA} {p0 p1 : Int32} {b : Int32 × IA} (hsem : sX7_way A p0 p1 = some b) : MetI l yX7_way wsX7_way rmX7_way g [.ref (ad 0), .int p0, .int p1] (wM g ad A F) sz b.1 (wM g ad b.2 F) := by
  refine Met.ofW (cc := cX7_way) (maxL := 6) (ret := (some .int)) (by decide) rfl ?_
  intro p e s m args below meth c s₁ B hml hv
  obtain ⟨rfl, hsz, hP, hD0, hKK⟩ := hv
  subst hsz
  have hx := B.exec
  have hb := B.bytes
  have hr := B.returns
  have hts := atoms_spec (ws := wsX7_way) B.pre
  have hown : s.vm.findClass RX7 = some m.cls := findClass_of_methodNamed B.named
  have hlocks := B.notSynchronized
  have hK := hKK.1
  have hD := hD0.self (sz := s.heap.size)
  generalize hZe : va_A (wM g ad A F) s.heap.size = Z at hD ⊢
  have hZ : ∀ q : Nat, s.heap.size ≤ q → Z q := fun q h => by rw [← hZe]; exact Or.inr h
  have hS : va_S Z s.heap s.heap [] := va_S.rf
  have hP : va_P g.1 vwCl (wM g ad A F) s.heap := hP
  have hD : va_D Z (wM g ad A F) := hD
  have hl := lv_entry ([.ref (ad 0), .int p0, .int p1]) (n := 6) (Nat.le_of_ble_eq_true rfl)
  rw [lg_entry_eq]
  generalize (lg_sl ([.ref (ad 0), .int p0, .int p1]) ++ List.replicate (6 - (lg_sl ([.ref (ad 0), .int p0, .int p1])).length) Slot.unset).toArray = ls at hl ⊢
  have hl : lv_has ls 6 [(0, .ref (ad 0)), (1, .int p0), (2, .int p1)] := hl
  unfold sX7_way at hsem
  refine lv_aload_n hx hb dX7_way_0 rfl (lv_at hl 0 rfl) ?_
  refine lv_iconst (v := 0) hx hb dX7_way_1 (by decide) ?_
  refine va_put (D := g.1) (ci := 7) (v := .int 0) (ty := .int) (C := RX7) (T := TX7) (N := 26) hx hb hts (fun w h => List.mem_cons_of_mem _ (List.mem_append_right _ h)) tyX7 tyX7_ok nmX7 hown hK hP hD hS 0 rfl rfl 0 (by decide) (hts (.fieldLink RX7 55 "PauseRegionsModel" "thrown" "I") (List.mem_of_getElem? (i := 1) rfl)) (fun _ h9 => h9) rfl (by decide +kernel) rfl rfl (Nat.le_of_ble_eq_true rfl) dX7_way_2 (fun H locs hP hD hS => ?_)
  obtain ⟨A1, eA1, hsem⟩ := bd_some hsem
  have hP : va_P g.1 vwCl (wM g ad A1 F) H := by rw [eA1]; exact hP
  have hD : va_D Z (wM g ad A1 F) := by rw [eA1]; exact hD
  refine lv_aload_n hx hb dX7_way_5 rfl (lv_at hl 0 rfl) ?_
  refine lv_iload_n hx hb dX7_way_6 rfl (lv_at hl 1 rfl) ?_
  obtain ⟨x1, hc1, hsem⟩ := bn_some hsem
  refine pcV (C := RX7) (As := [.int p0]) (rest := []) ⟨hx, hb, hml, hown, hts⟩ hKK (cwV 1 hts gX7_way_X7_isThing rfl rfl rfl hdX7_isThing ⟨Nat.le_of_ble_eq_true rfl, Nat.le_of_ble_eq_true rfl⟩) (kX7_isThing (l := l) (g := g) hP hc1) (va_recv hK hP (ci := 7) (q0 := 0) rfl rfl) rfl hl.1 rfl (Nat.le_of_ble_eq_true rfl) dX7_way_7 ⟨Nat.zero_le _, Nat.zero_le _⟩ ?_
  refine lv_if_eq (tgt := 18) hx hb dX7_way_10 (by decide) (fun c1 => ?_) (fun c1 => ?_)
  · rw [if_pos c1] at hsem
    refine lv_iconst (v := (-1)) hx hb dX7_way_18 (by decide) ?_
    have eo := (Option.some.inj hsem).symm.symm
    subst eo
    exact W.iret (v := (-1)) hx hb hr (fun t ht hW => ⟨⟨_, (), rfl, rfl, ⟨by rw [ht]; exact hP, hD⟩⟩, hS.F ht⟩) hS.2.2 dX7_way_19
  · rw [if_neg c1] at hsem
    refine lv_iload_n hx hb dX7_way_13 rfl (lv_at hl 2 rfl) ?_
    refine lv_iconst (v := (-1)) hx hb dX7_way_14 (by decide) ?_
    refine lv_icmp_ge (tgt := 20) hx hb dX7_way_15 (by decide) (fun c2 => ?_) (fun c2 => ?_)
    · rw [if_pos c2] at hsem
      refine lv_aload_n hx hb dX7_way_20 rfl (lv_at hl 0 rfl) ?_
      obtain ⟨z1, hc2, hsem⟩ := bn_some hsem
      refine mcV (C := RX7) (As := []) (rest := []) ⟨hx, hb, hml, hown, hts⟩ hKK hP hD hS hZ (cwV 0 hts gX7_way_X7_laysFar rfl rfl rfl hdX7_laysFar ⟨Nat.le_of_ble_eq_true rfl, Nat.le_of_ble_eq_true rfl⟩) (kX7_laysFar (l := l) (g := g) (ad := ad) (A := A1) (F := F) hc2) (va_recv hK hP (ci := 7) (q0 := 0) rfl rfl) rfl hl.1 rfl (Nat.le_of_ble_eq_true rfl) dX7_way_21 ⟨Nat.zero_le _, Nat.zero_le _⟩ (fun H locs hP hD hS => ?_)
      have hP : va_P g.1 vwCl (wM g ad z1 F) H := hP
      have hD : va_D Z (wM g ad z1 F) := hD
      refine lv_aload_n hx hb dX7_way_24 rfl (lv_at hl 0 rfl) ?_
      refine va_get (D := g.1) (ci := 7) (v := .ref (ad 13)) (C := RX7) (T := TX7) (N := 26) hx hb hts (fun w h => List.mem_cons_of_mem _ (List.mem_append_right _ h)) hown hK hP 0 rfl rfl 24 (by decide) (hts (.fieldLink RX7 48 "PauseRegionsModel" "far" "[I") (List.mem_of_getElem? (i := 2) rfl)) (fun _ h9 => h9) rfl dX7_way_25 ?_
      refine lv_iload_n hx hb dX7_way_28 rfl (lv_at hl 1 rfl) ?_
      obtain ⟨h1, hsem⟩ := ck_some hsem
      refine va_iald (D := g.1) hx hb hK hP 13 0 rfl rfl h1 dX7_way_29 ?_
      refine lv_if_eq (tgt := 43) hx hb dX7_way_30 (by decide) (fun c3 => ?_) (fun c3 => ?_)
      · rw [if_pos c3] at hsem
        refine lv_bipush (v := (-9)) hx hb dX7_way_43 (by decide) ?_
        have eo := (Option.some.inj hsem).symm.symm
        subst eo
        exact W.iret (v := (-9)) hx hb hr (fun t ht hW => ⟨⟨_, (), rfl, rfl, ⟨by rw [ht]; exact hP, hD⟩⟩, hS.F ht⟩) hS.2.2 dX7_way_45
      · rw [if_neg c3] at hsem
        refine lv_iload_n hx hb dX7_way_33 rfl (lv_at hl 2 rfl) ?_
        refine lv_aload_n hx hb dX7_way_34 rfl (lv_at hl 0 rfl) ?_
        refine va_get (D := g.1) (ci := 7) (v := .ref (ad 13)) (C := RX7) (T := TX7) (N := 26) hx hb hts (fun w h => List.mem_cons_of_mem _ (List.mem_append_right _ h)) hown hK hP 0 rfl rfl 24 (by decide) (hts (.fieldLink RX7 48 "PauseRegionsModel" "far" "[I") (List.mem_of_getElem? (i := 2) rfl)) (fun _ h9 => h9) rfl dX7_way_35 ?_
        refine lv_iload_n hx hb dX7_way_38 rfl (lv_at hl 1 rfl) ?_
        obtain ⟨h2, hsem⟩ := ck_some hsem
        refine va_iald (D := g.1) hx hb hK hP 13 0 rfl rfl h2 dX7_way_39 ?_
        refine lv_icmp_lt (tgt := 46) hx hb dX7_way_40 (by decide) (fun c4 => ?_) (fun c4 => ?_)
        · rw [if_pos c4] at hsem
          refine lv_iload_n hx hb dX7_way_46 rfl (lv_at hl 2 rfl) ?_
          refine lv_if_ge (tgt := 57) hx hb dX7_way_47 (by decide) (fun c5 => ?_) (fun c5 => ?_)
          · rw [if_pos c5] at hsem
            refine lv_aload_n hx hb dX7_way_57 rfl (lv_at hl 0 rfl) ?_
            refine lv_iload_n hx hb dX7_way_58 rfl (lv_at hl 1 rfl) ?_
            obtain ⟨z2, hc3, hsem⟩ := bn_some hsem
            refine mcV (C := RX7) (As := [.int p0]) (rest := []) ⟨hx, hb, hml, hown, hts⟩ hKK hP hD hS hZ (cwV 1 hts gX7_way_X7_laysLeads rfl rfl rfl hdX7_laysLeads ⟨Nat.le_of_ble_eq_true rfl, Nat.le_of_ble_eq_true rfl⟩) (kX7_laysLeads (l := l) (g := g) (ad := ad) (A := z1) (F := F) hc3) (va_recv hK hP (ci := 7) (q0 := 0) rfl rfl) rfl hl.1 rfl (Nat.le_of_ble_eq_true rfl) dX7_way_59 ⟨Nat.zero_le _, Nat.zero_le _⟩ (fun H locs hP hD hS => ?_)
            have hP : va_P g.1 vwCl (wM g ad z2 F) H := hP
            have hD : va_D Z (wM g ad z2 F) := hD
            refine lv_bipush (v := (-9)) hx hb dX7_way_62 (by decide) ?_
            refine lv_istore_n (lv' := [(3, .int (-9)), (0, .ref (ad 0)), (1, .int p0), (2, .int p1)]) hx hb dX7_way_64 rfl hl (by decide) rfl (fun ls hl => ?_)
            refine lv_iconst (v := 1) hx hb dX7_way_65 (by decide) ?_
            refine lv_istore (lv' := [(4, .int 1), (3, .int (-9)), (0, .ref (ad 0)), (1, .int p0), (2, .int p1)]) hx hb dX7_way_66 hl (by decide) rfl (fun ls hl => ?_)
            obtain ⟨q4, hc6, hsem⟩ := bn_some hsem
            refine loopM (g := g) hc6 (fun (q1 : Int32 × Int32) => [(4, .int q1.2), (3, .int q1.1), (0, .ref (ad 0)), (2, .int p1)]) (fun (q1 : Int32) => [(3, .int q1)]) (exit := 132) (fun (q1 : Int32 × Int32) => wM g ad z2 F) (fun (q1 : Int32) => wM g ad z2 F) hP hD hS (lv_sub hl [0, 1, 2, 4] rfl) (fun H locs ls hP hD hS hl => ?_) (fun q1 r hst1 hin1 hout1 H locs ls hP hD hS hl => ?_)
            · have hP : va_P g.1 vwCl (wM g ad z2 F) H := hP
              have hD : va_D Z (wM g ad z2 F) := hD
              refine lv_iload_n hx hb dX7_way_132 rfl (lv_at hl 0 rfl) ?_
              have eo := (Option.some.inj hsem).symm.symm
              subst eo
              exact W.iret (v := q4) hx hb hr (fun t ht hW => ⟨⟨_, (), rfl, rfl, ⟨by rw [ht]; exact hP, hD⟩⟩, hS.F ht⟩) hS.2.2 dX7_way_133
            · unfold sX7_way_L68 at hst1
              have hP : va_P g.1 vwCl (wM g ad z2 F) H := hP
              have hD : va_D Z (wM g ad z2 F) := hD
              refine lv_iload hx hb dX7_way_68 (lv_at hl 0 rfl) ?_
              refine lv_iload_n hx hb dX7_way_70 rfl (lv_at hl 3 rfl) ?_
              refine lv_iconst (v := 1) hx hb dX7_way_71 (by decide) ?_
              refine lv_iadd hx hb dX7_way_72 ?_
              refine lv_icmp_gt (tgt := 132) hx hb dX7_way_73 (by decide) (fun c6 => ?_) (fun c6 => ?_)
              · rw [if_pos c6] at hst1
                exact hout1 H locs ls _ (Option.some.inj hst1).symm hP hD hS (lv_sub hl [1] rfl)
              · rw [if_neg c6] at hst1
                refine lv_iconst (v := 0) hx hb dX7_way_76 (by decide) ?_
                refine lv_istore (lv' := [(5, .int 0), (4, .int q1.2), (3, .int q1.1), (0, .ref (ad 0)), (2, .int p1)]) hx hb dX7_way_77 hl (by decide) rfl (fun ls hl => ?_)
                obtain ⟨q3, hc5, hst1⟩ := bn_some hst1
                refine loopM (g := g) hc5 (fun (q2 : Int32) => [(5, .int q2), (4, .int q1.2), (3, .int q1.1), (0, .ref (ad 0)), (2, .int p1)]) (fun (q2 : Int32) => [(5, .int q2), (4, .int q1.2), (0, .ref (ad 0)), (2, .int p1)]) (exit := 123) (fun (q2 : Int32) => wM g ad z2 F) (fun (q2 : Int32) => wM g ad z2 F) hP hD hS (lv_sub hl [0, 1, 2, 3, 4] rfl) (fun H locs ls hP hD hS hl => ?_) (fun q2 r hst2 hin2 hout2 H locs ls hP hD hS hl => ?_)
                · have hP : va_P g.1 vwCl (wM g ad z2 F) H := hP
                  have hD : va_D Z (wM g ad z2 F) := hD
                  refine lv_iload hx hb dX7_way_123 (lv_at hl 0 rfl) ?_
                  refine lv_istore_n (lv' := [(3, .int q3), (5, .int q3), (4, .int q1.2), (0, .ref (ad 0)), (2, .int p1)]) hx hb dX7_way_125 rfl hl (by decide) rfl (fun ls hl => ?_)
                  refine lv_iinc (v := q1.2 + 1) (lv' := [(4, .int (q1.2 + 1)), (3, .int q3), (5, .int q3), (0, .ref (ad 0)), (2, .int p1)]) hx hb dX7_way_126 hl (k := 2) rfl rfl (by decide) rfl (fun ls hl => ?_)
                  refine lv_goto (tgt := 68) hx hb dX7_way_129 (by decide) ?_
                  exact hin1 H locs ls _ (Option.some.inj hst1).symm hP hD hS (lv_sub hl [0, 1, 3, 4] rfl)
                · unfold sX7_way_L79 at hst2
                  have hP : va_P g.1 vwCl (wM g ad z2 F) H := hP
                  have hD : va_D Z (wM g ad z2 F) := hD
                  refine lv_aload_n hx hb dX7_way_79 rfl (lv_at hl 3 rfl) ?_
                  refine va_get (D := g.1) (ci := 7) (v := .ref (ad 13)) (C := RX7) (T := TX7) (N := 26) hx hb hts (fun w h => List.mem_cons_of_mem _ (List.mem_append_right _ h)) hown hK hP 0 rfl rfl 24 (by decide) (hts (.fieldLink RX7 48 "PauseRegionsModel" "far" "[I") (List.mem_of_getElem? (i := 2) rfl)) (fun _ h9 => h9) rfl dX7_way_80 ?_
                  refine lv_iload hx hb dX7_way_83 (lv_at hl 0 rfl) ?_
                  obtain ⟨h3, hst2⟩ := ck_some hst2
                  refine va_iald (D := g.1) hx hb hK hP 13 0 rfl rfl h3 dX7_way_85 ?_
                  refine lv_iload hx hb dX7_way_86 (lv_at hl 1 rfl) ?_
                  refine lv_icmp_ne (tgt := 117) hx hb dX7_way_88 (by decide) (fun c7 => ?_) (fun c7 => ?_)
                  · rw [if_neg c7] at hst2
                    refine lv_iinc (v := q2 + 1) (lv' := [(5, .int (q2 + 1)), (4, .int q1.2), (3, .int q1.1), (0, .ref (ad 0)), (2, .int p1)]) hx hb dX7_way_117 hl (k := 0) rfl rfl (by decide) rfl (fun ls hl => ?_)
                    refine lv_goto (tgt := 79) hx hb dX7_way_120 (by decide) ?_
                    exact hin2 H locs ls _ (Option.some.inj hst2).symm hP hD hS (lv_sub hl [0, 1, 2, 3, 4] rfl)
                  · rw [if_pos c7] at hst2
                    refine lv_aload_n hx hb dX7_way_91 rfl (lv_at hl 3 rfl) ?_
                    refine va_get (D := g.1) (ci := 7) (v := .ref (ad 14)) (C := RX7) (T := TX7) (N := 26) hx hb hts (fun w h => List.mem_cons_of_mem _ (List.mem_append_right _ h)) hown hK hP 0 rfl rfl 25 (by decide) (hts (.fieldLink RX7 51 "PauseRegionsModel" "leads" "[Z") (List.mem_of_getElem? (i := 3) rfl)) (fun _ h9 => h9) rfl dX7_way_92 ?_
                    refine lv_iload hx hb dX7_way_95 (lv_at hl 0 rfl) ?_
                    obtain ⟨h4, hst2⟩ := ck_some hst2
                    refine va_zald (D := g.1) hx hb hK hP 14 1 rfl rfl h4 dX7_way_97 ?_
                    refine lv_if_eq (tgt := 117) hx hb dX7_way_98 (by decide) (fun c8 => ?_) (fun c8 => ?_)
                    · rw [if_pos c8] at hst2
                      refine lv_iinc (v := q2 + 1) (lv' := [(5, .int (q2 + 1)), (4, .int q1.2), (3, .int q1.1), (0, .ref (ad 0)), (2, .int p1)]) hx hb dX7_way_117 hl (k := 0) rfl rfl (by decide) rfl (fun ls hl => ?_)
                      refine lv_goto (tgt := 79) hx hb dX7_way_120 (by decide) ?_
                      exact hin2 H locs ls _ (Option.some.inj hst2).symm hP hD hS (lv_sub hl [0, 1, 2, 3, 4] rfl)
                    · rw [if_neg c8] at hst2
                      refine lv_iload hx hb dX7_way_101 (lv_at hl 1 rfl) ?_
                      refine lv_iconst (v := 1) hx hb dX7_way_103 (by decide) ?_
                      refine lv_icmp_le (tgt := 123) hx hb dX7_way_104 (by decide) (fun c9 => ?_) (fun c9 => ?_)
                      · rw [if_pos c9] at hst2
                        exact hout2 H locs ls _ (Option.some.inj hst2).symm hP hD hS (lv_sub hl [0, 1, 3, 4] rfl)
                      · rw [if_neg c9] at hst2
                        refine lv_aload_n hx hb dX7_way_107 rfl (lv_at hl 3 rfl) ?_
                        refine lv_iload_n hx hb dX7_way_108 rfl (lv_at hl 2 rfl) ?_
                        refine lv_iload hx hb dX7_way_109 (lv_at hl 0 rfl) ?_
                        obtain ⟨x2, hc4, hst2⟩ := bn_some hst2
                        refine pcV (C := RX7) (As := [.int q1.1, .int q2]) (rest := []) ⟨hx, hb, hml, hown, hts⟩ hKK (cwV 2 hts gX7_way_X7_isFieldOf rfl rfl rfl hdX7_isFieldOf ⟨Nat.le_of_ble_eq_true rfl, Nat.le_of_ble_eq_true rfl⟩) (kX7_isFieldOf (l := l) (g := g) hP hc4) (va_recv hK hP (ci := 7) (q0 := 0) rfl rfl) rfl hl.1 rfl (Nat.le_of_ble_eq_true rfl) dX7_way_111 ⟨Nat.zero_le _, Nat.zero_le _⟩ ?_
                        refine lv_if_ne (tgt := 123) hx hb dX7_way_114 (by decide) (fun c10 => ?_) (fun c10 => ?_)
                        · rw [if_neg c10] at hst2
                          exact hout2 H locs ls _ (Option.some.inj hst2).symm hP hD hS (lv_sub hl [0, 1, 3, 4] rfl)
                        · rw [if_pos c10] at hst2
                          refine lv_iinc (v := q2 + 1) (lv' := [(5, .int (q2 + 1)), (4, .int q1.2), (3, .int q1.1), (0, .ref (ad 0)), (2, .int p1)]) hx hb dX7_way_117 hl (k := 0) rfl rfl (by decide) rfl (fun ls hl => ?_)
                          refine lv_goto (tgt := 79) hx hb dX7_way_120 (by decide) ?_
                          exact hin2 H locs ls _ (Option.some.inj hst2).symm hP hD hS (lv_sub hl [0, 1, 2, 3, 4] rfl)
          · rw [if_neg c5] at hsem
            refine lv_aload_n hx hb dX7_way_50 rfl (lv_at hl 0 rfl) ?_
            refine va_get (D := g.1) (ci := 7) (v := .ref (ad 13)) (C := RX7) (T := TX7) (N := 26) hx hb hts (fun w h => List.mem_cons_of_mem _ (List.mem_append_right _ h)) hown hK hP 0 rfl rfl 24 (by decide) (hts (.fieldLink RX7 48 "PauseRegionsModel" "far" "[I") (List.mem_of_getElem? (i := 2) rfl)) (fun _ h9 => h9) rfl dX7_way_51 ?_
            refine lv_iload_n hx hb dX7_way_54 rfl (lv_at hl 1 rfl) ?_
            obtain ⟨h5, hsem⟩ := ck_some hsem
            refine va_iald (D := g.1) hx hb hK hP 13 0 rfl rfl h5 dX7_way_55 ?_
            have eo := (Option.some.inj hsem).symm.symm
            subst eo
            exact W.iret (v := (z1 24) p0.toNatClampNeg) hx hb hr (fun t ht hW => ⟨⟨_, (), rfl, rfl, ⟨by rw [ht]; exact hP, hD⟩⟩, hS.F ht⟩) hS.2.2 dX7_way_56
        · rw [if_neg c4] at hsem
          refine lv_bipush (v := (-9)) hx hb dX7_way_43 (by decide) ?_
          have eo := (Option.some.inj hsem).symm.symm
          subst eo
          exact W.iret (v := (-9)) hx hb hr (fun t ht hW => ⟨⟨_, (), rfl, rfl, ⟨by rw [ht]; exact hP, hD⟩⟩, hS.F ht⟩) hS.2.2 dX7_way_45
    · rw [if_neg c2] at hsem
      refine lv_iconst (v := (-1)) hx hb dX7_way_18 (by decide) ?_
      have eo := (Option.some.inj hsem).symm.symm
      subst eo
      exact W.iret (v := (-1)) hx hb hr (fun t ht hW => ⟨⟨_, (), rfl, rfl, ⟨by rw [ht]; exact hP, hD⟩⟩, hS.F ht⟩) hS.2.2 dX7_way_19
def sX7_would_L16 (q1 : Int32 × IA) : Option ((Int32 × IA) ⊕ (IA)) :=
  if 296 ≤ q1.1 then (some (.inr q1.2)) else (ck q1.1 296 (ck q1.1 296 (bd (wr q1.2 9 q1.1.toNatClampNeg ((q1.2 1) q1.1.toNatClampNeg)) fun A2 => some (.inl (q1.1 + 1, A2)))))
def sX7_would_L73 (q3 : Int32 × IA) : Option ((Int32 × IA) ⊕ (IA)) :=
  if 296 ≤ q3.1 then (some (.inr q3.2)) else (ck q3.1 296 (ck q3.1 296 (bd (wr q3.2 1 q3.1.toNatClampNeg ((q3.2 9) q3.1.toNatClampNeg)) fun A3 => some (.inl (q3.1 + 1, A3)))))
def sX7_would (A : IA) (Fc : FA) (p0 : Int32) : Option (Int32 × IA × FA) :=
  bd (sc A 0 0) fun A1 => (sX7_isGoal p0).bind fun x1 => if x1 = 0 then (some (((-1), A1, Fc))) else ((loopN (sX7_would_L16) 2000 (0, A1)).bind fun q2 => bd (wrF Fc 10 ((Int32.toNatClampNeg 0)) (Fc 2 (Int32.toNatClampNeg 0))) fun F1c => bd (wrF F1c 10 ((Int32.toNatClampNeg 1)) (F1c 2 (Int32.toNatClampNeg 1))) fun F2c => (sX7_pause q2 F2c p0).bind fun z1 => (loopN (sX7_would_L73) 2000 (0, z1.2.1)).bind fun q4 => bd (wrF z1.2.2 2 ((Int32.toNatClampNeg 0)) (z1.2.2 10 (Int32.toNatClampNeg 0))) fun F3c => bd (wrF F3c 2 ((Int32.toNatClampNeg 1)) (F3c 10 (Int32.toNatClampNeg 1))) fun F4c => some (z1.1, q4, F4c))
abbrev rmX7_would : Room := { frames := 6, cells := 0, slots := 0, locals := 134 }
theorem hdX7_would : yX7_would.cls = RX7 ∧ yX7_would.cls ≠ "java/lang/invoke/MethodHandle" ∧ yX7_would.cls ≠ "java/lang/invoke/VarHandle" ∧ (parseMethodDescriptor yX7_would.desc).map (fun d => d.parameters.length) = some 1 := by decide +kernel
set_option maxHeartbeats 4000000 in
set_option maxRecDepth 100000 in
theorem kX7_would {l : Launch} {g : GG} {sz : Nat} {ad : Nat → Nat} {A : IA} {F : FA} {p0 : Int32} {Fc : FA} (hAL : AL F Fc) {b : Int32 × IA × FA} (hsem : sX7_would A Fc p0 = some b) : MetDI l yX7_would wsX7_would rmX7_would g [.ref (ad 0), .int p0] (wM g ad A F) sz b.1 (φ := FA) (fun u => AL u b.2.2) (fun u => wM g ad b.2.1 u) := by
  refine MetD.ofW (cc := cX7_would) (maxL := 4) (ret := (some .int)) (by decide) rfl ?_
  intro p e s m args below meth c s₁ B hml hv hdr
  obtain ⟨rfl, hsz, hP, hD0, hKK⟩ := hv
  subst hsz
  have hx := B.exec
  have hb := B.bytes
  have hr := B.returns
  have hts := atoms_spec (ws := wsX7_would) B.pre
  have hown : ∀ d, (s.setDrawn d).vm.findClass RX7 = some m.cls := fun _ => findClass_of_methodNamed B.named
  have hlocks := B.notSynchronized
  have hK : ∀ d, va_K g.1 vwCl (KT g) (s.setDrawn d) := fun d => (hKK.drawn d).1
  have hD := hD0.self (sz := s.heap.size)
  generalize hZe : va_A (wM g ad A F) s.heap.size = Z at hD ⊢
  have hZ : ∀ q : Nat, s.heap.size ≤ q → Z q := fun q h => by rw [← hZe]; exact Or.inr h
  have hS : va_S Z s.heap s.heap [] := va_S.rf
  have hP : va_P g.1 vwCl (wM g ad A F) s.heap := hP
  have hD : va_D Z (wM g ad A F) := hD
  obtain ⟨d, hdr, hdd⟩ : ∃ d, s.drawn.sameBut d lw_cs ∧ s.drawn = d := ⟨_, hdr, rfl⟩
  rw [hdd]
  have hl := lv_entry ([.ref (ad 0), .int p0]) (n := 4) (Nat.le_of_ble_eq_true rfl)
  rw [lg_entry_eq]
  generalize (lg_sl ([.ref (ad 0), .int p0]) ++ List.replicate (4 - (lg_sl ([.ref (ad 0), .int p0])).length) Slot.unset).toArray = ls at hl ⊢
  have hl : lv_has ls 4 [(0, .ref (ad 0)), (1, .int p0)] := hl
  unfold sX7_would at hsem
  refine lv_aload_n hx hb dX7_would_0 rfl (lv_at hl 0 rfl) ?_
  refine lv_iconst (v := 0) hx hb dX7_would_1 (by decide) ?_
  refine va_put (D := g.1) (ci := 7) (v := .int 0) (ty := .int) (C := RX7) (T := TX7) (N := 26) hx hb (dr_words hts d) (fun w h => List.mem_cons_of_mem _ (List.mem_append_right _ h)) tyX7 tyX7_ok nmX7 (hown d) (hK d) hP hD hS 0 rfl rfl 0 (by decide) ((dr_words hts d) (.fieldLink RX7 55 "PauseRegionsModel" "thrown" "I") (List.mem_of_getElem? (i := 1) rfl)) (fun _ h9 => h9) rfl (by decide +kernel) rfl rfl (Nat.le_of_ble_eq_true rfl) dX7_would_2 (fun H locs hP hD hS => ?_)
  obtain ⟨A1, eA1, hsem⟩ := bd_some hsem
  have hP : va_P g.1 vwCl (wM g ad A1 F) H := by rw [eA1]; exact hP
  have hD : va_D Z (wM g ad A1 F) := by rw [eA1]; exact hD
  refine lv_iload_n hx hb dX7_would_5 rfl (lv_at hl 1 rfl) ?_
  obtain ⟨x1, hc1, hsem⟩ := bn_some hsem
  refine pcS (As := [.int p0]) (rest := []) ⟨hx, hb, hml, (hown d), (dr_words hts d)⟩ (hKK.drawn d) (va_cwS 1 (dr_words hts d) gX7_would_X7_isGoal rfl rfl rfl hdX7_isGoal ⟨Nat.le_of_ble_eq_true rfl, Nat.le_of_ble_eq_true rfl⟩) (kX7_isGoal (l := l) (g := g) hc1) rfl hl.1 rfl (Nat.le_of_ble_eq_true rfl) dX7_would_6 ⟨Nat.zero_le _, Nat.zero_le _⟩ ?_
  refine lv_if_ne (tgt := 14) hx hb dX7_would_9 (by decide) (fun c1 => ?_) (fun c1 => ?_)
  · rw [if_neg c1] at hsem
    refine lv_iconst (v := 0) hx hb dX7_would_14 (by decide) ?_
    refine lv_istore_n (lv' := [(2, .int 0), (0, .ref (ad 0)), (1, .int p0)]) hx hb dX7_would_15 rfl hl (by decide) rfl (fun ls hl => ?_)
    obtain ⟨q2, hc2, hsem⟩ := bn_some hsem
    refine loopMD (g := g) hdr hc2 (fun (q1 : Int32 × IA) => [(2, .int q1.1), (0, .ref (ad 0)), (1, .int p0)]) (fun (q1 : IA) => [(0, .ref (ad 0)), (1, .int p0)]) (exit := 41) (fun (q1 : Int32 × IA) (fz1 : Unit) => wM g ad q1.2 F) (fun (q1 : IA) (fz1 : Unit) => wM g ad q1 F) (fun (_ : Int32 × IA) (_ : Unit) => True) (fun (_ : IA) (_ : Unit) => True) () trivial hP hD hS (lv_sub hl [0, 1, 2] rfl) (fun d H locs ls fz1 hdr hrfz1 hP hD hS hl => ?_) (fun q1 r hst1 hin1 hout1 d H locs ls fz1 hdr hrfz1 hP hD hS hl => ?_)
    · have hP : va_P g.1 vwCl (wM g ad q2 F) H := hP
      have hD : va_D Z (wM g ad q2 F) := hD
      refine lv_aload_n hx hb dX7_would_41 rfl (lv_at hl 0 rfl) ?_
      refine va_get (D := g.1) (ci := 7) (v := .ref (ad 9)) (C := RX7) (T := TX7) (N := 26) hx hb (dr_words hts d) (fun w h => List.mem_cons_of_mem _ (List.mem_append_right _ h)) (hown d) (hK d) hP 0 rfl rfl 10 (by decide) ((dr_words hts d) (.fieldLink RX7 36 "PauseRegionsModel" "spareLearnt" "[F") (List.mem_of_getElem? (i := 4) rfl)) (fun _ h9 => h9) rfl dX7_would_42 ?_
      refine lv_iconst (v := 0) hx hb dX7_would_45 (by decide) ?_
      refine lv_aload_n hx hb dX7_would_46 rfl (lv_at hl 0 rfl) ?_
      refine va_get (D := g.1) (ci := 7) (v := .ref (ad 2)) (C := RX7) (T := TX7) (N := 26) hx hb (dr_words hts d) (fun w h => List.mem_cons_of_mem _ (List.mem_append_right _ h)) (hown d) (hK d) hP 0 rfl rfl 2 (by decide) ((dr_words hts d) (.fieldLink RX7 13 "PauseRegionsModel" "learnt" "[F") (List.mem_of_getElem? (i := 5) rfl)) (fun _ h9 => h9) rfl dX7_would_47 ?_
      refine lv_iconst (v := 0) hx hb dX7_would_50 (by decide) ?_
      have h3 : vp_in 0 2 := inb_vp rfl
      refine va_fald (D := g.1) hx hb (hK d) hP 2 2 rfl rfl h3 dX7_would_51 ?_
      have h4 : vp_in 0 2 := inb_vp rfl
      refine va_fast (D := g.1) hx hb (hK d) hP hD hS 9 2 rfl rfl h4 dX7_would_52 (fun H locs hP hD hS => ?_)
      obtain ⟨F1, eF1⟩ : ∃ z, z = wrF F 10 ((Int32.toNatClampNeg 0)) ((F 2) (Int32.toNatClampNeg 0)) := ⟨_, rfl⟩
      obtain ⟨F1c, eF1c, hsem⟩ := bd_some hsem
      have haF1 : AL F1 F1c := by rw [eF1, eF1c]; exact AL.wr hAL (hAL 2 _)
      have hP : va_P g.1 vwCl (wM g ad q2 F1) H := by rw [eF1]; exact hP
      have hD : va_D Z (wM g ad q2 F1) := by rw [eF1]; exact hD
      refine lv_aload_n hx hb dX7_would_53 rfl (lv_at hl 0 rfl) ?_
      refine va_get (D := g.1) (ci := 7) (v := .ref (ad 9)) (C := RX7) (T := TX7) (N := 26) hx hb (dr_words hts d) (fun w h => List.mem_cons_of_mem _ (List.mem_append_right _ h)) (hown d) (hK d) hP 0 rfl rfl 10 (by decide) ((dr_words hts d) (.fieldLink RX7 36 "PauseRegionsModel" "spareLearnt" "[F") (List.mem_of_getElem? (i := 4) rfl)) (fun _ h9 => h9) rfl dX7_would_54 ?_
      refine lv_iconst (v := 1) hx hb dX7_would_57 (by decide) ?_
      refine lv_aload_n hx hb dX7_would_58 rfl (lv_at hl 0 rfl) ?_
      refine va_get (D := g.1) (ci := 7) (v := .ref (ad 2)) (C := RX7) (T := TX7) (N := 26) hx hb (dr_words hts d) (fun w h => List.mem_cons_of_mem _ (List.mem_append_right _ h)) (hown d) (hK d) hP 0 rfl rfl 2 (by decide) ((dr_words hts d) (.fieldLink RX7 13 "PauseRegionsModel" "learnt" "[F") (List.mem_of_getElem? (i := 5) rfl)) (fun _ h9 => h9) rfl dX7_would_59 ?_
      refine lv_iconst (v := 1) hx hb dX7_would_62 (by decide) ?_
      have h5 : vp_in 1 2 := inb_vp rfl
      refine va_fald (D := g.1) hx hb (hK d) hP 2 2 rfl rfl h5 dX7_would_63 ?_
      have h6 : vp_in 1 2 := inb_vp rfl
      refine va_fast (D := g.1) hx hb (hK d) hP hD hS 9 2 rfl rfl h6 dX7_would_64 (fun H locs hP hD hS => ?_)
      obtain ⟨F2, eF2⟩ : ∃ z, z = wrF F1 10 ((Int32.toNatClampNeg 1)) ((F1 2) (Int32.toNatClampNeg 1)) := ⟨_, rfl⟩
      obtain ⟨F2c, eF2c, hsem⟩ := bd_some hsem
      have haF2 : AL F2 F2c := by rw [eF2, eF2c]; exact AL.wr haF1 (haF1 2 _)
      have hP : va_P g.1 vwCl (wM g ad q2 F2) H := by rw [eF2]; exact hP
      have hD : va_D Z (wM g ad q2 F2) := by rw [eF2]; exact hD
      refine lv_aload_n hx hb dX7_would_65 rfl (lv_at hl 0 rfl) ?_
      refine lv_iload_n hx hb dX7_would_66 rfl (lv_at hl 1 rfl) ?_
      obtain ⟨z1, hc3, hsem⟩ := bn_some hsem
      refine dcI (C := RX7) (As := [.int p0]) (rest := []) hdr ⟨hx, hb, hml, (hown d), (dr_words hts d)⟩ (hKK.drawn d) hP hD hS hZ (cwV 1 (dr_words hts d) gX7_would_X7_pause rfl rfl rfl hdX7_pause ⟨Nat.le_of_ble_eq_true rfl, Nat.le_of_ble_eq_true rfl⟩) (kX7_pause (l := l) (g := g) (ad := ad) (A := q2) (F := F2) (Fc := F2c) haF2 hc3) (va_recv (hK d) hP (ci := 7) (q0 := 0) rfl rfl) rfl hl.1 rfl (Nat.le_of_ble_eq_true rfl) dX7_would_67 ⟨Nat.zero_le _, Nat.zero_le _⟩ (fun u1 H locs d hpo hP hD hS hdr => ?_)
      have hq1 := hpo
      have hP : va_P g.1 vwCl (wM g ad z1.2.1 u1) H := hP
      have hD : va_D Z (wM g ad z1.2.1 u1) := hD
      refine lv_istore_n (lv' := [(2, .int z1.1), (0, .ref (ad 0)), (1, .int p0)]) hx hb dX7_would_70 rfl hl (by decide) rfl (fun ls hl => ?_)
      refine lv_iconst (v := 0) hx hb dX7_would_71 (by decide) ?_
      refine lv_istore_n (lv' := [(3, .int 0), (2, .int z1.1), (0, .ref (ad 0)), (1, .int p0)]) hx hb dX7_would_72 rfl hl (by decide) rfl (fun ls hl => ?_)
      obtain ⟨q4, hc4, hsem⟩ := bn_some hsem
      refine loopMD (g := g) hdr hc4 (fun (q3 : Int32 × IA) => [(3, .int q3.1), (2, .int z1.1), (0, .ref (ad 0))]) (fun (q3 : IA) => [(2, .int z1.1), (0, .ref (ad 0))]) (exit := 98) (fun (q3 : Int32 × IA) (fz2 : Unit) => wM g ad q3.2 u1) (fun (q3 : IA) (fz2 : Unit) => wM g ad q3 u1) (fun (_ : Int32 × IA) (_ : Unit) => True) (fun (_ : IA) (_ : Unit) => True) () trivial hP hD hS (lv_sub hl [0, 1, 2] rfl) (fun d H locs ls fz2 hdr hrfz2 hP hD hS hl => ?_) (fun q3 r hst1 hin1 hout1 d H locs ls fz2 hdr hrfz2 hP hD hS hl => ?_)
      · have hP : va_P g.1 vwCl (wM g ad q4 u1) H := hP
        have hD : va_D Z (wM g ad q4 u1) := hD
        refine lv_aload_n hx hb dX7_would_98 rfl (lv_at hl 1 rfl) ?_
        refine va_get (D := g.1) (ci := 7) (v := .ref (ad 2)) (C := RX7) (T := TX7) (N := 26) hx hb (dr_words hts d) (fun w h => List.mem_cons_of_mem _ (List.mem_append_right _ h)) (hown d) (hK d) hP 0 rfl rfl 2 (by decide) ((dr_words hts d) (.fieldLink RX7 13 "PauseRegionsModel" "learnt" "[F") (List.mem_of_getElem? (i := 5) rfl)) (fun _ h9 => h9) rfl dX7_would_99 ?_
        refine lv_iconst (v := 0) hx hb dX7_would_102 (by decide) ?_
        refine lv_aload_n hx hb dX7_would_103 rfl (lv_at hl 1 rfl) ?_
        refine va_get (D := g.1) (ci := 7) (v := .ref (ad 9)) (C := RX7) (T := TX7) (N := 26) hx hb (dr_words hts d) (fun w h => List.mem_cons_of_mem _ (List.mem_append_right _ h)) (hown d) (hK d) hP 0 rfl rfl 10 (by decide) ((dr_words hts d) (.fieldLink RX7 36 "PauseRegionsModel" "spareLearnt" "[F") (List.mem_of_getElem? (i := 4) rfl)) (fun _ h9 => h9) rfl dX7_would_104 ?_
        refine lv_iconst (v := 0) hx hb dX7_would_107 (by decide) ?_
        have h9 : vp_in 0 2 := inb_vp rfl
        refine va_fald (D := g.1) hx hb (hK d) hP 9 2 rfl rfl h9 dX7_would_108 ?_
        have h10 : vp_in 0 2 := inb_vp rfl
        refine va_fast (D := g.1) hx hb (hK d) hP hD hS 2 2 rfl rfl h10 dX7_would_109 (fun H locs hP hD hS => ?_)
        obtain ⟨F3, eF3⟩ : ∃ z, z = wrF u1 2 ((Int32.toNatClampNeg 0)) ((u1 10) (Int32.toNatClampNeg 0)) := ⟨_, rfl⟩
        obtain ⟨F3c, eF3c, hsem⟩ := bd_some hsem
        have haF3 : AL F3 F3c := by rw [eF3, eF3c]; exact AL.wr hq1 (hq1 10 _)
        have hP : va_P g.1 vwCl (wM g ad q4 F3) H := by rw [eF3]; exact hP
        have hD : va_D Z (wM g ad q4 F3) := by rw [eF3]; exact hD
        refine lv_aload_n hx hb dX7_would_110 rfl (lv_at hl 1 rfl) ?_
        refine va_get (D := g.1) (ci := 7) (v := .ref (ad 2)) (C := RX7) (T := TX7) (N := 26) hx hb (dr_words hts d) (fun w h => List.mem_cons_of_mem _ (List.mem_append_right _ h)) (hown d) (hK d) hP 0 rfl rfl 2 (by decide) ((dr_words hts d) (.fieldLink RX7 13 "PauseRegionsModel" "learnt" "[F") (List.mem_of_getElem? (i := 5) rfl)) (fun _ h9 => h9) rfl dX7_would_111 ?_
        refine lv_iconst (v := 1) hx hb dX7_would_114 (by decide) ?_
        refine lv_aload_n hx hb dX7_would_115 rfl (lv_at hl 1 rfl) ?_
        refine va_get (D := g.1) (ci := 7) (v := .ref (ad 9)) (C := RX7) (T := TX7) (N := 26) hx hb (dr_words hts d) (fun w h => List.mem_cons_of_mem _ (List.mem_append_right _ h)) (hown d) (hK d) hP 0 rfl rfl 10 (by decide) ((dr_words hts d) (.fieldLink RX7 36 "PauseRegionsModel" "spareLearnt" "[F") (List.mem_of_getElem? (i := 4) rfl)) (fun _ h9 => h9) rfl dX7_would_116 ?_
        refine lv_iconst (v := 1) hx hb dX7_would_119 (by decide) ?_
        have h11 : vp_in 1 2 := inb_vp rfl
        refine va_fald (D := g.1) hx hb (hK d) hP 9 2 rfl rfl h11 dX7_would_120 ?_
        have h12 : vp_in 1 2 := inb_vp rfl
        refine va_fast (D := g.1) hx hb (hK d) hP hD hS 2 2 rfl rfl h12 dX7_would_121 (fun H locs hP hD hS => ?_)
        obtain ⟨F4, eF4⟩ : ∃ z, z = wrF F3 2 ((Int32.toNatClampNeg 1)) ((F3 10) (Int32.toNatClampNeg 1)) := ⟨_, rfl⟩
        obtain ⟨F4c, eF4c, hsem⟩ := bd_some hsem
        have haF4 : AL F4 F4c := by rw [eF4, eF4c]; exact AL.wr haF3 (haF3 10 _)
        have hP : va_P g.1 vwCl (wM g ad q4 F4) H := by rw [eF4]; exact hP
        have hD : va_D Z (wM g ad q4 F4) := by rw [eF4]; exact hD
        refine lv_iload_n hx hb dX7_would_122 rfl (lv_at hl 0 rfl) ?_
        have eo := (Option.some.inj hsem).symm.symm
        refine W.endD hdr ?_
        subst eo
        exact W.iret (v := z1.1) hx hb hr (fun t ht hW => ⟨⟨_, F4, rfl, ⟨rfl, haF4⟩, ⟨by rw [ht]; exact hP, hD⟩⟩, hS.F ht⟩) hS.2.2 dX7_would_123
      · unfold sX7_would_L73 at hst1
        have hP : va_P g.1 vwCl (wM g ad q3.2 u1) H := hP
        have hD : va_D Z (wM g ad q3.2 u1) := hD
        refine lv_iload_n hx hb dX7_would_73 rfl (lv_at hl 0 rfl) ?_
        refine lv_sipush (v := 296) hx hb dX7_would_74 (by decide) ?_
        refine lv_icmp_ge (tgt := 98) hx hb dX7_would_77 (by decide) (fun c3 => ?_) (fun c3 => ?_)
        · rw [if_pos c3] at hst1
          exact hout1 _ H locs ls () _ (Option.some.inj hst1).symm hdr trivial hP hD hS (lv_sub hl [1, 2] rfl)
        · rw [if_neg c3] at hst1
          refine lv_aload_n hx hb dX7_would_80 rfl (lv_at hl 2 rfl) ?_
          refine va_get (D := g.1) (ci := 7) (v := .ref (ad 1)) (C := RX7) (T := TX7) (N := 26) hx hb (dr_words hts d) (fun w h => List.mem_cons_of_mem _ (List.mem_append_right _ h)) (hown d) (hK d) hP 0 rfl rfl 1 (by decide) ((dr_words hts d) (.fieldLink RX7 7 "PauseRegionsModel" "s" "[I") (List.mem_of_getElem? (i := 3) rfl)) (fun _ h9 => h9) rfl dX7_would_81 ?_
          refine lv_iload_n hx hb dX7_would_84 rfl (lv_at hl 0 rfl) ?_
          refine lv_aload_n hx hb dX7_would_85 rfl (lv_at hl 2 rfl) ?_
          refine va_get (D := g.1) (ci := 7) (v := .ref (ad 8)) (C := RX7) (T := TX7) (N := 26) hx hb (dr_words hts d) (fun w h => List.mem_cons_of_mem _ (List.mem_append_right _ h)) (hown d) (hK d) hP 0 rfl rfl 9 (by decide) ((dr_words hts d) (.fieldLink RX7 33 "PauseRegionsModel" "spare" "[I") (List.mem_of_getElem? (i := 2) rfl)) (fun _ h9 => h9) rfl dX7_would_86 ?_
          refine lv_iload_n hx hb dX7_would_89 rfl (lv_at hl 0 rfl) ?_
          obtain ⟨h7, hst1⟩ := ck_some hst1
          refine va_iald (D := g.1) hx hb (hK d) hP 8 0 rfl rfl h7 dX7_would_90 ?_
          obtain ⟨h8, hst1⟩ := ck_some hst1
          refine va_iast (D := g.1) hx hb (hK d) hP hD hS 1 0 rfl rfl h8 dX7_would_91 (fun H locs hP hD hS => ?_)
          obtain ⟨A3, eA3, hst1⟩ := bd_some hst1
          have hP : va_P g.1 vwCl (wM g ad A3 u1) H := by rw [eA3]; exact hP
          have hD : va_D Z (wM g ad A3 u1) := by rw [eA3]; exact hD
          refine lv_iinc (v := q3.1 + 1) (lv' := [(3, .int (q3.1 + 1)), (2, .int z1.1), (0, .ref (ad 0))]) hx hb dX7_would_92 hl (k := 0) rfl rfl (by decide) rfl (fun ls hl => ?_)
          refine lv_goto (tgt := 73) hx hb dX7_would_95 (by decide) ?_
          exact hin1 _ H locs ls () _ (Option.some.inj hst1).symm hdr trivial hP hD hS (lv_sub hl [0, 1, 2] rfl)
    · unfold sX7_would_L16 at hst1
      have hP : va_P g.1 vwCl (wM g ad q1.2 F) H := hP
      have hD : va_D Z (wM g ad q1.2 F) := hD
      refine lv_iload_n hx hb dX7_would_16 rfl (lv_at hl 0 rfl) ?_
      refine lv_sipush (v := 296) hx hb dX7_would_17 (by decide) ?_
      refine lv_icmp_ge (tgt := 41) hx hb dX7_would_20 (by decide) (fun c2 => ?_) (fun c2 => ?_)
      · rw [if_pos c2] at hst1
        exact hout1 _ H locs ls () _ (Option.some.inj hst1).symm hdr trivial hP hD hS (lv_sub hl [1, 2] rfl)
      · rw [if_neg c2] at hst1
        refine lv_aload_n hx hb dX7_would_23 rfl (lv_at hl 1 rfl) ?_
        refine va_get (D := g.1) (ci := 7) (v := .ref (ad 8)) (C := RX7) (T := TX7) (N := 26) hx hb (dr_words hts d) (fun w h => List.mem_cons_of_mem _ (List.mem_append_right _ h)) (hown d) (hK d) hP 0 rfl rfl 9 (by decide) ((dr_words hts d) (.fieldLink RX7 33 "PauseRegionsModel" "spare" "[I") (List.mem_of_getElem? (i := 2) rfl)) (fun _ h9 => h9) rfl dX7_would_24 ?_
        refine lv_iload_n hx hb dX7_would_27 rfl (lv_at hl 0 rfl) ?_
        refine lv_aload_n hx hb dX7_would_28 rfl (lv_at hl 1 rfl) ?_
        refine va_get (D := g.1) (ci := 7) (v := .ref (ad 1)) (C := RX7) (T := TX7) (N := 26) hx hb (dr_words hts d) (fun w h => List.mem_cons_of_mem _ (List.mem_append_right _ h)) (hown d) (hK d) hP 0 rfl rfl 1 (by decide) ((dr_words hts d) (.fieldLink RX7 7 "PauseRegionsModel" "s" "[I") (List.mem_of_getElem? (i := 3) rfl)) (fun _ h9 => h9) rfl dX7_would_29 ?_
        refine lv_iload_n hx hb dX7_would_32 rfl (lv_at hl 0 rfl) ?_
        obtain ⟨h1, hst1⟩ := ck_some hst1
        refine va_iald (D := g.1) hx hb (hK d) hP 1 0 rfl rfl h1 dX7_would_33 ?_
        obtain ⟨h2, hst1⟩ := ck_some hst1
        refine va_iast (D := g.1) hx hb (hK d) hP hD hS 8 0 rfl rfl h2 dX7_would_34 (fun H locs hP hD hS => ?_)
        obtain ⟨A2, eA2, hst1⟩ := bd_some hst1
        have hP : va_P g.1 vwCl (wM g ad A2 F) H := by rw [eA2]; exact hP
        have hD : va_D Z (wM g ad A2 F) := by rw [eA2]; exact hD
        refine lv_iinc (v := q1.1 + 1) (lv' := [(2, .int (q1.1 + 1)), (0, .ref (ad 0)), (1, .int p0)]) hx hb dX7_would_35 hl (k := 0) rfl rfl (by decide) rfl (fun ls hl => ?_)
        refine lv_goto (tgt := 16) hx hb dX7_would_38 (by decide) ?_
        exact hin1 _ H locs ls () _ (Option.some.inj hst1).symm hdr trivial hP hD hS (lv_sub hl [0, 1, 2] rfl)
  · rw [if_pos c1] at hsem
    refine lv_iconst (v := (-1)) hx hb dX7_would_12 (by decide) ?_
    have eo := (Option.some.inj hsem).symm.symm
    refine W.endD hdr ?_
    subst eo
    exact W.iret (v := (-1)) hx hb hr (fun t ht hW => ⟨⟨_, F, rfl, ⟨rfl, hAL⟩, ⟨by rw [ht]; exact hP, hD⟩⟩, hS.F ht⟩) hS.2.2 dX7_would_13
