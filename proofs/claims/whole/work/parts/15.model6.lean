def sX7_writes (A : IA) (Fc : FA) (p0 : Int32) (p1 : Int32) (p2 : Int32) : Option (Int32 × IA × FA) :=
  bd (sc A 0 0) fun A1 => (sX7_isRoot p0).bind fun x1 => if x1 = 0 then (some (((-1), A1, Fc))) else ((sX7_in p1 0 1).bind fun x2 => if x2 = 0 then (some (((-1), A1, Fc))) else ((sX7_in p2 (-1) 5).bind fun x3 => if x3 = 0 then (some (((-1), A1, Fc))) else (ck (192 + p0) 296 (bd ((A1 1) (192 + p0).toNatClampNeg) fun x4 => if x4 = (-5) then (some (((-2), A1, Fc))) else ((sX7_notes A1 Fc).bind fun z1 => if 0 ≤ p2 then (ck (192 + p2) 296 (bd ((z1.1 1) (192 + p2).toNatClampNeg) fun x5 => if ((z1.1 1) (Int32.toNatClampNeg 292)) = 1 then ((sX7_ofThing z1.1 x4 (3 + p1)).bind fun x12 => (sX7_becomesGrey z1.1 x12).bind fun z3 => ck (((6 * x4) + 3) + p1) 296 (bd (wr z3 1 ((((6 * x4) + 3) + p1).toNatClampNeg) x5) fun A3 => if x5 = (-5) then (some (0, A3, z1.2)) else ((sX7_ofThing A3 x5 1).bind fun x13 => (sX7_ofThing A3 x4 1).bind fun x14 => if x13 = x14 then (some (0, A3, z1.2)) else ((sX7_kindOf A3 x4).bind fun x15 => if x15 = 1 then (some (0, A3, z1.2)) else ((sX7_cardOf A3 x4).bind fun x16 => (sX7_isDirty A3 x16).bind fun x17 => if x17 = 0 then ((sX7_cardOf A3 x4).bind fun x18 => (sX7_becomesDirty A3 x18).bind fun z4 => some (1, z4, z1.2)) else (some (0, A3, z1.2))))))) else (ck (((6 * x4) + 3) + p1) 296 (bd (wr z1.1 1 ((((6 * x4) + 3) + p1).toNatClampNeg) x5) fun A2 => if x5 = (-5) then (some (0, A2, z1.2)) else ((sX7_ofThing A2 x5 1).bind fun x6 => (sX7_ofThing A2 x4 1).bind fun x7 => if x6 = x7 then (some (0, A2, z1.2)) else ((sX7_kindOf A2 x4).bind fun x8 => if x8 = 1 then (some (0, A2, z1.2)) else ((sX7_cardOf A2 x4).bind fun x9 => (sX7_isDirty A2 x9).bind fun x10 => if x10 = 0 then ((sX7_cardOf A2 x4).bind fun x11 => (sX7_becomesDirty A2 x11).bind fun z2 => some (1, z2, z1.2)) else (some (0, A2, z1.2))))))))) else (if ((z1.1 1) (Int32.toNatClampNeg 292)) = 1 then ((sX7_ofThing z1.1 x4 (3 + p1)).bind fun x19 => (sX7_becomesGrey z1.1 x19).bind fun z5 => ck (((6 * x4) + 3) + p1) 296 (bd (wr z5 1 ((((6 * x4) + 3) + p1).toNatClampNeg) (-5)) fun A5 => some (0, A5, z1.2))) else (ck (((6 * x4) + 3) + p1) 296 (bd (wr z1.1 1 ((((6 * x4) + 3) + p1).toNatClampNeg) (-5)) fun A4 => some (0, A4, z1.2)))))))))
abbrev rmX7_writes : Room := { frames := 2, cells := 0, slots := 0, locals := 44 }
theorem hdX7_writes : yX7_writes.cls = RX7 ∧ yX7_writes.cls ≠ "java/lang/invoke/MethodHandle" ∧ yX7_writes.cls ≠ "java/lang/invoke/VarHandle" ∧ (parseMethodDescriptor yX7_writes.desc).map (fun d => d.parameters.length) = some 3 := by decide +kernel
set_option maxHeartbeats 4000000 in
set_option maxRecDepth 100000 in
theorem kX7_writes {l : Launch} {g : GG} {sz : Nat} {ad : Nat → Nat} {A : IA} {F : FA} {p0 p1 p2 : Int32} {Fc : FA} (hAL : AL F Fc) {b : Int32 × IA × FA} (hsem : sX7_writes A Fc p0 p1 p2 = some b) : MetDI l yX7_writes wsX7_writes rmX7_writes g [.ref (ad 0), .int p0, .int p1, .int p2] (wM g ad A F) sz b.1 (φ := FA) (fun u => AL u b.2.2) (fun u => wM g ad b.2.1 u) := by
  refine MetD.ofW (cc := cX7_writes) (maxL := 7) (ret := (some .int)) (by decide) rfl ?_
  intro p e s m args below meth c s₁ B hml hv hdr
  obtain ⟨rfl, hsz, hP, hD0, hKK⟩ := hv
  subst hsz
  have hx := B.exec
  have hb := B.bytes
  have hr := B.returns
  have hts := atoms_spec (ws := wsX7_writes) B.pre
  have hown : ∀ d, (s.setDrawn d).vm.findClass RX7 = some m.cls := fun _ => findClass_of_methodNamed B.named
  have hlocks := B.notSynchronized
  have hK : ∀ d, va_K g.1 vwCl (KT g) (s.setDrawn d) := fun d => (hKK.drawn d).1
  have hD := hD0.self (sz := s.heap.size)
  generalize hZe : va_A (wM g ad A F) s.heap.size = Z at hD ⊢
  have hZ : ∀ q : Nat, s.heap.size ≤ q → Z q := fun q h => by rw [← hZe]; exact Or.inr h
  have hS : va_S Z s.heap s.heap [] := va_S.rf
  have hP : va_P g.1 vwCl (wM g ad A F) s.heap := hP
  have hD : va_D Z (wM g ad A F) := hD
  obtain ⟨d, hdr, hdd⟩ : ∃ d, s.drawn.sameBut d lw_cs ∧ s.drawn = d := ⟨_, hdr, rfl⟩
  rw [hdd]
  have hl := lv_entry ([.ref (ad 0), .int p0, .int p1, .int p2]) (n := 7) (Nat.le_of_ble_eq_true rfl)
  rw [lg_entry_eq]
  generalize (lg_sl ([.ref (ad 0), .int p0, .int p1, .int p2]) ++ List.replicate (7 - (lg_sl ([.ref (ad 0), .int p0, .int p1, .int p2])).length) Slot.unset).toArray = ls at hl ⊢
  have hl : lv_has ls 7 [(0, .ref (ad 0)), (1, .int p0), (2, .int p1), (3, .int p2)] := hl
  unfold sX7_writes at hsem
  refine lv_aload_n hx hb dX7_writes_0 rfl (lv_at hl 0 rfl) ?_
  refine lv_iconst (v := 0) hx hb dX7_writes_1 (by decide) ?_
  refine va_put (D := g.1) (ci := 7) (v := .int 0) (ty := .int) (C := RX7) (T := TX7) (N := 26) hx hb (dr_words hts d) (fun w h => List.mem_cons_of_mem _ (List.mem_append_right _ h)) tyX7 tyX7_ok nmX7 (hown d) (hK d) hP hD hS 0 rfl rfl 0 (by decide) ((dr_words hts d) (.fieldLink RX7 55 "PauseRegionsModel" "thrown" "I") (List.mem_of_getElem? (i := 1) rfl)) (fun _ h9 => h9) rfl (by decide +kernel) rfl rfl (Nat.le_of_ble_eq_true rfl) dX7_writes_2 (fun H locs hP hD hS => ?_)
  obtain ⟨A1, eA1, hsem⟩ := bd_some hsem
  have hP : va_P g.1 vwCl (wM g ad A1 F) H := by rw [eA1]; exact hP
  have hD : va_D Z (wM g ad A1 F) := by rw [eA1]; exact hD
  refine lv_iload_n hx hb dX7_writes_5 rfl (lv_at hl 1 rfl) ?_
  obtain ⟨x1, hc1, hsem⟩ := bn_some hsem
  refine pcS (As := [.int p0]) (rest := []) ⟨hx, hb, hml, (hown d), (dr_words hts d)⟩ (hKK.drawn d) (va_cwS 1 (dr_words hts d) gX7_writes_X7_isRoot rfl rfl rfl hdX7_isRoot ⟨Nat.le_of_ble_eq_true rfl, Nat.le_of_ble_eq_true rfl⟩) (kX7_isRoot (l := l) (g := g) hc1) rfl hl.1 rfl (Nat.le_of_ble_eq_true rfl) dX7_writes_6 ⟨Nat.zero_le _, Nat.zero_le _⟩ ?_
  refine lv_if_eq (tgt := 30) hx hb dX7_writes_9 (by decide) (fun c1 => ?_) (fun c1 => ?_)
  · rw [if_pos c1] at hsem
    refine lv_iconst (v := (-1)) hx hb dX7_writes_30 (by decide) ?_
    have eo := (Option.some.inj hsem).symm.symm
    refine W.endD hdr ?_
    subst eo
    exact W.iret (v := (-1)) hx hb hr (fun t ht hW => ⟨⟨_, F, rfl, ⟨rfl, hAL⟩, ⟨by rw [ht]; exact hP, hD⟩⟩, hS.F ht⟩) hS.2.2 dX7_writes_31
  · rw [if_neg c1] at hsem
    refine lv_iload_n hx hb dX7_writes_12 rfl (lv_at hl 2 rfl) ?_
    refine lv_iconst (v := 0) hx hb dX7_writes_13 (by decide) ?_
    refine lv_iconst (v := 1) hx hb dX7_writes_14 (by decide) ?_
    obtain ⟨x2, hc2, hsem⟩ := bn_some hsem
    refine pcS (As := [.int p1, .int 0, .int 1]) (rest := []) ⟨hx, hb, hml, (hown d), (dr_words hts d)⟩ (hKK.drawn d) (va_cwS 3 (dr_words hts d) gX7_writes_X7_in rfl rfl rfl hdX7_in ⟨Nat.le_of_ble_eq_true rfl, Nat.le_of_ble_eq_true rfl⟩) (kX7_in (l := l) (g := g) hc2) rfl hl.1 rfl (Nat.le_of_ble_eq_true rfl) dX7_writes_15 ⟨Nat.zero_le _, Nat.zero_le _⟩ ?_
    refine lv_if_eq (tgt := 30) hx hb dX7_writes_18 (by decide) (fun c2 => ?_) (fun c2 => ?_)
    · rw [if_pos c2] at hsem
      refine lv_iconst (v := (-1)) hx hb dX7_writes_30 (by decide) ?_
      have eo := (Option.some.inj hsem).symm.symm
      refine W.endD hdr ?_
      subst eo
      exact W.iret (v := (-1)) hx hb hr (fun t ht hW => ⟨⟨_, F, rfl, ⟨rfl, hAL⟩, ⟨by rw [ht]; exact hP, hD⟩⟩, hS.F ht⟩) hS.2.2 dX7_writes_31
    · rw [if_neg c2] at hsem
      refine lv_iload_n hx hb dX7_writes_21 rfl (lv_at hl 3 rfl) ?_
      refine lv_iconst (v := (-1)) hx hb dX7_writes_22 (by decide) ?_
      refine lv_iconst (v := 5) hx hb dX7_writes_23 (by decide) ?_
      obtain ⟨x3, hc3, hsem⟩ := bn_some hsem
      refine pcS (As := [.int p2, .int (-1), .int 5]) (rest := []) ⟨hx, hb, hml, (hown d), (dr_words hts d)⟩ (hKK.drawn d) (va_cwS 3 (dr_words hts d) gX7_writes_X7_in rfl rfl rfl hdX7_in ⟨Nat.le_of_ble_eq_true rfl, Nat.le_of_ble_eq_true rfl⟩) (kX7_in (l := l) (g := g) hc3) rfl hl.1 rfl (Nat.le_of_ble_eq_true rfl) dX7_writes_24 ⟨Nat.zero_le _, Nat.zero_le _⟩ ?_
      refine lv_if_ne (tgt := 32) hx hb dX7_writes_27 (by decide) (fun c3 => ?_) (fun c3 => ?_)
      · rw [if_neg c3] at hsem
        refine lv_aload_n hx hb dX7_writes_32 rfl (lv_at hl 0 rfl) ?_
        refine va_get (D := g.1) (ci := 7) (v := .ref (ad 1)) (C := RX7) (T := TX7) (N := 26) hx hb (dr_words hts d) (fun w h => List.mem_cons_of_mem _ (List.mem_append_right _ h)) (hown d) (hK d) hP 0 rfl rfl 1 (by decide) ((dr_words hts d) (.fieldLink RX7 7 "PauseRegionsModel" "s" "[I") (List.mem_of_getElem? (i := 2) rfl)) (fun _ h9 => h9) rfl dX7_writes_33 ?_
        refine lv_sipush (v := 192) hx hb dX7_writes_36 (by decide) ?_
        refine lv_iload_n hx hb dX7_writes_39 rfl (lv_at hl 1 rfl) ?_
        refine lv_iadd hx hb dX7_writes_40 ?_
        obtain ⟨h1, hsem⟩ := ck_some hsem
        refine va_iald (D := g.1) hx hb (hK d) hP 1 0 rfl rfl h1 dX7_writes_41 ?_
        obtain ⟨x4, ex4, hsem⟩ := bd_some hsem
        rw [← ex4]
        refine lv_istore (lv' := [(4, .int x4), (0, .ref (ad 0)), (1, .int p0), (2, .int p1), (3, .int p2)]) hx hb dX7_writes_42 hl (by decide) rfl (fun ls hl => ?_)
        refine lv_iload hx hb dX7_writes_44 (lv_at hl 0 rfl) ?_
        refine lv_bipush (v := (-5)) hx hb dX7_writes_46 (by decide) ?_
        refine lv_icmp_ne (tgt := 54) hx hb dX7_writes_48 (by decide) (fun c4 => ?_) (fun c4 => ?_)
        · rw [if_neg c4] at hsem
          refine lv_aload_n hx hb dX7_writes_54 rfl (lv_at hl 1 rfl) ?_
          obtain ⟨z1, hc4, hsem⟩ := bn_some hsem
          refine dcV (C := RX7) (As := []) (rest := []) hdr ⟨hx, hb, hml, (hown d), (dr_words hts d)⟩ (hKK.drawn d) hP hD hS hZ (cwV 0 (dr_words hts d) gX7_writes_X7_notes rfl rfl rfl hdX7_notes ⟨Nat.le_of_ble_eq_true rfl, Nat.le_of_ble_eq_true rfl⟩) (kX7_notes (l := l) (g := g) (ad := ad) (A := A1) (F := F) (Fc := Fc) hAL hc4) (va_recv (hK d) hP (ci := 7) (q0 := 0) rfl rfl) rfl hl.1 rfl (Nat.le_of_ble_eq_true rfl) dX7_writes_55 ⟨Nat.zero_le _, Nat.zero_le _⟩ (fun u1 H locs d hpo hP hD hS hdr => ?_)
          have hq1 := hpo
          have hP : va_P g.1 vwCl (wM g ad z1.1 u1) H := hP
          have hD : va_D Z (wM g ad z1.1 u1) := hD
          refine lv_iload_n hx hb dX7_writes_58 rfl (lv_at hl 4 rfl) ?_
          refine lv_if_ge (tgt := 67) hx hb dX7_writes_59 (by decide) (fun c5 => ?_) (fun c5 => ?_)
          · rw [if_pos c5] at hsem
            refine lv_aload_n hx hb dX7_writes_67 rfl (lv_at hl 1 rfl) ?_
            refine va_get (D := g.1) (ci := 7) (v := .ref (ad 1)) (C := RX7) (T := TX7) (N := 26) hx hb (dr_words hts d) (fun w h => List.mem_cons_of_mem _ (List.mem_append_right _ h)) (hown d) (hK d) hP 0 rfl rfl 1 (by decide) ((dr_words hts d) (.fieldLink RX7 7 "PauseRegionsModel" "s" "[I") (List.mem_of_getElem? (i := 2) rfl)) (fun _ h9 => h9) rfl dX7_writes_68 ?_
            refine lv_sipush (v := 192) hx hb dX7_writes_71 (by decide) ?_
            refine lv_iload_n hx hb dX7_writes_74 rfl (lv_at hl 4 rfl) ?_
            refine lv_iadd hx hb dX7_writes_75 ?_
            obtain ⟨h2, hsem⟩ := ck_some hsem
            refine va_iald (D := g.1) hx hb (hK d) hP 1 0 rfl rfl h2 dX7_writes_76 ?_
            obtain ⟨x5, ex5, hsem⟩ := bd_some hsem
            rw [← ex5]
            refine lv_istore (lv' := [(5, .int x5), (4, .int x4), (0, .ref (ad 0)), (1, .int p0), (2, .int p1), (3, .int p2)]) hx hb dX7_writes_77 hl (by decide) rfl (fun ls hl => ?_)
            refine lv_aload_n hx hb dX7_writes_79 rfl (lv_at hl 2 rfl) ?_
            refine va_get (D := g.1) (ci := 7) (v := .ref (ad 1)) (C := RX7) (T := TX7) (N := 26) hx hb (dr_words hts d) (fun w h => List.mem_cons_of_mem _ (List.mem_append_right _ h)) (hown d) (hK d) hP 0 rfl rfl 1 (by decide) ((dr_words hts d) (.fieldLink RX7 7 "PauseRegionsModel" "s" "[I") (List.mem_of_getElem? (i := 2) rfl)) (fun _ h9 => h9) rfl dX7_writes_80 ?_
            refine lv_sipush (v := 292) hx hb dX7_writes_83 (by decide) ?_
            have h3 : vp_in 292 296 := inb_vp rfl
            refine va_iald (D := g.1) hx hb (hK d) hP 1 0 rfl rfl h3 dX7_writes_86 ?_
            refine lv_iconst (v := 1) hx hb dX7_writes_87 (by decide) ?_
            refine lv_icmp_ne (tgt := 104) hx hb dX7_writes_88 (by decide) (fun c6 => ?_) (fun c6 => ?_)
            · rw [if_neg c6] at hsem
              refine lv_aload_n hx hb dX7_writes_104 rfl (lv_at hl 2 rfl) ?_
              refine va_get (D := g.1) (ci := 7) (v := .ref (ad 1)) (C := RX7) (T := TX7) (N := 26) hx hb (dr_words hts d) (fun w h => List.mem_cons_of_mem _ (List.mem_append_right _ h)) (hown d) (hK d) hP 0 rfl rfl 1 (by decide) ((dr_words hts d) (.fieldLink RX7 7 "PauseRegionsModel" "s" "[I") (List.mem_of_getElem? (i := 2) rfl)) (fun _ h9 => h9) rfl dX7_writes_105 ?_
              refine lv_bipush (v := 6) hx hb dX7_writes_108 (by decide) ?_
              refine lv_iload hx hb dX7_writes_110 (lv_at hl 1 rfl) ?_
              refine lv_imul hx hb dX7_writes_112 ?_
              refine lv_iconst (v := 3) hx hb dX7_writes_113 (by decide) ?_
              refine lv_iadd hx hb dX7_writes_114 ?_
              refine lv_iload_n hx hb dX7_writes_115 rfl (lv_at hl 4 rfl) ?_
              refine lv_iadd hx hb dX7_writes_116 ?_
              refine lv_iload hx hb dX7_writes_117 (lv_at hl 0 rfl) ?_
              obtain ⟨h4, hsem⟩ := ck_some hsem
              refine va_iast (D := g.1) hx hb (hK d) hP hD hS 1 0 rfl rfl h4 dX7_writes_119 (fun H locs hP hD hS => ?_)
              obtain ⟨A2, eA2, hsem⟩ := bd_some hsem
              have hP : va_P g.1 vwCl (wM g ad A2 u1) H := by rw [eA2]; exact hP
              have hD : va_D Z (wM g ad A2 u1) := by rw [eA2]; exact hD
              refine lv_iload hx hb dX7_writes_120 (lv_at hl 0 rfl) ?_
              refine lv_bipush (v := (-5)) hx hb dX7_writes_122 (by decide) ?_
              refine lv_icmp_eq (tgt := 171) hx hb dX7_writes_124 (by decide) (fun c7 => ?_) (fun c7 => ?_)
              · rw [if_pos c7] at hsem
                refine lv_iconst (v := 0) hx hb dX7_writes_171 (by decide) ?_
                refine lv_istore (lv' := [(6, .int 0), (5, .int x5), (4, .int x4), (0, .ref (ad 0)), (1, .int p0), (2, .int p1), (3, .int p2)]) hx hb dX7_writes_172 hl (by decide) rfl (fun ls hl => ?_)
                refine lv_iload hx hb dX7_writes_174 (lv_at hl 0 rfl) ?_
                refine lv_if_eq (tgt := 189) hx hb dX7_writes_176 (by decide) (fun cc => ?_) (fun cc => absurd cc (by decide))
                refine lv_iload hx hb dX7_writes_189 (lv_at hl 0 rfl) ?_
                refine lv_if_eq (tgt := 198) hx hb dX7_writes_191 (by decide) (fun cc => ?_) (fun cc => absurd cc (by decide))
                refine lv_iconst (v := 0) hx hb dX7_writes_198 (by decide) ?_
                have eo := (Option.some.inj hsem).symm.symm
                refine W.endD hdr ?_
                subst eo
                exact W.iret (v := 0) hx hb hr (fun t ht hW => ⟨⟨_, u1, rfl, ⟨rfl, hq1⟩, ⟨by rw [ht]; exact hP, hD⟩⟩, hS.F ht⟩) hS.2.2 dX7_writes_199
              · rw [if_neg c7] at hsem
                refine lv_aload_n hx hb dX7_writes_127 rfl (lv_at hl 2 rfl) ?_
                refine lv_iload hx hb dX7_writes_128 (lv_at hl 0 rfl) ?_
                refine lv_iconst (v := 1) hx hb dX7_writes_130 (by decide) ?_
                obtain ⟨x6, hc5, hsem⟩ := bn_some hsem
                refine pcV (C := RX7) (As := [.int x5, .int 1]) (rest := []) ⟨hx, hb, hml, (hown d), (dr_words hts d)⟩ (hKK.drawn d) (cwV 2 (dr_words hts d) gX7_writes_X7_ofThing rfl rfl rfl hdX7_ofThing ⟨Nat.le_of_ble_eq_true rfl, Nat.le_of_ble_eq_true rfl⟩) (kX7_ofThing (l := l) (g := g) hP hc5) (va_recv (hK d) hP (ci := 7) (q0 := 0) rfl rfl) rfl hl.1 rfl (Nat.le_of_ble_eq_true rfl) dX7_writes_131 ⟨Nat.zero_le _, Nat.zero_le _⟩ ?_
                refine lv_aload_n hx hb dX7_writes_134 rfl (lv_at hl 2 rfl) ?_
                refine lv_iload hx hb dX7_writes_135 (lv_at hl 1 rfl) ?_
                refine lv_iconst (v := 1) hx hb dX7_writes_137 (by decide) ?_
                obtain ⟨x7, hc6, hsem⟩ := bn_some hsem
                refine pcV (C := RX7) (As := [.int x4, .int 1]) (rest := [.int x6]) ⟨hx, hb, hml, (hown d), (dr_words hts d)⟩ (hKK.drawn d) (cwV 2 (dr_words hts d) gX7_writes_X7_ofThing rfl rfl rfl hdX7_ofThing ⟨Nat.le_of_ble_eq_true rfl, Nat.le_of_ble_eq_true rfl⟩) (kX7_ofThing (l := l) (g := g) hP hc6) (va_recv (hK d) hP (ci := 7) (q0 := 0) rfl rfl) rfl hl.1 rfl (Nat.le_of_ble_eq_true rfl) dX7_writes_138 ⟨Nat.zero_le _, Nat.zero_le _⟩ ?_
                refine lv_icmp_eq (tgt := 171) hx hb dX7_writes_141 (by decide) (fun c8 => ?_) (fun c8 => ?_)
                · rw [if_pos c8] at hsem
                  refine lv_iconst (v := 0) hx hb dX7_writes_171 (by decide) ?_
                  refine lv_istore (lv' := [(6, .int 0), (5, .int x5), (4, .int x4), (0, .ref (ad 0)), (1, .int p0), (2, .int p1), (3, .int p2)]) hx hb dX7_writes_172 hl (by decide) rfl (fun ls hl => ?_)
                  refine lv_iload hx hb dX7_writes_174 (lv_at hl 0 rfl) ?_
                  refine lv_if_eq (tgt := 189) hx hb dX7_writes_176 (by decide) (fun cc => ?_) (fun cc => absurd cc (by decide))
                  refine lv_iload hx hb dX7_writes_189 (lv_at hl 0 rfl) ?_
                  refine lv_if_eq (tgt := 198) hx hb dX7_writes_191 (by decide) (fun cc => ?_) (fun cc => absurd cc (by decide))
                  refine lv_iconst (v := 0) hx hb dX7_writes_198 (by decide) ?_
                  have eo := (Option.some.inj hsem).symm.symm
                  refine W.endD hdr ?_
                  subst eo
                  exact W.iret (v := 0) hx hb hr (fun t ht hW => ⟨⟨_, u1, rfl, ⟨rfl, hq1⟩, ⟨by rw [ht]; exact hP, hD⟩⟩, hS.F ht⟩) hS.2.2 dX7_writes_199
                · rw [if_neg c8] at hsem
                  refine lv_aload_n hx hb dX7_writes_144 rfl (lv_at hl 2 rfl) ?_
                  refine lv_iload hx hb dX7_writes_145 (lv_at hl 1 rfl) ?_
                  obtain ⟨x8, hc7, hsem⟩ := bn_some hsem
                  refine pcV (C := RX7) (As := [.int x4]) (rest := []) ⟨hx, hb, hml, (hown d), (dr_words hts d)⟩ (hKK.drawn d) (cwV 1 (dr_words hts d) gX7_writes_X7_kindOf rfl rfl rfl hdX7_kindOf ⟨Nat.le_of_ble_eq_true rfl, Nat.le_of_ble_eq_true rfl⟩) (kX7_kindOf (l := l) (g := g) hP hc7) (va_recv (hK d) hP (ci := 7) (q0 := 0) rfl rfl) rfl hl.1 rfl (Nat.le_of_ble_eq_true rfl) dX7_writes_147 ⟨Nat.zero_le _, Nat.zero_le _⟩ ?_
                  refine lv_iconst (v := 1) hx hb dX7_writes_150 (by decide) ?_
                  refine lv_icmp_eq (tgt := 171) hx hb dX7_writes_151 (by decide) (fun c9 => ?_) (fun c9 => ?_)
                  · rw [if_pos c9] at hsem
                    refine lv_iconst (v := 0) hx hb dX7_writes_171 (by decide) ?_
                    refine lv_istore (lv' := [(6, .int 0), (5, .int x5), (4, .int x4), (0, .ref (ad 0)), (1, .int p0), (2, .int p1), (3, .int p2)]) hx hb dX7_writes_172 hl (by decide) rfl (fun ls hl => ?_)
                    refine lv_iload hx hb dX7_writes_174 (lv_at hl 0 rfl) ?_
                    refine lv_if_eq (tgt := 189) hx hb dX7_writes_176 (by decide) (fun cc => ?_) (fun cc => absurd cc (by decide))
                    refine lv_iload hx hb dX7_writes_189 (lv_at hl 0 rfl) ?_
                    refine lv_if_eq (tgt := 198) hx hb dX7_writes_191 (by decide) (fun cc => ?_) (fun cc => absurd cc (by decide))
                    refine lv_iconst (v := 0) hx hb dX7_writes_198 (by decide) ?_
                    have eo := (Option.some.inj hsem).symm.symm
                    refine W.endD hdr ?_
                    subst eo
                    exact W.iret (v := 0) hx hb hr (fun t ht hW => ⟨⟨_, u1, rfl, ⟨rfl, hq1⟩, ⟨by rw [ht]; exact hP, hD⟩⟩, hS.F ht⟩) hS.2.2 dX7_writes_199
                  · rw [if_neg c9] at hsem
                    refine lv_aload_n hx hb dX7_writes_154 rfl (lv_at hl 2 rfl) ?_
                    refine lv_aload_n hx hb dX7_writes_155 rfl (lv_at hl 2 rfl) ?_
                    refine lv_iload hx hb dX7_writes_156 (lv_at hl 1 rfl) ?_
                    obtain ⟨x9, hc8, hsem⟩ := bn_some hsem
                    refine pcV (C := RX7) (As := [.int x4]) (rest := [.ref (ad 0)]) ⟨hx, hb, hml, (hown d), (dr_words hts d)⟩ (hKK.drawn d) (cwV 1 (dr_words hts d) gX7_writes_X7_cardOf rfl rfl rfl hdX7_cardOf ⟨Nat.le_of_ble_eq_true rfl, Nat.le_of_ble_eq_true rfl⟩) (kX7_cardOf (l := l) (g := g) hP hc8) (va_recv (hK d) hP (ci := 7) (q0 := 0) rfl rfl) rfl hl.1 rfl (Nat.le_of_ble_eq_true rfl) dX7_writes_158 ⟨Nat.zero_le _, Nat.zero_le _⟩ ?_
                    obtain ⟨x10, hc9, hsem⟩ := bn_some hsem
                    refine pcV (C := RX7) (As := [.int x9]) (rest := []) ⟨hx, hb, hml, (hown d), (dr_words hts d)⟩ (hKK.drawn d) (cwV 1 (dr_words hts d) gX7_writes_X7_isDirty rfl rfl rfl hdX7_isDirty ⟨Nat.le_of_ble_eq_true rfl, Nat.le_of_ble_eq_true rfl⟩) (kX7_isDirty (l := l) (g := g) hP hc9) (va_recv (hK d) hP (ci := 7) (q0 := 0) rfl rfl) rfl hl.1 rfl (Nat.le_of_ble_eq_true rfl) dX7_writes_161 ⟨Nat.zero_le _, Nat.zero_le _⟩ ?_
                    refine lv_if_ne (tgt := 171) hx hb dX7_writes_164 (by decide) (fun c10 => ?_) (fun c10 => ?_)
                    · rw [if_neg c10] at hsem
                      refine lv_iconst (v := 0) hx hb dX7_writes_171 (by decide) ?_
                      refine lv_istore (lv' := [(6, .int 0), (5, .int x5), (4, .int x4), (0, .ref (ad 0)), (1, .int p0), (2, .int p1), (3, .int p2)]) hx hb dX7_writes_172 hl (by decide) rfl (fun ls hl => ?_)
                      refine lv_iload hx hb dX7_writes_174 (lv_at hl 0 rfl) ?_
                      refine lv_if_eq (tgt := 189) hx hb dX7_writes_176 (by decide) (fun cc => ?_) (fun cc => absurd cc (by decide))
                      refine lv_iload hx hb dX7_writes_189 (lv_at hl 0 rfl) ?_
                      refine lv_if_eq (tgt := 198) hx hb dX7_writes_191 (by decide) (fun cc => ?_) (fun cc => absurd cc (by decide))
                      refine lv_iconst (v := 0) hx hb dX7_writes_198 (by decide) ?_
                      have eo := (Option.some.inj hsem).symm.symm
                      refine W.endD hdr ?_
                      subst eo
                      exact W.iret (v := 0) hx hb hr (fun t ht hW => ⟨⟨_, u1, rfl, ⟨rfl, hq1⟩, ⟨by rw [ht]; exact hP, hD⟩⟩, hS.F ht⟩) hS.2.2 dX7_writes_199
                    · rw [if_pos c10] at hsem
                      refine lv_iconst (v := 1) hx hb dX7_writes_167 (by decide) ?_
                      refine lv_goto (tgt := 172) hx hb dX7_writes_168 (by decide) ?_
                      refine lv_istore (lv' := [(6, .int 1), (5, .int x5), (4, .int x4), (0, .ref (ad 0)), (1, .int p0), (2, .int p1), (3, .int p2)]) hx hb dX7_writes_172 hl (by decide) rfl (fun ls hl => ?_)
                      refine lv_iload hx hb dX7_writes_174 (lv_at hl 0 rfl) ?_
                      refine lv_if_eq (tgt := 189) hx hb dX7_writes_176 (by decide) (fun cc => absurd cc (by decide)) (fun cc => ?_)
                      refine lv_aload_n hx hb dX7_writes_179 rfl (lv_at hl 3 rfl) ?_
                      refine lv_aload_n hx hb dX7_writes_180 rfl (lv_at hl 3 rfl) ?_
                      refine lv_iload hx hb dX7_writes_181 (lv_at hl 2 rfl) ?_
                      obtain ⟨x11, hc10, hsem⟩ := bn_some hsem
                      refine pcV (C := RX7) (As := [.int x4]) (rest := [.ref (ad 0)]) ⟨hx, hb, hml, (hown d), (dr_words hts d)⟩ (hKK.drawn d) (cwV 1 (dr_words hts d) gX7_writes_X7_cardOf rfl rfl rfl hdX7_cardOf ⟨Nat.le_of_ble_eq_true rfl, Nat.le_of_ble_eq_true rfl⟩) (kX7_cardOf (l := l) (g := g) hP hc10) (va_recv (hK d) hP (ci := 7) (q0 := 0) rfl rfl) rfl hl.1 rfl (Nat.le_of_ble_eq_true rfl) dX7_writes_183 ⟨Nat.zero_le _, Nat.zero_le _⟩ ?_
                      obtain ⟨z2, hc11, hsem⟩ := bn_some hsem
                      refine mcV (C := RX7) (As := [.int x11]) (rest := []) ⟨hx, hb, hml, (hown d), (dr_words hts d)⟩ (hKK.drawn d) hP hD hS hZ (cwV 1 (dr_words hts d) gX7_writes_X7_becomesDirty rfl rfl rfl hdX7_becomesDirty ⟨Nat.le_of_ble_eq_true rfl, Nat.le_of_ble_eq_true rfl⟩) (kX7_becomesDirty (l := l) (g := g) (ad := ad) (A := A2) (F := u1) hc11) (va_recv (hK d) hP (ci := 7) (q0 := 0) rfl rfl) rfl hl.1 rfl (Nat.le_of_ble_eq_true rfl) dX7_writes_186 ⟨Nat.zero_le _, Nat.zero_le _⟩ (fun H locs hP hD hS => ?_)
                      have hP : va_P g.1 vwCl (wM g ad z2 u1) H := hP
                      have hD : va_D Z (wM g ad z2 u1) := hD
                      refine lv_iload hx hb dX7_writes_189 (lv_at hl 0 rfl) ?_
                      refine lv_if_eq (tgt := 198) hx hb dX7_writes_191 (by decide) (fun cc => absurd cc (by decide)) (fun cc => ?_)
                      refine lv_iconst (v := 1) hx hb dX7_writes_194 (by decide) ?_
                      refine lv_goto (tgt := 199) hx hb dX7_writes_195 (by decide) ?_
                      have eo := (Option.some.inj hsem).symm.symm
                      refine W.endD hdr ?_
                      subst eo
                      exact W.iret (v := 1) hx hb hr (fun t ht hW => ⟨⟨_, u1, rfl, ⟨rfl, hq1⟩, ⟨by rw [ht]; exact hP, hD⟩⟩, hS.F ht⟩) hS.2.2 dX7_writes_199
            · rw [if_pos c6] at hsem
              refine lv_aload_n hx hb dX7_writes_91 rfl (lv_at hl 2 rfl) ?_
              refine lv_aload_n hx hb dX7_writes_92 rfl (lv_at hl 2 rfl) ?_
              refine lv_iload hx hb dX7_writes_93 (lv_at hl 1 rfl) ?_
              refine lv_iconst (v := 3) hx hb dX7_writes_95 (by decide) ?_
              refine lv_iload_n hx hb dX7_writes_96 rfl (lv_at hl 4 rfl) ?_
              refine lv_iadd hx hb dX7_writes_97 ?_
              obtain ⟨x12, hc12, hsem⟩ := bn_some hsem
              refine pcV (C := RX7) (As := [.int x4, .int (3 + p1)]) (rest := [.ref (ad 0)]) ⟨hx, hb, hml, (hown d), (dr_words hts d)⟩ (hKK.drawn d) (cwV 2 (dr_words hts d) gX7_writes_X7_ofThing rfl rfl rfl hdX7_ofThing ⟨Nat.le_of_ble_eq_true rfl, Nat.le_of_ble_eq_true rfl⟩) (kX7_ofThing (l := l) (g := g) hP hc12) (va_recv (hK d) hP (ci := 7) (q0 := 0) rfl rfl) rfl hl.1 rfl (Nat.le_of_ble_eq_true rfl) dX7_writes_98 ⟨Nat.zero_le _, Nat.zero_le _⟩ ?_
              obtain ⟨z3, hc13, hsem⟩ := bn_some hsem
              refine mcV (C := RX7) (As := [.int x12]) (rest := []) ⟨hx, hb, hml, (hown d), (dr_words hts d)⟩ (hKK.drawn d) hP hD hS hZ (cwV 1 (dr_words hts d) gX7_writes_X7_becomesGrey rfl rfl rfl hdX7_becomesGrey ⟨Nat.le_of_ble_eq_true rfl, Nat.le_of_ble_eq_true rfl⟩) (kX7_becomesGrey (l := l) (g := g) (ad := ad) (A := z1.1) (F := u1) hc13) (va_recv (hK d) hP (ci := 7) (q0 := 0) rfl rfl) rfl hl.1 rfl (Nat.le_of_ble_eq_true rfl) dX7_writes_101 ⟨Nat.zero_le _, Nat.zero_le _⟩ (fun H locs hP hD hS => ?_)
              have hP : va_P g.1 vwCl (wM g ad z3 u1) H := hP
              have hD : va_D Z (wM g ad z3 u1) := hD
              refine lv_aload_n hx hb dX7_writes_104 rfl (lv_at hl 2 rfl) ?_
              refine va_get (D := g.1) (ci := 7) (v := .ref (ad 1)) (C := RX7) (T := TX7) (N := 26) hx hb (dr_words hts d) (fun w h => List.mem_cons_of_mem _ (List.mem_append_right _ h)) (hown d) (hK d) hP 0 rfl rfl 1 (by decide) ((dr_words hts d) (.fieldLink RX7 7 "PauseRegionsModel" "s" "[I") (List.mem_of_getElem? (i := 2) rfl)) (fun _ h9 => h9) rfl dX7_writes_105 ?_
              refine lv_bipush (v := 6) hx hb dX7_writes_108 (by decide) ?_
              refine lv_iload hx hb dX7_writes_110 (lv_at hl 1 rfl) ?_
              refine lv_imul hx hb dX7_writes_112 ?_
              refine lv_iconst (v := 3) hx hb dX7_writes_113 (by decide) ?_
              refine lv_iadd hx hb dX7_writes_114 ?_
              refine lv_iload_n hx hb dX7_writes_115 rfl (lv_at hl 4 rfl) ?_
              refine lv_iadd hx hb dX7_writes_116 ?_
              refine lv_iload hx hb dX7_writes_117 (lv_at hl 0 rfl) ?_
              obtain ⟨h5, hsem⟩ := ck_some hsem
              refine va_iast (D := g.1) hx hb (hK d) hP hD hS 1 0 rfl rfl h5 dX7_writes_119 (fun H locs hP hD hS => ?_)
              obtain ⟨A3, eA3, hsem⟩ := bd_some hsem
              have hP : va_P g.1 vwCl (wM g ad A3 u1) H := by rw [eA3]; exact hP
              have hD : va_D Z (wM g ad A3 u1) := by rw [eA3]; exact hD
              refine lv_iload hx hb dX7_writes_120 (lv_at hl 0 rfl) ?_
              refine lv_bipush (v := (-5)) hx hb dX7_writes_122 (by decide) ?_
              refine lv_icmp_eq (tgt := 171) hx hb dX7_writes_124 (by decide) (fun c11 => ?_) (fun c11 => ?_)
              · rw [if_pos c11] at hsem
                refine lv_iconst (v := 0) hx hb dX7_writes_171 (by decide) ?_
                refine lv_istore (lv' := [(6, .int 0), (5, .int x5), (4, .int x4), (0, .ref (ad 0)), (1, .int p0), (2, .int p1), (3, .int p2)]) hx hb dX7_writes_172 hl (by decide) rfl (fun ls hl => ?_)
                refine lv_iload hx hb dX7_writes_174 (lv_at hl 0 rfl) ?_
                refine lv_if_eq (tgt := 189) hx hb dX7_writes_176 (by decide) (fun cc => ?_) (fun cc => absurd cc (by decide))
                refine lv_iload hx hb dX7_writes_189 (lv_at hl 0 rfl) ?_
                refine lv_if_eq (tgt := 198) hx hb dX7_writes_191 (by decide) (fun cc => ?_) (fun cc => absurd cc (by decide))
                refine lv_iconst (v := 0) hx hb dX7_writes_198 (by decide) ?_
                have eo := (Option.some.inj hsem).symm.symm
                refine W.endD hdr ?_
                subst eo
                exact W.iret (v := 0) hx hb hr (fun t ht hW => ⟨⟨_, u1, rfl, ⟨rfl, hq1⟩, ⟨by rw [ht]; exact hP, hD⟩⟩, hS.F ht⟩) hS.2.2 dX7_writes_199
              · rw [if_neg c11] at hsem
                refine lv_aload_n hx hb dX7_writes_127 rfl (lv_at hl 2 rfl) ?_
                refine lv_iload hx hb dX7_writes_128 (lv_at hl 0 rfl) ?_
                refine lv_iconst (v := 1) hx hb dX7_writes_130 (by decide) ?_
                obtain ⟨x13, hc14, hsem⟩ := bn_some hsem
                refine pcV (C := RX7) (As := [.int x5, .int 1]) (rest := []) ⟨hx, hb, hml, (hown d), (dr_words hts d)⟩ (hKK.drawn d) (cwV 2 (dr_words hts d) gX7_writes_X7_ofThing rfl rfl rfl hdX7_ofThing ⟨Nat.le_of_ble_eq_true rfl, Nat.le_of_ble_eq_true rfl⟩) (kX7_ofThing (l := l) (g := g) hP hc14) (va_recv (hK d) hP (ci := 7) (q0 := 0) rfl rfl) rfl hl.1 rfl (Nat.le_of_ble_eq_true rfl) dX7_writes_131 ⟨Nat.zero_le _, Nat.zero_le _⟩ ?_
                refine lv_aload_n hx hb dX7_writes_134 rfl (lv_at hl 2 rfl) ?_
                refine lv_iload hx hb dX7_writes_135 (lv_at hl 1 rfl) ?_
                refine lv_iconst (v := 1) hx hb dX7_writes_137 (by decide) ?_
                obtain ⟨x14, hc15, hsem⟩ := bn_some hsem
                refine pcV (C := RX7) (As := [.int x4, .int 1]) (rest := [.int x13]) ⟨hx, hb, hml, (hown d), (dr_words hts d)⟩ (hKK.drawn d) (cwV 2 (dr_words hts d) gX7_writes_X7_ofThing rfl rfl rfl hdX7_ofThing ⟨Nat.le_of_ble_eq_true rfl, Nat.le_of_ble_eq_true rfl⟩) (kX7_ofThing (l := l) (g := g) hP hc15) (va_recv (hK d) hP (ci := 7) (q0 := 0) rfl rfl) rfl hl.1 rfl (Nat.le_of_ble_eq_true rfl) dX7_writes_138 ⟨Nat.zero_le _, Nat.zero_le _⟩ ?_
                refine lv_icmp_eq (tgt := 171) hx hb dX7_writes_141 (by decide) (fun c12 => ?_) (fun c12 => ?_)
                · rw [if_pos c12] at hsem
                  refine lv_iconst (v := 0) hx hb dX7_writes_171 (by decide) ?_
                  refine lv_istore (lv' := [(6, .int 0), (5, .int x5), (4, .int x4), (0, .ref (ad 0)), (1, .int p0), (2, .int p1), (3, .int p2)]) hx hb dX7_writes_172 hl (by decide) rfl (fun ls hl => ?_)
                  refine lv_iload hx hb dX7_writes_174 (lv_at hl 0 rfl) ?_
                  refine lv_if_eq (tgt := 189) hx hb dX7_writes_176 (by decide) (fun cc => ?_) (fun cc => absurd cc (by decide))
                  refine lv_iload hx hb dX7_writes_189 (lv_at hl 0 rfl) ?_
                  refine lv_if_eq (tgt := 198) hx hb dX7_writes_191 (by decide) (fun cc => ?_) (fun cc => absurd cc (by decide))
                  refine lv_iconst (v := 0) hx hb dX7_writes_198 (by decide) ?_
                  have eo := (Option.some.inj hsem).symm.symm
                  refine W.endD hdr ?_
                  subst eo
                  exact W.iret (v := 0) hx hb hr (fun t ht hW => ⟨⟨_, u1, rfl, ⟨rfl, hq1⟩, ⟨by rw [ht]; exact hP, hD⟩⟩, hS.F ht⟩) hS.2.2 dX7_writes_199
                · rw [if_neg c12] at hsem
                  refine lv_aload_n hx hb dX7_writes_144 rfl (lv_at hl 2 rfl) ?_
                  refine lv_iload hx hb dX7_writes_145 (lv_at hl 1 rfl) ?_
                  obtain ⟨x15, hc16, hsem⟩ := bn_some hsem
                  refine pcV (C := RX7) (As := [.int x4]) (rest := []) ⟨hx, hb, hml, (hown d), (dr_words hts d)⟩ (hKK.drawn d) (cwV 1 (dr_words hts d) gX7_writes_X7_kindOf rfl rfl rfl hdX7_kindOf ⟨Nat.le_of_ble_eq_true rfl, Nat.le_of_ble_eq_true rfl⟩) (kX7_kindOf (l := l) (g := g) hP hc16) (va_recv (hK d) hP (ci := 7) (q0 := 0) rfl rfl) rfl hl.1 rfl (Nat.le_of_ble_eq_true rfl) dX7_writes_147 ⟨Nat.zero_le _, Nat.zero_le _⟩ ?_
                  refine lv_iconst (v := 1) hx hb dX7_writes_150 (by decide) ?_
                  refine lv_icmp_eq (tgt := 171) hx hb dX7_writes_151 (by decide) (fun c13 => ?_) (fun c13 => ?_)
                  · rw [if_pos c13] at hsem
                    refine lv_iconst (v := 0) hx hb dX7_writes_171 (by decide) ?_
                    refine lv_istore (lv' := [(6, .int 0), (5, .int x5), (4, .int x4), (0, .ref (ad 0)), (1, .int p0), (2, .int p1), (3, .int p2)]) hx hb dX7_writes_172 hl (by decide) rfl (fun ls hl => ?_)
                    refine lv_iload hx hb dX7_writes_174 (lv_at hl 0 rfl) ?_
                    refine lv_if_eq (tgt := 189) hx hb dX7_writes_176 (by decide) (fun cc => ?_) (fun cc => absurd cc (by decide))
                    refine lv_iload hx hb dX7_writes_189 (lv_at hl 0 rfl) ?_
                    refine lv_if_eq (tgt := 198) hx hb dX7_writes_191 (by decide) (fun cc => ?_) (fun cc => absurd cc (by decide))
                    refine lv_iconst (v := 0) hx hb dX7_writes_198 (by decide) ?_
                    have eo := (Option.some.inj hsem).symm.symm
                    refine W.endD hdr ?_
                    subst eo
                    exact W.iret (v := 0) hx hb hr (fun t ht hW => ⟨⟨_, u1, rfl, ⟨rfl, hq1⟩, ⟨by rw [ht]; exact hP, hD⟩⟩, hS.F ht⟩) hS.2.2 dX7_writes_199
                  · rw [if_neg c13] at hsem
                    refine lv_aload_n hx hb dX7_writes_154 rfl (lv_at hl 2 rfl) ?_
                    refine lv_aload_n hx hb dX7_writes_155 rfl (lv_at hl 2 rfl) ?_
                    refine lv_iload hx hb dX7_writes_156 (lv_at hl 1 rfl) ?_
                    obtain ⟨x16, hc17, hsem⟩ := bn_some hsem
                    refine pcV (C := RX7) (As := [.int x4]) (rest := [.ref (ad 0)]) ⟨hx, hb, hml, (hown d), (dr_words hts d)⟩ (hKK.drawn d) (cwV 1 (dr_words hts d) gX7_writes_X7_cardOf rfl rfl rfl hdX7_cardOf ⟨Nat.le_of_ble_eq_true rfl, Nat.le_of_ble_eq_true rfl⟩) (kX7_cardOf (l := l) (g := g) hP hc17) (va_recv (hK d) hP (ci := 7) (q0 := 0) rfl rfl) rfl hl.1 rfl (Nat.le_of_ble_eq_true rfl) dX7_writes_158 ⟨Nat.zero_le _, Nat.zero_le _⟩ ?_
                    obtain ⟨x17, hc18, hsem⟩ := bn_some hsem
                    refine pcV (C := RX7) (As := [.int x16]) (rest := []) ⟨hx, hb, hml, (hown d), (dr_words hts d)⟩ (hKK.drawn d) (cwV 1 (dr_words hts d) gX7_writes_X7_isDirty rfl rfl rfl hdX7_isDirty ⟨Nat.le_of_ble_eq_true rfl, Nat.le_of_ble_eq_true rfl⟩) (kX7_isDirty (l := l) (g := g) hP hc18) (va_recv (hK d) hP (ci := 7) (q0 := 0) rfl rfl) rfl hl.1 rfl (Nat.le_of_ble_eq_true rfl) dX7_writes_161 ⟨Nat.zero_le _, Nat.zero_le _⟩ ?_
                    refine lv_if_ne (tgt := 171) hx hb dX7_writes_164 (by decide) (fun c14 => ?_) (fun c14 => ?_)
                    · rw [if_neg c14] at hsem
                      refine lv_iconst (v := 0) hx hb dX7_writes_171 (by decide) ?_
                      refine lv_istore (lv' := [(6, .int 0), (5, .int x5), (4, .int x4), (0, .ref (ad 0)), (1, .int p0), (2, .int p1), (3, .int p2)]) hx hb dX7_writes_172 hl (by decide) rfl (fun ls hl => ?_)
                      refine lv_iload hx hb dX7_writes_174 (lv_at hl 0 rfl) ?_
                      refine lv_if_eq (tgt := 189) hx hb dX7_writes_176 (by decide) (fun cc => ?_) (fun cc => absurd cc (by decide))
                      refine lv_iload hx hb dX7_writes_189 (lv_at hl 0 rfl) ?_
                      refine lv_if_eq (tgt := 198) hx hb dX7_writes_191 (by decide) (fun cc => ?_) (fun cc => absurd cc (by decide))
                      refine lv_iconst (v := 0) hx hb dX7_writes_198 (by decide) ?_
                      have eo := (Option.some.inj hsem).symm.symm
                      refine W.endD hdr ?_
                      subst eo
                      exact W.iret (v := 0) hx hb hr (fun t ht hW => ⟨⟨_, u1, rfl, ⟨rfl, hq1⟩, ⟨by rw [ht]; exact hP, hD⟩⟩, hS.F ht⟩) hS.2.2 dX7_writes_199
                    · rw [if_pos c14] at hsem
                      refine lv_iconst (v := 1) hx hb dX7_writes_167 (by decide) ?_
                      refine lv_goto (tgt := 172) hx hb dX7_writes_168 (by decide) ?_
                      refine lv_istore (lv' := [(6, .int 1), (5, .int x5), (4, .int x4), (0, .ref (ad 0)), (1, .int p0), (2, .int p1), (3, .int p2)]) hx hb dX7_writes_172 hl (by decide) rfl (fun ls hl => ?_)
                      refine lv_iload hx hb dX7_writes_174 (lv_at hl 0 rfl) ?_
                      refine lv_if_eq (tgt := 189) hx hb dX7_writes_176 (by decide) (fun cc => absurd cc (by decide)) (fun cc => ?_)
                      refine lv_aload_n hx hb dX7_writes_179 rfl (lv_at hl 3 rfl) ?_
                      refine lv_aload_n hx hb dX7_writes_180 rfl (lv_at hl 3 rfl) ?_
                      refine lv_iload hx hb dX7_writes_181 (lv_at hl 2 rfl) ?_
                      obtain ⟨x18, hc19, hsem⟩ := bn_some hsem
                      refine pcV (C := RX7) (As := [.int x4]) (rest := [.ref (ad 0)]) ⟨hx, hb, hml, (hown d), (dr_words hts d)⟩ (hKK.drawn d) (cwV 1 (dr_words hts d) gX7_writes_X7_cardOf rfl rfl rfl hdX7_cardOf ⟨Nat.le_of_ble_eq_true rfl, Nat.le_of_ble_eq_true rfl⟩) (kX7_cardOf (l := l) (g := g) hP hc19) (va_recv (hK d) hP (ci := 7) (q0 := 0) rfl rfl) rfl hl.1 rfl (Nat.le_of_ble_eq_true rfl) dX7_writes_183 ⟨Nat.zero_le _, Nat.zero_le _⟩ ?_
                      obtain ⟨z4, hc20, hsem⟩ := bn_some hsem
                      refine mcV (C := RX7) (As := [.int x18]) (rest := []) ⟨hx, hb, hml, (hown d), (dr_words hts d)⟩ (hKK.drawn d) hP hD hS hZ (cwV 1 (dr_words hts d) gX7_writes_X7_becomesDirty rfl rfl rfl hdX7_becomesDirty ⟨Nat.le_of_ble_eq_true rfl, Nat.le_of_ble_eq_true rfl⟩) (kX7_becomesDirty (l := l) (g := g) (ad := ad) (A := A3) (F := u1) hc20) (va_recv (hK d) hP (ci := 7) (q0 := 0) rfl rfl) rfl hl.1 rfl (Nat.le_of_ble_eq_true rfl) dX7_writes_186 ⟨Nat.zero_le _, Nat.zero_le _⟩ (fun H locs hP hD hS => ?_)
                      have hP : va_P g.1 vwCl (wM g ad z4 u1) H := hP
                      have hD : va_D Z (wM g ad z4 u1) := hD
                      refine lv_iload hx hb dX7_writes_189 (lv_at hl 0 rfl) ?_
                      refine lv_if_eq (tgt := 198) hx hb dX7_writes_191 (by decide) (fun cc => absurd cc (by decide)) (fun cc => ?_)
                      refine lv_iconst (v := 1) hx hb dX7_writes_194 (by decide) ?_
                      refine lv_goto (tgt := 199) hx hb dX7_writes_195 (by decide) ?_
                      have eo := (Option.some.inj hsem).symm.symm
                      refine W.endD hdr ?_
                      subst eo
                      exact W.iret (v := 1) hx hb hr (fun t ht hW => ⟨⟨_, u1, rfl, ⟨rfl, hq1⟩, ⟨by rw [ht]; exact hP, hD⟩⟩, hS.F ht⟩) hS.2.2 dX7_writes_199
          · rw [if_neg c5] at hsem
            refine lv_bipush (v := (-5)) hx hb dX7_writes_62 (by decide) ?_
            refine lv_goto (tgt := 77) hx hb dX7_writes_64 (by decide) ?_
            refine lv_istore (lv' := [(5, .int (-5)), (4, .int x4), (0, .ref (ad 0)), (1, .int p0), (2, .int p1), (3, .int p2)]) hx hb dX7_writes_77 hl (by decide) rfl (fun ls hl => ?_)
            refine lv_aload_n hx hb dX7_writes_79 rfl (lv_at hl 2 rfl) ?_
            refine va_get (D := g.1) (ci := 7) (v := .ref (ad 1)) (C := RX7) (T := TX7) (N := 26) hx hb (dr_words hts d) (fun w h => List.mem_cons_of_mem _ (List.mem_append_right _ h)) (hown d) (hK d) hP 0 rfl rfl 1 (by decide) ((dr_words hts d) (.fieldLink RX7 7 "PauseRegionsModel" "s" "[I") (List.mem_of_getElem? (i := 2) rfl)) (fun _ h9 => h9) rfl dX7_writes_80 ?_
            refine lv_sipush (v := 292) hx hb dX7_writes_83 (by decide) ?_
            have h6 : vp_in 292 296 := inb_vp rfl
            refine va_iald (D := g.1) hx hb (hK d) hP 1 0 rfl rfl h6 dX7_writes_86 ?_
            refine lv_iconst (v := 1) hx hb dX7_writes_87 (by decide) ?_
            refine lv_icmp_ne (tgt := 104) hx hb dX7_writes_88 (by decide) (fun c15 => ?_) (fun c15 => ?_)
            · rw [if_neg c15] at hsem
              refine lv_aload_n hx hb dX7_writes_104 rfl (lv_at hl 2 rfl) ?_
              refine va_get (D := g.1) (ci := 7) (v := .ref (ad 1)) (C := RX7) (T := TX7) (N := 26) hx hb (dr_words hts d) (fun w h => List.mem_cons_of_mem _ (List.mem_append_right _ h)) (hown d) (hK d) hP 0 rfl rfl 1 (by decide) ((dr_words hts d) (.fieldLink RX7 7 "PauseRegionsModel" "s" "[I") (List.mem_of_getElem? (i := 2) rfl)) (fun _ h9 => h9) rfl dX7_writes_105 ?_
              refine lv_bipush (v := 6) hx hb dX7_writes_108 (by decide) ?_
              refine lv_iload hx hb dX7_writes_110 (lv_at hl 1 rfl) ?_
              refine lv_imul hx hb dX7_writes_112 ?_
              refine lv_iconst (v := 3) hx hb dX7_writes_113 (by decide) ?_
              refine lv_iadd hx hb dX7_writes_114 ?_
              refine lv_iload_n hx hb dX7_writes_115 rfl (lv_at hl 4 rfl) ?_
              refine lv_iadd hx hb dX7_writes_116 ?_
              refine lv_iload hx hb dX7_writes_117 (lv_at hl 0 rfl) ?_
              obtain ⟨h7, hsem⟩ := ck_some hsem
              refine va_iast (D := g.1) hx hb (hK d) hP hD hS 1 0 rfl rfl h7 dX7_writes_119 (fun H locs hP hD hS => ?_)
              obtain ⟨A4, eA4, hsem⟩ := bd_some hsem
              have hP : va_P g.1 vwCl (wM g ad A4 u1) H := by rw [eA4]; exact hP
              have hD : va_D Z (wM g ad A4 u1) := by rw [eA4]; exact hD
              refine lv_iload hx hb dX7_writes_120 (lv_at hl 0 rfl) ?_
              refine lv_bipush (v := (-5)) hx hb dX7_writes_122 (by decide) ?_
              refine lv_icmp_eq (tgt := 171) hx hb dX7_writes_124 (by decide) (fun cc => ?_) (fun cc => absurd cc (by decide))
              refine lv_iconst (v := 0) hx hb dX7_writes_171 (by decide) ?_
              refine lv_istore (lv' := [(6, .int 0), (5, .int (-5)), (4, .int x4), (0, .ref (ad 0)), (1, .int p0), (2, .int p1), (3, .int p2)]) hx hb dX7_writes_172 hl (by decide) rfl (fun ls hl => ?_)
              refine lv_iload hx hb dX7_writes_174 (lv_at hl 0 rfl) ?_
              refine lv_if_eq (tgt := 189) hx hb dX7_writes_176 (by decide) (fun cc => ?_) (fun cc => absurd cc (by decide))
              refine lv_iload hx hb dX7_writes_189 (lv_at hl 0 rfl) ?_
              refine lv_if_eq (tgt := 198) hx hb dX7_writes_191 (by decide) (fun cc => ?_) (fun cc => absurd cc (by decide))
              refine lv_iconst (v := 0) hx hb dX7_writes_198 (by decide) ?_
              have eo := (Option.some.inj hsem).symm.symm
              refine W.endD hdr ?_
              subst eo
              exact W.iret (v := 0) hx hb hr (fun t ht hW => ⟨⟨_, u1, rfl, ⟨rfl, hq1⟩, ⟨by rw [ht]; exact hP, hD⟩⟩, hS.F ht⟩) hS.2.2 dX7_writes_199
            · rw [if_pos c15] at hsem
              refine lv_aload_n hx hb dX7_writes_91 rfl (lv_at hl 2 rfl) ?_
              refine lv_aload_n hx hb dX7_writes_92 rfl (lv_at hl 2 rfl) ?_
              refine lv_iload hx hb dX7_writes_93 (lv_at hl 1 rfl) ?_
              refine lv_iconst (v := 3) hx hb dX7_writes_95 (by decide) ?_
              refine lv_iload_n hx hb dX7_writes_96 rfl (lv_at hl 4 rfl) ?_
              refine lv_iadd hx hb dX7_writes_97 ?_
              obtain ⟨x19, hc21, hsem⟩ := bn_some hsem
              refine pcV (C := RX7) (As := [.int x4, .int (3 + p1)]) (rest := [.ref (ad 0)]) ⟨hx, hb, hml, (hown d), (dr_words hts d)⟩ (hKK.drawn d) (cwV 2 (dr_words hts d) gX7_writes_X7_ofThing rfl rfl rfl hdX7_ofThing ⟨Nat.le_of_ble_eq_true rfl, Nat.le_of_ble_eq_true rfl⟩) (kX7_ofThing (l := l) (g := g) hP hc21) (va_recv (hK d) hP (ci := 7) (q0 := 0) rfl rfl) rfl hl.1 rfl (Nat.le_of_ble_eq_true rfl) dX7_writes_98 ⟨Nat.zero_le _, Nat.zero_le _⟩ ?_
              obtain ⟨z5, hc22, hsem⟩ := bn_some hsem
              refine mcV (C := RX7) (As := [.int x19]) (rest := []) ⟨hx, hb, hml, (hown d), (dr_words hts d)⟩ (hKK.drawn d) hP hD hS hZ (cwV 1 (dr_words hts d) gX7_writes_X7_becomesGrey rfl rfl rfl hdX7_becomesGrey ⟨Nat.le_of_ble_eq_true rfl, Nat.le_of_ble_eq_true rfl⟩) (kX7_becomesGrey (l := l) (g := g) (ad := ad) (A := z1.1) (F := u1) hc22) (va_recv (hK d) hP (ci := 7) (q0 := 0) rfl rfl) rfl hl.1 rfl (Nat.le_of_ble_eq_true rfl) dX7_writes_101 ⟨Nat.zero_le _, Nat.zero_le _⟩ (fun H locs hP hD hS => ?_)
              have hP : va_P g.1 vwCl (wM g ad z5 u1) H := hP
              have hD : va_D Z (wM g ad z5 u1) := hD
              refine lv_aload_n hx hb dX7_writes_104 rfl (lv_at hl 2 rfl) ?_
              refine va_get (D := g.1) (ci := 7) (v := .ref (ad 1)) (C := RX7) (T := TX7) (N := 26) hx hb (dr_words hts d) (fun w h => List.mem_cons_of_mem _ (List.mem_append_right _ h)) (hown d) (hK d) hP 0 rfl rfl 1 (by decide) ((dr_words hts d) (.fieldLink RX7 7 "PauseRegionsModel" "s" "[I") (List.mem_of_getElem? (i := 2) rfl)) (fun _ h9 => h9) rfl dX7_writes_105 ?_
              refine lv_bipush (v := 6) hx hb dX7_writes_108 (by decide) ?_
              refine lv_iload hx hb dX7_writes_110 (lv_at hl 1 rfl) ?_
              refine lv_imul hx hb dX7_writes_112 ?_
              refine lv_iconst (v := 3) hx hb dX7_writes_113 (by decide) ?_
              refine lv_iadd hx hb dX7_writes_114 ?_
              refine lv_iload_n hx hb dX7_writes_115 rfl (lv_at hl 4 rfl) ?_
              refine lv_iadd hx hb dX7_writes_116 ?_
              refine lv_iload hx hb dX7_writes_117 (lv_at hl 0 rfl) ?_
              obtain ⟨h8, hsem⟩ := ck_some hsem
              refine va_iast (D := g.1) hx hb (hK d) hP hD hS 1 0 rfl rfl h8 dX7_writes_119 (fun H locs hP hD hS => ?_)
              obtain ⟨A5, eA5, hsem⟩ := bd_some hsem
              have hP : va_P g.1 vwCl (wM g ad A5 u1) H := by rw [eA5]; exact hP
              have hD : va_D Z (wM g ad A5 u1) := by rw [eA5]; exact hD
              refine lv_iload hx hb dX7_writes_120 (lv_at hl 0 rfl) ?_
              refine lv_bipush (v := (-5)) hx hb dX7_writes_122 (by decide) ?_
              refine lv_icmp_eq (tgt := 171) hx hb dX7_writes_124 (by decide) (fun cc => ?_) (fun cc => absurd cc (by decide))
              refine lv_iconst (v := 0) hx hb dX7_writes_171 (by decide) ?_
              refine lv_istore (lv' := [(6, .int 0), (5, .int (-5)), (4, .int x4), (0, .ref (ad 0)), (1, .int p0), (2, .int p1), (3, .int p2)]) hx hb dX7_writes_172 hl (by decide) rfl (fun ls hl => ?_)
              refine lv_iload hx hb dX7_writes_174 (lv_at hl 0 rfl) ?_
              refine lv_if_eq (tgt := 189) hx hb dX7_writes_176 (by decide) (fun cc => ?_) (fun cc => absurd cc (by decide))
              refine lv_iload hx hb dX7_writes_189 (lv_at hl 0 rfl) ?_
              refine lv_if_eq (tgt := 198) hx hb dX7_writes_191 (by decide) (fun cc => ?_) (fun cc => absurd cc (by decide))
              refine lv_iconst (v := 0) hx hb dX7_writes_198 (by decide) ?_
              have eo := (Option.some.inj hsem).symm.symm
              refine W.endD hdr ?_
              subst eo
              exact W.iret (v := 0) hx hb hr (fun t ht hW => ⟨⟨_, u1, rfl, ⟨rfl, hq1⟩, ⟨by rw [ht]; exact hP, hD⟩⟩, hS.F ht⟩) hS.2.2 dX7_writes_199
        · rw [if_pos c4] at hsem
          refine lv_bipush (v := (-2)) hx hb dX7_writes_51 (by decide) ?_
          have eo := (Option.some.inj hsem).symm.symm
          refine W.endD hdr ?_
          subst eo
          exact W.iret (v := (-2)) hx hb hr (fun t ht hW => ⟨⟨_, F, rfl, ⟨rfl, hAL⟩, ⟨by rw [ht]; exact hP, hD⟩⟩, hS.F ht⟩) hS.2.2 dX7_writes_53
      · rw [if_pos c3] at hsem
        refine lv_iconst (v := (-1)) hx hb dX7_writes_30 (by decide) ?_
        have eo := (Option.some.inj hsem).symm.symm
        refine W.endD hdr ?_
        subst eo
        exact W.iret (v := (-1)) hx hb hr (fun t ht hW => ⟨⟨_, F, rfl, ⟨rfl, hAL⟩, ⟨by rw [ht]; exact hP, hD⟩⟩, hS.F ht⟩) hS.2.2 dX7_writes_31
