def sX7_makes (A : IA) (Fc : FA) (p0 : Int32) (p1 : Int32) : Option (Int32 × IA × FA) :=
  bd (sc A 0 0) fun A1 => (sX7_in p0 1 24).bind fun x1 => if x1 = 0 then (some (((-1), A1, Fc))) else ((sX7_isRoot p1).bind fun x2 => if x2 = 0 then (some (((-1), A1, Fc))) else ((sX7_lowestNumber A1).bind fun x3 => bd ((A1 1) (Int32.toNatClampNeg 295)) fun x4 => if 5 ≤ p0 then (if 5 ≤ p0 then ((sX7_lowestFree A1 ((p0 + 7) / 8)).bind fun x5 => if x3 = 32 then (some (((-3), A1, Fc))) else (if x5 = (-9) then (some (((-3), A1, Fc))) else ((sX7_notes A1 Fc).bind fun z1 => if 5 ≤ p0 then ((sX7_makesBig z1.1 x3 p0 x5).bind fun z2 => ck (192 + p1) 296 (bd (wr z2 1 ((192 + p1).toNatClampNeg) x3) fun A2 => some (x3, A2, z1.2))) else ((sX7_makesSmall z1.1 x3 p0 x5).bind fun z3 => ck (192 + p1) 296 (bd (wr z3 1 ((192 + p1).toNatClampNeg) x3) fun A3 => some (x3, A3, z1.2)))))) else ((sX7_lowestFree A1 1).bind fun x6 => if x3 = 32 then (some (((-3), A1, Fc))) else (if x6 = (-9) then (some (((-3), A1, Fc))) else ((sX7_notes A1 Fc).bind fun z4 => if 5 ≤ p0 then ((sX7_makesBig z4.1 x3 p0 x6).bind fun z5 => ck (192 + p1) 296 (bd (wr z5 1 ((192 + p1).toNatClampNeg) x3) fun A4 => some (x3, A4, z4.2))) else ((sX7_makesSmall z4.1 x3 p0 x6).bind fun z6 => ck (192 + p1) 296 (bd (wr z6 1 ((192 + p1).toNatClampNeg) x3) fun A5 => some (x3, A5, z4.2))))))) else (if x4 = (-9) then (if 5 ≤ p0 then ((sX7_lowestFree A1 ((p0 + 7) / 8)).bind fun x7 => if x3 = 32 then (some (((-3), A1, Fc))) else (if x7 = (-9) then (some (((-3), A1, Fc))) else ((sX7_notes A1 Fc).bind fun z7 => if 5 ≤ p0 then ((sX7_makesBig z7.1 x3 p0 x7).bind fun z8 => ck (192 + p1) 296 (bd (wr z8 1 ((192 + p1).toNatClampNeg) x3) fun A6 => some (x3, A6, z7.2))) else ((sX7_makesSmall z7.1 x3 p0 x7).bind fun z9 => ck (192 + p1) 296 (bd (wr z9 1 ((192 + p1).toNatClampNeg) x3) fun A7 => some (x3, A7, z7.2)))))) else ((sX7_lowestFree A1 1).bind fun x8 => if x3 = 32 then (some (((-3), A1, Fc))) else (if x8 = (-9) then (some (((-3), A1, Fc))) else ((sX7_notes A1 Fc).bind fun z10 => if 5 ≤ p0 then ((sX7_makesBig z10.1 x3 p0 x8).bind fun z11 => ck (192 + p1) 296 (bd (wr z11 1 ((192 + p1).toNatClampNeg) x3) fun A8 => some (x3, A8, z10.2))) else ((sX7_makesSmall z10.1 x3 p0 x8).bind fun z12 => ck (192 + p1) 296 (bd (wr z12 1 ((192 + p1).toNatClampNeg) x3) fun A9 => some (x3, A9, z10.2))))))) else ((sX7_ofRegion A1 x4 1).bind fun x9 => if 8 < (x9 + p0) then (if 5 ≤ p0 then ((sX7_lowestFree A1 ((p0 + 7) / 8)).bind fun x10 => if x3 = 32 then (some (((-3), A1, Fc))) else (if x10 = (-9) then (some (((-3), A1, Fc))) else ((sX7_notes A1 Fc).bind fun z13 => if 5 ≤ p0 then ((sX7_makesBig z13.1 x3 p0 x10).bind fun z14 => ck (192 + p1) 296 (bd (wr z14 1 ((192 + p1).toNatClampNeg) x3) fun A10 => some (x3, A10, z13.2))) else ((sX7_makesSmall z13.1 x3 p0 x10).bind fun z15 => ck (192 + p1) 296 (bd (wr z15 1 ((192 + p1).toNatClampNeg) x3) fun A11 => some (x3, A11, z13.2)))))) else ((sX7_lowestFree A1 1).bind fun x11 => if x3 = 32 then (some (((-3), A1, Fc))) else (if x11 = (-9) then (some (((-3), A1, Fc))) else ((sX7_notes A1 Fc).bind fun z16 => if 5 ≤ p0 then ((sX7_makesBig z16.1 x3 p0 x11).bind fun z17 => ck (192 + p1) 296 (bd (wr z17 1 ((192 + p1).toNatClampNeg) x3) fun A12 => some (x3, A12, z16.2))) else ((sX7_makesSmall z16.1 x3 p0 x11).bind fun z18 => ck (192 + p1) 296 (bd (wr z18 1 ((192 + p1).toNatClampNeg) x3) fun A13 => some (x3, A13, z16.2))))))) else (if x3 = 32 then (some (((-3), A1, Fc))) else (if x4 = (-9) then (some (((-3), A1, Fc))) else ((sX7_notes A1 Fc).bind fun z19 => if 5 ≤ p0 then ((sX7_makesBig z19.1 x3 p0 x4).bind fun z20 => ck (192 + p1) 296 (bd (wr z20 1 ((192 + p1).toNatClampNeg) x3) fun A14 => some (x3, A14, z19.2))) else ((sX7_makesSmall z19.1 x3 p0 x4).bind fun z21 => ck (192 + p1) 296 (bd (wr z21 1 ((192 + p1).toNatClampNeg) x3) fun A15 => some (x3, A15, z19.2))))))))))
abbrev rmX7_makes : Room := { frames := 3, cells := 0, slots := 0, locals := 64 }
theorem hdX7_makes : yX7_makes.cls = RX7 ∧ yX7_makes.cls ≠ "java/lang/invoke/MethodHandle" ∧ yX7_makes.cls ≠ "java/lang/invoke/VarHandle" ∧ (parseMethodDescriptor yX7_makes.desc).map (fun d => d.parameters.length) = some 2 := by decide +kernel
set_option maxHeartbeats 4000000 in
set_option maxRecDepth 100000 in
theorem kX7_makes {l : Launch} {g : GG} {sz : Nat} {ad : Nat → Nat} {A : IA} {F : FA} {p0 p1 : Int32} {Fc : FA} (hAL : AL F Fc) {b : Int32 × IA × FA} (hsem : sX7_makes A Fc p0 p1 = some b) : MetDI l yX7_makes wsX7_makes rmX7_makes g [.ref (ad 0), .int p0, .int p1] (wM g ad A F) sz b.1 (φ := FA) (fun u => AL u b.2.2) (fun u => wM g ad b.2.1 u) := by
  refine MetD.ofW (cc := cX7_makes) (maxL := 7) (ret := (some .int)) (by decide) rfl ?_
  intro p e s m args below meth c s₁ B hml hv hdr
  obtain ⟨rfl, hsz, hP, hD0, hKK⟩ := hv
  subst hsz
  have hx := B.exec
  have hb := B.bytes
  have hr := B.returns
  have hts := atoms_spec (ws := wsX7_makes) B.pre
  have hown : ∀ d, (s.setDrawn d).vm.findClass RX7 = some m.cls := fun _ => findClass_of_methodNamed B.named
  have hlocks := B.notSynchronized
  have hK : ∀ d, va_K g.1 vwCl (KT g) (s.setDrawn d) := fun d => (hKK.drawn d).1
  have hD := hD0.self (sz := s.heap.size)
  generalize hZe : va_A (wM g ad A F) s.heap.size = Z at hD ⊢
  have hZ : ∀ q : Nat, s.heap.size ≤ q → Z q := fun q h => by rw [← hZe]; exact Or.inr h
  have hS : va_S Z s.heap s.heap [] := va_S.rf
  have hP : va_P g.1 vwCl (wM g ad A F) s.heap := hP
  have hD : va_D Z (wM g ad A F) := hD
  obtain ⟨d, hdr, hdd⟩ : ∃ d, s.drawn.sameBut d lw_cs ∧ s.drawn = d := ⟨_, hdr, rfl⟩
  rw [hdd]
  have hl := lv_entry ([.ref (ad 0), .int p0, .int p1]) (n := 7) (Nat.le_of_ble_eq_true rfl)
  rw [lg_entry_eq]
  generalize (lg_sl ([.ref (ad 0), .int p0, .int p1]) ++ List.replicate (7 - (lg_sl ([.ref (ad 0), .int p0, .int p1])).length) Slot.unset).toArray = ls at hl ⊢
  have hl : lv_has ls 7 [(0, .ref (ad 0)), (1, .int p0), (2, .int p1)] := hl
  unfold sX7_makes at hsem
  refine lv_aload_n hx hb dX7_makes_0 rfl (lv_at hl 0 rfl) ?_
  refine lv_iconst (v := 0) hx hb dX7_makes_1 (by decide) ?_
  refine va_put (D := g.1) (ci := 7) (v := .int 0) (ty := .int) (C := RX7) (T := TX7) (N := 26) hx hb (dr_words hts d) (fun w h => List.mem_cons_of_mem _ (List.mem_append_right _ h)) tyX7 tyX7_ok nmX7 (hown d) (hK d) hP hD hS 0 rfl rfl 0 (by decide) ((dr_words hts d) (.fieldLink RX7 55 "PauseRegionsModel" "thrown" "I") (List.mem_of_getElem? (i := 1) rfl)) (fun _ h9 => h9) rfl (by decide +kernel) rfl rfl (Nat.le_of_ble_eq_true rfl) dX7_makes_2 (fun H locs hP hD hS => ?_)
  obtain ⟨A1, eA1, hsem⟩ := bd_some hsem
  have hP : va_P g.1 vwCl (wM g ad A1 F) H := by rw [eA1]; exact hP
  have hD : va_D Z (wM g ad A1 F) := by rw [eA1]; exact hD
  refine lv_iload_n hx hb dX7_makes_5 rfl (lv_at hl 1 rfl) ?_
  refine lv_iconst (v := 1) hx hb dX7_makes_6 (by decide) ?_
  refine lv_bipush (v := 24) hx hb dX7_makes_7 (by decide) ?_
  obtain ⟨x1, hc1, hsem⟩ := bn_some hsem
  refine pcS (As := [.int p0, .int 1, .int 24]) (rest := []) ⟨hx, hb, hml, (hown d), (dr_words hts d)⟩ (hKK.drawn d) (va_cwS 3 (dr_words hts d) gX7_makes_X7_in rfl rfl rfl hdX7_in ⟨Nat.le_of_ble_eq_true rfl, Nat.le_of_ble_eq_true rfl⟩) (kX7_in (l := l) (g := g) hc1) rfl hl.1 rfl (Nat.le_of_ble_eq_true rfl) dX7_makes_9 ⟨Nat.zero_le _, Nat.zero_le _⟩ ?_
  refine lv_if_eq (tgt := 22) hx hb dX7_makes_12 (by decide) (fun c1 => ?_) (fun c1 => ?_)
  · rw [if_pos c1] at hsem
    refine lv_iconst (v := (-1)) hx hb dX7_makes_22 (by decide) ?_
    have eo := (Option.some.inj hsem).symm.symm
    refine W.endD hdr ?_
    subst eo
    exact W.iret (v := (-1)) hx hb hr (fun t ht hW => ⟨⟨_, F, rfl, ⟨rfl, hAL⟩, ⟨by rw [ht]; exact hP, hD⟩⟩, hS.F ht⟩) hS.2.2 dX7_makes_23
  · rw [if_neg c1] at hsem
    refine lv_iload_n hx hb dX7_makes_15 rfl (lv_at hl 2 rfl) ?_
    obtain ⟨x2, hc2, hsem⟩ := bn_some hsem
    refine pcS (As := [.int p1]) (rest := []) ⟨hx, hb, hml, (hown d), (dr_words hts d)⟩ (hKK.drawn d) (va_cwS 1 (dr_words hts d) gX7_makes_X7_isRoot rfl rfl rfl hdX7_isRoot ⟨Nat.le_of_ble_eq_true rfl, Nat.le_of_ble_eq_true rfl⟩) (kX7_isRoot (l := l) (g := g) hc2) rfl hl.1 rfl (Nat.le_of_ble_eq_true rfl) dX7_makes_16 ⟨Nat.zero_le _, Nat.zero_le _⟩ ?_
    refine lv_if_ne (tgt := 24) hx hb dX7_makes_19 (by decide) (fun c2 => ?_) (fun c2 => ?_)
    · rw [if_neg c2] at hsem
      refine lv_aload_n hx hb dX7_makes_24 rfl (lv_at hl 0 rfl) ?_
      obtain ⟨x3, hc3, hsem⟩ := bn_some hsem
      refine pcV (C := RX7) (As := []) (rest := []) ⟨hx, hb, hml, (hown d), (dr_words hts d)⟩ (hKK.drawn d) (cwV 0 (dr_words hts d) gX7_makes_X7_lowestNumber rfl rfl rfl hdX7_lowestNumber ⟨Nat.le_of_ble_eq_true rfl, Nat.le_of_ble_eq_true rfl⟩) (kX7_lowestNumber (l := l) (g := g) hP hc3) (va_recv (hK d) hP (ci := 7) (q0 := 0) rfl rfl) rfl hl.1 rfl (Nat.le_of_ble_eq_true rfl) dX7_makes_25 ⟨Nat.zero_le _, Nat.zero_le _⟩ ?_
      refine lv_istore_n (lv' := [(3, .int x3), (0, .ref (ad 0)), (1, .int p0), (2, .int p1)]) hx hb dX7_makes_28 rfl hl (by decide) rfl (fun ls hl => ?_)
      refine lv_aload_n hx hb dX7_makes_29 rfl (lv_at hl 1 rfl) ?_
      refine va_get (D := g.1) (ci := 7) (v := .ref (ad 1)) (C := RX7) (T := TX7) (N := 26) hx hb (dr_words hts d) (fun w h => List.mem_cons_of_mem _ (List.mem_append_right _ h)) (hown d) (hK d) hP 0 rfl rfl 1 (by decide) ((dr_words hts d) (.fieldLink RX7 7 "PauseRegionsModel" "s" "[I") (List.mem_of_getElem? (i := 2) rfl)) (fun _ h9 => h9) rfl dX7_makes_30 ?_
      refine lv_sipush (v := 295) hx hb dX7_makes_33 (by decide) ?_
      have h1 : vp_in 295 296 := inb_vp rfl
      refine va_iald (D := g.1) hx hb (hK d) hP 1 0 rfl rfl h1 dX7_makes_36 ?_
      obtain ⟨x4, ex4, hsem⟩ := bd_some hsem
      rw [← ex4]
      refine lv_istore (lv' := [(4, .int x4), (3, .int x3), (0, .ref (ad 0)), (1, .int p0), (2, .int p1)]) hx hb dX7_makes_37 hl (by decide) rfl (fun ls hl => ?_)
      refine lv_iload_n hx hb dX7_makes_39 rfl (lv_at hl 3 rfl) ?_
      refine lv_iconst (v := 5) hx hb dX7_makes_40 (by decide) ?_
      refine lv_icmp_ge (tgt := 69) hx hb dX7_makes_41 (by decide) (fun c3 => ?_) (fun c3 => ?_)
      · rw [if_pos c3] at hsem
        refine lv_iconst (v := 0) hx hb dX7_makes_69 (by decide) ?_
        refine lv_istore (lv' := [(5, .int 0), (4, .int x4), (3, .int x3), (0, .ref (ad 0)), (1, .int p0), (2, .int p1)]) hx hb dX7_makes_70 hl (by decide) rfl (fun ls hl => ?_)
        refine lv_iload hx hb dX7_makes_72 (lv_at hl 0 rfl) ?_
        refine lv_if_eq (tgt := 82) hx hb dX7_makes_74 (by decide) (fun cc => ?_) (fun cc => absurd cc (by decide))
        refine lv_aload_n hx hb dX7_makes_82 rfl (lv_at hl 3 rfl) ?_
        refine lv_iload_n hx hb dX7_makes_83 rfl (lv_at hl 4 rfl) ?_
        refine lv_iconst (v := 5) hx hb dX7_makes_84 (by decide) ?_
        refine lv_icmp_ge (tgt := 92) hx hb dX7_makes_85 (by decide) (fun c4 => ?_) (fun c4 => ?_)
        · rw [if_pos c4] at hsem
          refine lv_iload_n hx hb dX7_makes_92 rfl (lv_at hl 4 rfl) ?_
          refine lv_bipush (v := 7) hx hb dX7_makes_93 (by decide) ?_
          refine lv_iadd hx hb dX7_makes_95 ?_
          refine lv_bipush (v := 8) hx hb dX7_makes_96 (by decide) ?_
          refine lv_idiv hx hb dX7_makes_98 (by decide) ?_
          obtain ⟨x5, hc4, hsem⟩ := bn_some hsem
          refine pcV (C := RX7) (As := [.int ((p0 + 7) / 8)]) (rest := []) ⟨hx, hb, hml, (hown d), (dr_words hts d)⟩ (hKK.drawn d) (cwV 1 (dr_words hts d) gX7_makes_X7_lowestFree rfl rfl rfl hdX7_lowestFree ⟨Nat.le_of_ble_eq_true rfl, Nat.le_of_ble_eq_true rfl⟩) (kX7_lowestFree (l := l) (g := g) hP hc4) (va_recv (hK d) hP (ci := 7) (q0 := 0) rfl rfl) rfl hl.1 rfl (Nat.le_of_ble_eq_true rfl) dX7_makes_99 ⟨Nat.zero_le _, Nat.zero_le _⟩ ?_
          refine lv_istore (lv' := [(6, .int x5), (5, .int 0), (4, .int x4), (3, .int x3), (0, .ref (ad 0)), (1, .int p0), (2, .int p1)]) hx hb dX7_makes_102 hl (by decide) rfl (fun ls hl => ?_)
          refine lv_iload_n hx hb dX7_makes_104 rfl (lv_at hl 3 rfl) ?_
          refine lv_bipush (v := 32) hx hb dX7_makes_105 (by decide) ?_
          refine lv_icmp_eq (tgt := 117) hx hb dX7_makes_107 (by decide) (fun c5 => ?_) (fun c5 => ?_)
          · rw [if_pos c5] at hsem
            refine lv_bipush (v := (-3)) hx hb dX7_makes_117 (by decide) ?_
            have eo := (Option.some.inj hsem).symm.symm
            refine W.endD hdr ?_
            subst eo
            exact W.iret (v := (-3)) hx hb hr (fun t ht hW => ⟨⟨_, F, rfl, ⟨rfl, hAL⟩, ⟨by rw [ht]; exact hP, hD⟩⟩, hS.F ht⟩) hS.2.2 dX7_makes_119
          · rw [if_neg c5] at hsem
            refine lv_iload hx hb dX7_makes_110 (lv_at hl 0 rfl) ?_
            refine lv_bipush (v := (-9)) hx hb dX7_makes_112 (by decide) ?_
            refine lv_icmp_ne (tgt := 120) hx hb dX7_makes_114 (by decide) (fun c6 => ?_) (fun c6 => ?_)
            · rw [if_neg c6] at hsem
              refine lv_aload_n hx hb dX7_makes_120 rfl (lv_at hl 4 rfl) ?_
              obtain ⟨z1, hc5, hsem⟩ := bn_some hsem
              refine dcV (C := RX7) (As := []) (rest := []) hdr ⟨hx, hb, hml, (hown d), (dr_words hts d)⟩ (hKK.drawn d) hP hD hS hZ (cwV 0 (dr_words hts d) gX7_makes_X7_notes rfl rfl rfl hdX7_notes ⟨Nat.le_of_ble_eq_true rfl, Nat.le_of_ble_eq_true rfl⟩) (kX7_notes (l := l) (g := g) (ad := ad) (A := A1) (F := F) (Fc := Fc) hAL hc5) (va_recv (hK d) hP (ci := 7) (q0 := 0) rfl rfl) rfl hl.1 rfl (Nat.le_of_ble_eq_true rfl) dX7_makes_121 ⟨Nat.zero_le _, Nat.zero_le _⟩ (fun u1 H locs d hpo hP hD hS hdr => ?_)
              have hq1 := hpo
              have hP : va_P g.1 vwCl (wM g ad z1.1 u1) H := hP
              have hD : va_D Z (wM g ad z1.1 u1) := hD
              refine lv_iload_n hx hb dX7_makes_124 rfl (lv_at hl 5 rfl) ?_
              refine lv_iconst (v := 5) hx hb dX7_makes_125 (by decide) ?_
              refine lv_icmp_ge (tgt := 140) hx hb dX7_makes_126 (by decide) (fun c7 => ?_) (fun c7 => ?_)
              · rw [if_pos c7] at hsem
                refine lv_aload_n hx hb dX7_makes_140 rfl (lv_at hl 4 rfl) ?_
                refine lv_iload_n hx hb dX7_makes_141 rfl (lv_at hl 3 rfl) ?_
                refine lv_iload_n hx hb dX7_makes_142 rfl (lv_at hl 5 rfl) ?_
                refine lv_iload hx hb dX7_makes_143 (lv_at hl 0 rfl) ?_
                obtain ⟨z2, hc6, hsem⟩ := bn_some hsem
                refine mcV (C := RX7) (As := [.int x3, .int p0, .int x5]) (rest := []) ⟨hx, hb, hml, (hown d), (dr_words hts d)⟩ (hKK.drawn d) hP hD hS hZ (cwV 3 (dr_words hts d) gX7_makes_X7_makesBig rfl rfl rfl hdX7_makesBig ⟨Nat.le_of_ble_eq_true rfl, Nat.le_of_ble_eq_true rfl⟩) (kX7_makesBig (l := l) (g := g) (ad := ad) (A := z1.1) (F := u1) hc6) (va_recv (hK d) hP (ci := 7) (q0 := 0) rfl rfl) rfl hl.1 rfl (Nat.le_of_ble_eq_true rfl) dX7_makes_145 ⟨Nat.zero_le _, Nat.zero_le _⟩ (fun H locs hP hD hS => ?_)
                have hP : va_P g.1 vwCl (wM g ad z2 u1) H := hP
                have hD : va_D Z (wM g ad z2 u1) := hD
                refine lv_aload_n hx hb dX7_makes_148 rfl (lv_at hl 4 rfl) ?_
                refine va_get (D := g.1) (ci := 7) (v := .ref (ad 1)) (C := RX7) (T := TX7) (N := 26) hx hb (dr_words hts d) (fun w h => List.mem_cons_of_mem _ (List.mem_append_right _ h)) (hown d) (hK d) hP 0 rfl rfl 1 (by decide) ((dr_words hts d) (.fieldLink RX7 7 "PauseRegionsModel" "s" "[I") (List.mem_of_getElem? (i := 2) rfl)) (fun _ h9 => h9) rfl dX7_makes_149 ?_
                refine lv_sipush (v := 192) hx hb dX7_makes_152 (by decide) ?_
                refine lv_iload_n hx hb dX7_makes_155 rfl (lv_at hl 6 rfl) ?_
                refine lv_iadd hx hb dX7_makes_156 ?_
                refine lv_iload_n hx hb dX7_makes_157 rfl (lv_at hl 3 rfl) ?_
                obtain ⟨h2, hsem⟩ := ck_some hsem
                refine va_iast (D := g.1) hx hb (hK d) hP hD hS 1 0 rfl rfl h2 dX7_makes_158 (fun H locs hP hD hS => ?_)
                obtain ⟨A2, eA2, hsem⟩ := bd_some hsem
                have hP : va_P g.1 vwCl (wM g ad A2 u1) H := by rw [eA2]; exact hP
                have hD : va_D Z (wM g ad A2 u1) := by rw [eA2]; exact hD
                refine lv_iload_n hx hb dX7_makes_159 rfl (lv_at hl 3 rfl) ?_
                have eo := (Option.some.inj hsem).symm.symm
                refine W.endD hdr ?_
                subst eo
                exact W.iret (v := x3) hx hb hr (fun t ht hW => ⟨⟨_, u1, rfl, ⟨rfl, hq1⟩, ⟨by rw [ht]; exact hP, hD⟩⟩, hS.F ht⟩) hS.2.2 dX7_makes_160
              · rw [if_neg c7] at hsem
                refine lv_aload_n hx hb dX7_makes_129 rfl (lv_at hl 4 rfl) ?_
                refine lv_iload_n hx hb dX7_makes_130 rfl (lv_at hl 3 rfl) ?_
                refine lv_iload_n hx hb dX7_makes_131 rfl (lv_at hl 5 rfl) ?_
                refine lv_iload hx hb dX7_makes_132 (lv_at hl 0 rfl) ?_
                obtain ⟨z3, hc7, hsem⟩ := bn_some hsem
                refine mcV (C := RX7) (As := [.int x3, .int p0, .int x5]) (rest := []) ⟨hx, hb, hml, (hown d), (dr_words hts d)⟩ (hKK.drawn d) hP hD hS hZ (cwV 3 (dr_words hts d) gX7_makes_X7_makesSmall rfl rfl rfl hdX7_makesSmall ⟨Nat.le_of_ble_eq_true rfl, Nat.le_of_ble_eq_true rfl⟩) (kX7_makesSmall (l := l) (g := g) (ad := ad) (A := z1.1) (F := u1) hc7) (va_recv (hK d) hP (ci := 7) (q0 := 0) rfl rfl) rfl hl.1 rfl (Nat.le_of_ble_eq_true rfl) dX7_makes_134 ⟨Nat.zero_le _, Nat.zero_le _⟩ (fun H locs hP hD hS => ?_)
                have hP : va_P g.1 vwCl (wM g ad z3 u1) H := hP
                have hD : va_D Z (wM g ad z3 u1) := hD
                refine lv_goto (tgt := 148) hx hb dX7_makes_137 (by decide) ?_
                refine lv_aload_n hx hb dX7_makes_148 rfl (lv_at hl 4 rfl) ?_
                refine va_get (D := g.1) (ci := 7) (v := .ref (ad 1)) (C := RX7) (T := TX7) (N := 26) hx hb (dr_words hts d) (fun w h => List.mem_cons_of_mem _ (List.mem_append_right _ h)) (hown d) (hK d) hP 0 rfl rfl 1 (by decide) ((dr_words hts d) (.fieldLink RX7 7 "PauseRegionsModel" "s" "[I") (List.mem_of_getElem? (i := 2) rfl)) (fun _ h9 => h9) rfl dX7_makes_149 ?_
                refine lv_sipush (v := 192) hx hb dX7_makes_152 (by decide) ?_
                refine lv_iload_n hx hb dX7_makes_155 rfl (lv_at hl 6 rfl) ?_
                refine lv_iadd hx hb dX7_makes_156 ?_
                refine lv_iload_n hx hb dX7_makes_157 rfl (lv_at hl 3 rfl) ?_
                obtain ⟨h3, hsem⟩ := ck_some hsem
                refine va_iast (D := g.1) hx hb (hK d) hP hD hS 1 0 rfl rfl h3 dX7_makes_158 (fun H locs hP hD hS => ?_)
                obtain ⟨A3, eA3, hsem⟩ := bd_some hsem
                have hP : va_P g.1 vwCl (wM g ad A3 u1) H := by rw [eA3]; exact hP
                have hD : va_D Z (wM g ad A3 u1) := by rw [eA3]; exact hD
                refine lv_iload_n hx hb dX7_makes_159 rfl (lv_at hl 3 rfl) ?_
                have eo := (Option.some.inj hsem).symm.symm
                refine W.endD hdr ?_
                subst eo
                exact W.iret (v := x3) hx hb hr (fun t ht hW => ⟨⟨_, u1, rfl, ⟨rfl, hq1⟩, ⟨by rw [ht]; exact hP, hD⟩⟩, hS.F ht⟩) hS.2.2 dX7_makes_160
            · rw [if_pos c6] at hsem
              refine lv_bipush (v := (-3)) hx hb dX7_makes_117 (by decide) ?_
              have eo := (Option.some.inj hsem).symm.symm
              refine W.endD hdr ?_
              subst eo
              exact W.iret (v := (-3)) hx hb hr (fun t ht hW => ⟨⟨_, F, rfl, ⟨rfl, hAL⟩, ⟨by rw [ht]; exact hP, hD⟩⟩, hS.F ht⟩) hS.2.2 dX7_makes_119
        · rw [if_neg c4] at hsem
          refine lv_iconst (v := 1) hx hb dX7_makes_88 (by decide) ?_
          refine lv_goto (tgt := 99) hx hb dX7_makes_89 (by decide) ?_
          obtain ⟨x6, hc8, hsem⟩ := bn_some hsem
          refine pcV (C := RX7) (As := [.int 1]) (rest := []) ⟨hx, hb, hml, (hown d), (dr_words hts d)⟩ (hKK.drawn d) (cwV 1 (dr_words hts d) gX7_makes_X7_lowestFree rfl rfl rfl hdX7_lowestFree ⟨Nat.le_of_ble_eq_true rfl, Nat.le_of_ble_eq_true rfl⟩) (kX7_lowestFree (l := l) (g := g) hP hc8) (va_recv (hK d) hP (ci := 7) (q0 := 0) rfl rfl) rfl hl.1 rfl (Nat.le_of_ble_eq_true rfl) dX7_makes_99 ⟨Nat.zero_le _, Nat.zero_le _⟩ ?_
          refine lv_istore (lv' := [(6, .int x6), (5, .int 0), (4, .int x4), (3, .int x3), (0, .ref (ad 0)), (1, .int p0), (2, .int p1)]) hx hb dX7_makes_102 hl (by decide) rfl (fun ls hl => ?_)
          refine lv_iload_n hx hb dX7_makes_104 rfl (lv_at hl 3 rfl) ?_
          refine lv_bipush (v := 32) hx hb dX7_makes_105 (by decide) ?_
          refine lv_icmp_eq (tgt := 117) hx hb dX7_makes_107 (by decide) (fun c8 => ?_) (fun c8 => ?_)
          · rw [if_pos c8] at hsem
            refine lv_bipush (v := (-3)) hx hb dX7_makes_117 (by decide) ?_
            have eo := (Option.some.inj hsem).symm.symm
            refine W.endD hdr ?_
            subst eo
            exact W.iret (v := (-3)) hx hb hr (fun t ht hW => ⟨⟨_, F, rfl, ⟨rfl, hAL⟩, ⟨by rw [ht]; exact hP, hD⟩⟩, hS.F ht⟩) hS.2.2 dX7_makes_119
          · rw [if_neg c8] at hsem
            refine lv_iload hx hb dX7_makes_110 (lv_at hl 0 rfl) ?_
            refine lv_bipush (v := (-9)) hx hb dX7_makes_112 (by decide) ?_
            refine lv_icmp_ne (tgt := 120) hx hb dX7_makes_114 (by decide) (fun c9 => ?_) (fun c9 => ?_)
            · rw [if_neg c9] at hsem
              refine lv_aload_n hx hb dX7_makes_120 rfl (lv_at hl 4 rfl) ?_
              obtain ⟨z4, hc9, hsem⟩ := bn_some hsem
              refine dcV (C := RX7) (As := []) (rest := []) hdr ⟨hx, hb, hml, (hown d), (dr_words hts d)⟩ (hKK.drawn d) hP hD hS hZ (cwV 0 (dr_words hts d) gX7_makes_X7_notes rfl rfl rfl hdX7_notes ⟨Nat.le_of_ble_eq_true rfl, Nat.le_of_ble_eq_true rfl⟩) (kX7_notes (l := l) (g := g) (ad := ad) (A := A1) (F := F) (Fc := Fc) hAL hc9) (va_recv (hK d) hP (ci := 7) (q0 := 0) rfl rfl) rfl hl.1 rfl (Nat.le_of_ble_eq_true rfl) dX7_makes_121 ⟨Nat.zero_le _, Nat.zero_le _⟩ (fun u2 H locs d hpo hP hD hS hdr => ?_)
              have hq2 := hpo
              have hP : va_P g.1 vwCl (wM g ad z4.1 u2) H := hP
              have hD : va_D Z (wM g ad z4.1 u2) := hD
              refine lv_iload_n hx hb dX7_makes_124 rfl (lv_at hl 5 rfl) ?_
              refine lv_iconst (v := 5) hx hb dX7_makes_125 (by decide) ?_
              refine lv_icmp_ge (tgt := 140) hx hb dX7_makes_126 (by decide) (fun c10 => ?_) (fun c10 => ?_)
              · rw [if_pos c10] at hsem
                refine lv_aload_n hx hb dX7_makes_140 rfl (lv_at hl 4 rfl) ?_
                refine lv_iload_n hx hb dX7_makes_141 rfl (lv_at hl 3 rfl) ?_
                refine lv_iload_n hx hb dX7_makes_142 rfl (lv_at hl 5 rfl) ?_
                refine lv_iload hx hb dX7_makes_143 (lv_at hl 0 rfl) ?_
                obtain ⟨z5, hc10, hsem⟩ := bn_some hsem
                refine mcV (C := RX7) (As := [.int x3, .int p0, .int x6]) (rest := []) ⟨hx, hb, hml, (hown d), (dr_words hts d)⟩ (hKK.drawn d) hP hD hS hZ (cwV 3 (dr_words hts d) gX7_makes_X7_makesBig rfl rfl rfl hdX7_makesBig ⟨Nat.le_of_ble_eq_true rfl, Nat.le_of_ble_eq_true rfl⟩) (kX7_makesBig (l := l) (g := g) (ad := ad) (A := z4.1) (F := u2) hc10) (va_recv (hK d) hP (ci := 7) (q0 := 0) rfl rfl) rfl hl.1 rfl (Nat.le_of_ble_eq_true rfl) dX7_makes_145 ⟨Nat.zero_le _, Nat.zero_le _⟩ (fun H locs hP hD hS => ?_)
                have hP : va_P g.1 vwCl (wM g ad z5 u2) H := hP
                have hD : va_D Z (wM g ad z5 u2) := hD
                refine lv_aload_n hx hb dX7_makes_148 rfl (lv_at hl 4 rfl) ?_
                refine va_get (D := g.1) (ci := 7) (v := .ref (ad 1)) (C := RX7) (T := TX7) (N := 26) hx hb (dr_words hts d) (fun w h => List.mem_cons_of_mem _ (List.mem_append_right _ h)) (hown d) (hK d) hP 0 rfl rfl 1 (by decide) ((dr_words hts d) (.fieldLink RX7 7 "PauseRegionsModel" "s" "[I") (List.mem_of_getElem? (i := 2) rfl)) (fun _ h9 => h9) rfl dX7_makes_149 ?_
                refine lv_sipush (v := 192) hx hb dX7_makes_152 (by decide) ?_
                refine lv_iload_n hx hb dX7_makes_155 rfl (lv_at hl 6 rfl) ?_
                refine lv_iadd hx hb dX7_makes_156 ?_
                refine lv_iload_n hx hb dX7_makes_157 rfl (lv_at hl 3 rfl) ?_
                obtain ⟨h4, hsem⟩ := ck_some hsem
                refine va_iast (D := g.1) hx hb (hK d) hP hD hS 1 0 rfl rfl h4 dX7_makes_158 (fun H locs hP hD hS => ?_)
                obtain ⟨A4, eA4, hsem⟩ := bd_some hsem
                have hP : va_P g.1 vwCl (wM g ad A4 u2) H := by rw [eA4]; exact hP
                have hD : va_D Z (wM g ad A4 u2) := by rw [eA4]; exact hD
                refine lv_iload_n hx hb dX7_makes_159 rfl (lv_at hl 3 rfl) ?_
                have eo := (Option.some.inj hsem).symm.symm
                refine W.endD hdr ?_
                subst eo
                exact W.iret (v := x3) hx hb hr (fun t ht hW => ⟨⟨_, u2, rfl, ⟨rfl, hq2⟩, ⟨by rw [ht]; exact hP, hD⟩⟩, hS.F ht⟩) hS.2.2 dX7_makes_160
              · rw [if_neg c10] at hsem
                refine lv_aload_n hx hb dX7_makes_129 rfl (lv_at hl 4 rfl) ?_
                refine lv_iload_n hx hb dX7_makes_130 rfl (lv_at hl 3 rfl) ?_
                refine lv_iload_n hx hb dX7_makes_131 rfl (lv_at hl 5 rfl) ?_
                refine lv_iload hx hb dX7_makes_132 (lv_at hl 0 rfl) ?_
                obtain ⟨z6, hc11, hsem⟩ := bn_some hsem
                refine mcV (C := RX7) (As := [.int x3, .int p0, .int x6]) (rest := []) ⟨hx, hb, hml, (hown d), (dr_words hts d)⟩ (hKK.drawn d) hP hD hS hZ (cwV 3 (dr_words hts d) gX7_makes_X7_makesSmall rfl rfl rfl hdX7_makesSmall ⟨Nat.le_of_ble_eq_true rfl, Nat.le_of_ble_eq_true rfl⟩) (kX7_makesSmall (l := l) (g := g) (ad := ad) (A := z4.1) (F := u2) hc11) (va_recv (hK d) hP (ci := 7) (q0 := 0) rfl rfl) rfl hl.1 rfl (Nat.le_of_ble_eq_true rfl) dX7_makes_134 ⟨Nat.zero_le _, Nat.zero_le _⟩ (fun H locs hP hD hS => ?_)
                have hP : va_P g.1 vwCl (wM g ad z6 u2) H := hP
                have hD : va_D Z (wM g ad z6 u2) := hD
                refine lv_goto (tgt := 148) hx hb dX7_makes_137 (by decide) ?_
                refine lv_aload_n hx hb dX7_makes_148 rfl (lv_at hl 4 rfl) ?_
                refine va_get (D := g.1) (ci := 7) (v := .ref (ad 1)) (C := RX7) (T := TX7) (N := 26) hx hb (dr_words hts d) (fun w h => List.mem_cons_of_mem _ (List.mem_append_right _ h)) (hown d) (hK d) hP 0 rfl rfl 1 (by decide) ((dr_words hts d) (.fieldLink RX7 7 "PauseRegionsModel" "s" "[I") (List.mem_of_getElem? (i := 2) rfl)) (fun _ h9 => h9) rfl dX7_makes_149 ?_
                refine lv_sipush (v := 192) hx hb dX7_makes_152 (by decide) ?_
                refine lv_iload_n hx hb dX7_makes_155 rfl (lv_at hl 6 rfl) ?_
                refine lv_iadd hx hb dX7_makes_156 ?_
                refine lv_iload_n hx hb dX7_makes_157 rfl (lv_at hl 3 rfl) ?_
                obtain ⟨h5, hsem⟩ := ck_some hsem
                refine va_iast (D := g.1) hx hb (hK d) hP hD hS 1 0 rfl rfl h5 dX7_makes_158 (fun H locs hP hD hS => ?_)
                obtain ⟨A5, eA5, hsem⟩ := bd_some hsem
                have hP : va_P g.1 vwCl (wM g ad A5 u2) H := by rw [eA5]; exact hP
                have hD : va_D Z (wM g ad A5 u2) := by rw [eA5]; exact hD
                refine lv_iload_n hx hb dX7_makes_159 rfl (lv_at hl 3 rfl) ?_
                have eo := (Option.some.inj hsem).symm.symm
                refine W.endD hdr ?_
                subst eo
                exact W.iret (v := x3) hx hb hr (fun t ht hW => ⟨⟨_, u2, rfl, ⟨rfl, hq2⟩, ⟨by rw [ht]; exact hP, hD⟩⟩, hS.F ht⟩) hS.2.2 dX7_makes_160
            · rw [if_pos c9] at hsem
              refine lv_bipush (v := (-3)) hx hb dX7_makes_117 (by decide) ?_
              have eo := (Option.some.inj hsem).symm.symm
              refine W.endD hdr ?_
              subst eo
              exact W.iret (v := (-3)) hx hb hr (fun t ht hW => ⟨⟨_, F, rfl, ⟨rfl, hAL⟩, ⟨by rw [ht]; exact hP, hD⟩⟩, hS.F ht⟩) hS.2.2 dX7_makes_119
      · rw [if_neg c3] at hsem
        refine lv_iload hx hb dX7_makes_44 (lv_at hl 0 rfl) ?_
        refine lv_bipush (v := (-9)) hx hb dX7_makes_46 (by decide) ?_
        refine lv_icmp_eq (tgt := 69) hx hb dX7_makes_48 (by decide) (fun c11 => ?_) (fun c11 => ?_)
        · rw [if_pos c11] at hsem
          refine lv_iconst (v := 0) hx hb dX7_makes_69 (by decide) ?_
          refine lv_istore (lv' := [(5, .int 0), (4, .int x4), (3, .int x3), (0, .ref (ad 0)), (1, .int p0), (2, .int p1)]) hx hb dX7_makes_70 hl (by decide) rfl (fun ls hl => ?_)
          refine lv_iload hx hb dX7_makes_72 (lv_at hl 0 rfl) ?_
          refine lv_if_eq (tgt := 82) hx hb dX7_makes_74 (by decide) (fun cc => ?_) (fun cc => absurd cc (by decide))
          refine lv_aload_n hx hb dX7_makes_82 rfl (lv_at hl 3 rfl) ?_
          refine lv_iload_n hx hb dX7_makes_83 rfl (lv_at hl 4 rfl) ?_
          refine lv_iconst (v := 5) hx hb dX7_makes_84 (by decide) ?_
          refine lv_icmp_ge (tgt := 92) hx hb dX7_makes_85 (by decide) (fun c12 => ?_) (fun c12 => ?_)
          · rw [if_pos c12] at hsem
            refine lv_iload_n hx hb dX7_makes_92 rfl (lv_at hl 4 rfl) ?_
            refine lv_bipush (v := 7) hx hb dX7_makes_93 (by decide) ?_
            refine lv_iadd hx hb dX7_makes_95 ?_
            refine lv_bipush (v := 8) hx hb dX7_makes_96 (by decide) ?_
            refine lv_idiv hx hb dX7_makes_98 (by decide) ?_
            obtain ⟨x7, hc12, hsem⟩ := bn_some hsem
            refine pcV (C := RX7) (As := [.int ((p0 + 7) / 8)]) (rest := []) ⟨hx, hb, hml, (hown d), (dr_words hts d)⟩ (hKK.drawn d) (cwV 1 (dr_words hts d) gX7_makes_X7_lowestFree rfl rfl rfl hdX7_lowestFree ⟨Nat.le_of_ble_eq_true rfl, Nat.le_of_ble_eq_true rfl⟩) (kX7_lowestFree (l := l) (g := g) hP hc12) (va_recv (hK d) hP (ci := 7) (q0 := 0) rfl rfl) rfl hl.1 rfl (Nat.le_of_ble_eq_true rfl) dX7_makes_99 ⟨Nat.zero_le _, Nat.zero_le _⟩ ?_
            refine lv_istore (lv' := [(6, .int x7), (5, .int 0), (4, .int x4), (3, .int x3), (0, .ref (ad 0)), (1, .int p0), (2, .int p1)]) hx hb dX7_makes_102 hl (by decide) rfl (fun ls hl => ?_)
            refine lv_iload_n hx hb dX7_makes_104 rfl (lv_at hl 3 rfl) ?_
            refine lv_bipush (v := 32) hx hb dX7_makes_105 (by decide) ?_
            refine lv_icmp_eq (tgt := 117) hx hb dX7_makes_107 (by decide) (fun c13 => ?_) (fun c13 => ?_)
            · rw [if_pos c13] at hsem
              refine lv_bipush (v := (-3)) hx hb dX7_makes_117 (by decide) ?_
              have eo := (Option.some.inj hsem).symm.symm
              refine W.endD hdr ?_
              subst eo
              exact W.iret (v := (-3)) hx hb hr (fun t ht hW => ⟨⟨_, F, rfl, ⟨rfl, hAL⟩, ⟨by rw [ht]; exact hP, hD⟩⟩, hS.F ht⟩) hS.2.2 dX7_makes_119
            · rw [if_neg c13] at hsem
              refine lv_iload hx hb dX7_makes_110 (lv_at hl 0 rfl) ?_
              refine lv_bipush (v := (-9)) hx hb dX7_makes_112 (by decide) ?_
              refine lv_icmp_ne (tgt := 120) hx hb dX7_makes_114 (by decide) (fun c14 => ?_) (fun c14 => ?_)
              · rw [if_neg c14] at hsem
                refine lv_aload_n hx hb dX7_makes_120 rfl (lv_at hl 4 rfl) ?_
                obtain ⟨z7, hc13, hsem⟩ := bn_some hsem
                refine dcV (C := RX7) (As := []) (rest := []) hdr ⟨hx, hb, hml, (hown d), (dr_words hts d)⟩ (hKK.drawn d) hP hD hS hZ (cwV 0 (dr_words hts d) gX7_makes_X7_notes rfl rfl rfl hdX7_notes ⟨Nat.le_of_ble_eq_true rfl, Nat.le_of_ble_eq_true rfl⟩) (kX7_notes (l := l) (g := g) (ad := ad) (A := A1) (F := F) (Fc := Fc) hAL hc13) (va_recv (hK d) hP (ci := 7) (q0 := 0) rfl rfl) rfl hl.1 rfl (Nat.le_of_ble_eq_true rfl) dX7_makes_121 ⟨Nat.zero_le _, Nat.zero_le _⟩ (fun u3 H locs d hpo hP hD hS hdr => ?_)
                have hq3 := hpo
                have hP : va_P g.1 vwCl (wM g ad z7.1 u3) H := hP
                have hD : va_D Z (wM g ad z7.1 u3) := hD
                refine lv_iload_n hx hb dX7_makes_124 rfl (lv_at hl 5 rfl) ?_
                refine lv_iconst (v := 5) hx hb dX7_makes_125 (by decide) ?_
                refine lv_icmp_ge (tgt := 140) hx hb dX7_makes_126 (by decide) (fun c15 => ?_) (fun c15 => ?_)
                · rw [if_pos c15] at hsem
                  refine lv_aload_n hx hb dX7_makes_140 rfl (lv_at hl 4 rfl) ?_
                  refine lv_iload_n hx hb dX7_makes_141 rfl (lv_at hl 3 rfl) ?_
                  refine lv_iload_n hx hb dX7_makes_142 rfl (lv_at hl 5 rfl) ?_
                  refine lv_iload hx hb dX7_makes_143 (lv_at hl 0 rfl) ?_
                  obtain ⟨z8, hc14, hsem⟩ := bn_some hsem
                  refine mcV (C := RX7) (As := [.int x3, .int p0, .int x7]) (rest := []) ⟨hx, hb, hml, (hown d), (dr_words hts d)⟩ (hKK.drawn d) hP hD hS hZ (cwV 3 (dr_words hts d) gX7_makes_X7_makesBig rfl rfl rfl hdX7_makesBig ⟨Nat.le_of_ble_eq_true rfl, Nat.le_of_ble_eq_true rfl⟩) (kX7_makesBig (l := l) (g := g) (ad := ad) (A := z7.1) (F := u3) hc14) (va_recv (hK d) hP (ci := 7) (q0 := 0) rfl rfl) rfl hl.1 rfl (Nat.le_of_ble_eq_true rfl) dX7_makes_145 ⟨Nat.zero_le _, Nat.zero_le _⟩ (fun H locs hP hD hS => ?_)
                  have hP : va_P g.1 vwCl (wM g ad z8 u3) H := hP
                  have hD : va_D Z (wM g ad z8 u3) := hD
                  refine lv_aload_n hx hb dX7_makes_148 rfl (lv_at hl 4 rfl) ?_
                  refine va_get (D := g.1) (ci := 7) (v := .ref (ad 1)) (C := RX7) (T := TX7) (N := 26) hx hb (dr_words hts d) (fun w h => List.mem_cons_of_mem _ (List.mem_append_right _ h)) (hown d) (hK d) hP 0 rfl rfl 1 (by decide) ((dr_words hts d) (.fieldLink RX7 7 "PauseRegionsModel" "s" "[I") (List.mem_of_getElem? (i := 2) rfl)) (fun _ h9 => h9) rfl dX7_makes_149 ?_
                  refine lv_sipush (v := 192) hx hb dX7_makes_152 (by decide) ?_
                  refine lv_iload_n hx hb dX7_makes_155 rfl (lv_at hl 6 rfl) ?_
                  refine lv_iadd hx hb dX7_makes_156 ?_
                  refine lv_iload_n hx hb dX7_makes_157 rfl (lv_at hl 3 rfl) ?_
                  obtain ⟨h6, hsem⟩ := ck_some hsem
                  refine va_iast (D := g.1) hx hb (hK d) hP hD hS 1 0 rfl rfl h6 dX7_makes_158 (fun H locs hP hD hS => ?_)
                  obtain ⟨A6, eA6, hsem⟩ := bd_some hsem
                  have hP : va_P g.1 vwCl (wM g ad A6 u3) H := by rw [eA6]; exact hP
                  have hD : va_D Z (wM g ad A6 u3) := by rw [eA6]; exact hD
                  refine lv_iload_n hx hb dX7_makes_159 rfl (lv_at hl 3 rfl) ?_
                  have eo := (Option.some.inj hsem).symm.symm
                  refine W.endD hdr ?_
                  subst eo
                  exact W.iret (v := x3) hx hb hr (fun t ht hW => ⟨⟨_, u3, rfl, ⟨rfl, hq3⟩, ⟨by rw [ht]; exact hP, hD⟩⟩, hS.F ht⟩) hS.2.2 dX7_makes_160
                · rw [if_neg c15] at hsem
                  refine lv_aload_n hx hb dX7_makes_129 rfl (lv_at hl 4 rfl) ?_
                  refine lv_iload_n hx hb dX7_makes_130 rfl (lv_at hl 3 rfl) ?_
                  refine lv_iload_n hx hb dX7_makes_131 rfl (lv_at hl 5 rfl) ?_
                  refine lv_iload hx hb dX7_makes_132 (lv_at hl 0 rfl) ?_
                  obtain ⟨z9, hc15, hsem⟩ := bn_some hsem
                  refine mcV (C := RX7) (As := [.int x3, .int p0, .int x7]) (rest := []) ⟨hx, hb, hml, (hown d), (dr_words hts d)⟩ (hKK.drawn d) hP hD hS hZ (cwV 3 (dr_words hts d) gX7_makes_X7_makesSmall rfl rfl rfl hdX7_makesSmall ⟨Nat.le_of_ble_eq_true rfl, Nat.le_of_ble_eq_true rfl⟩) (kX7_makesSmall (l := l) (g := g) (ad := ad) (A := z7.1) (F := u3) hc15) (va_recv (hK d) hP (ci := 7) (q0 := 0) rfl rfl) rfl hl.1 rfl (Nat.le_of_ble_eq_true rfl) dX7_makes_134 ⟨Nat.zero_le _, Nat.zero_le _⟩ (fun H locs hP hD hS => ?_)
                  have hP : va_P g.1 vwCl (wM g ad z9 u3) H := hP
                  have hD : va_D Z (wM g ad z9 u3) := hD
                  refine lv_goto (tgt := 148) hx hb dX7_makes_137 (by decide) ?_
                  refine lv_aload_n hx hb dX7_makes_148 rfl (lv_at hl 4 rfl) ?_
                  refine va_get (D := g.1) (ci := 7) (v := .ref (ad 1)) (C := RX7) (T := TX7) (N := 26) hx hb (dr_words hts d) (fun w h => List.mem_cons_of_mem _ (List.mem_append_right _ h)) (hown d) (hK d) hP 0 rfl rfl 1 (by decide) ((dr_words hts d) (.fieldLink RX7 7 "PauseRegionsModel" "s" "[I") (List.mem_of_getElem? (i := 2) rfl)) (fun _ h9 => h9) rfl dX7_makes_149 ?_
                  refine lv_sipush (v := 192) hx hb dX7_makes_152 (by decide) ?_
                  refine lv_iload_n hx hb dX7_makes_155 rfl (lv_at hl 6 rfl) ?_
                  refine lv_iadd hx hb dX7_makes_156 ?_
                  refine lv_iload_n hx hb dX7_makes_157 rfl (lv_at hl 3 rfl) ?_
                  obtain ⟨h7, hsem⟩ := ck_some hsem
                  refine va_iast (D := g.1) hx hb (hK d) hP hD hS 1 0 rfl rfl h7 dX7_makes_158 (fun H locs hP hD hS => ?_)
                  obtain ⟨A7, eA7, hsem⟩ := bd_some hsem
                  have hP : va_P g.1 vwCl (wM g ad A7 u3) H := by rw [eA7]; exact hP
                  have hD : va_D Z (wM g ad A7 u3) := by rw [eA7]; exact hD
                  refine lv_iload_n hx hb dX7_makes_159 rfl (lv_at hl 3 rfl) ?_
                  have eo := (Option.some.inj hsem).symm.symm
                  refine W.endD hdr ?_
                  subst eo
                  exact W.iret (v := x3) hx hb hr (fun t ht hW => ⟨⟨_, u3, rfl, ⟨rfl, hq3⟩, ⟨by rw [ht]; exact hP, hD⟩⟩, hS.F ht⟩) hS.2.2 dX7_makes_160
              · rw [if_pos c14] at hsem
                refine lv_bipush (v := (-3)) hx hb dX7_makes_117 (by decide) ?_
                have eo := (Option.some.inj hsem).symm.symm
                refine W.endD hdr ?_
                subst eo
                exact W.iret (v := (-3)) hx hb hr (fun t ht hW => ⟨⟨_, F, rfl, ⟨rfl, hAL⟩, ⟨by rw [ht]; exact hP, hD⟩⟩, hS.F ht⟩) hS.2.2 dX7_makes_119
          · rw [if_neg c12] at hsem
            refine lv_iconst (v := 1) hx hb dX7_makes_88 (by decide) ?_
            refine lv_goto (tgt := 99) hx hb dX7_makes_89 (by decide) ?_
            obtain ⟨x8, hc16, hsem⟩ := bn_some hsem
            refine pcV (C := RX7) (As := [.int 1]) (rest := []) ⟨hx, hb, hml, (hown d), (dr_words hts d)⟩ (hKK.drawn d) (cwV 1 (dr_words hts d) gX7_makes_X7_lowestFree rfl rfl rfl hdX7_lowestFree ⟨Nat.le_of_ble_eq_true rfl, Nat.le_of_ble_eq_true rfl⟩) (kX7_lowestFree (l := l) (g := g) hP hc16) (va_recv (hK d) hP (ci := 7) (q0 := 0) rfl rfl) rfl hl.1 rfl (Nat.le_of_ble_eq_true rfl) dX7_makes_99 ⟨Nat.zero_le _, Nat.zero_le _⟩ ?_
            refine lv_istore (lv' := [(6, .int x8), (5, .int 0), (4, .int x4), (3, .int x3), (0, .ref (ad 0)), (1, .int p0), (2, .int p1)]) hx hb dX7_makes_102 hl (by decide) rfl (fun ls hl => ?_)
            refine lv_iload_n hx hb dX7_makes_104 rfl (lv_at hl 3 rfl) ?_
            refine lv_bipush (v := 32) hx hb dX7_makes_105 (by decide) ?_
            refine lv_icmp_eq (tgt := 117) hx hb dX7_makes_107 (by decide) (fun c16 => ?_) (fun c16 => ?_)
            · rw [if_pos c16] at hsem
              refine lv_bipush (v := (-3)) hx hb dX7_makes_117 (by decide) ?_
              have eo := (Option.some.inj hsem).symm.symm
              refine W.endD hdr ?_
              subst eo
              exact W.iret (v := (-3)) hx hb hr (fun t ht hW => ⟨⟨_, F, rfl, ⟨rfl, hAL⟩, ⟨by rw [ht]; exact hP, hD⟩⟩, hS.F ht⟩) hS.2.2 dX7_makes_119
            · rw [if_neg c16] at hsem
              refine lv_iload hx hb dX7_makes_110 (lv_at hl 0 rfl) ?_
              refine lv_bipush (v := (-9)) hx hb dX7_makes_112 (by decide) ?_
              refine lv_icmp_ne (tgt := 120) hx hb dX7_makes_114 (by decide) (fun c17 => ?_) (fun c17 => ?_)
              · rw [if_neg c17] at hsem
                refine lv_aload_n hx hb dX7_makes_120 rfl (lv_at hl 4 rfl) ?_
                obtain ⟨z10, hc17, hsem⟩ := bn_some hsem
                refine dcV (C := RX7) (As := []) (rest := []) hdr ⟨hx, hb, hml, (hown d), (dr_words hts d)⟩ (hKK.drawn d) hP hD hS hZ (cwV 0 (dr_words hts d) gX7_makes_X7_notes rfl rfl rfl hdX7_notes ⟨Nat.le_of_ble_eq_true rfl, Nat.le_of_ble_eq_true rfl⟩) (kX7_notes (l := l) (g := g) (ad := ad) (A := A1) (F := F) (Fc := Fc) hAL hc17) (va_recv (hK d) hP (ci := 7) (q0 := 0) rfl rfl) rfl hl.1 rfl (Nat.le_of_ble_eq_true rfl) dX7_makes_121 ⟨Nat.zero_le _, Nat.zero_le _⟩ (fun u4 H locs d hpo hP hD hS hdr => ?_)
                have hq4 := hpo
                have hP : va_P g.1 vwCl (wM g ad z10.1 u4) H := hP
                have hD : va_D Z (wM g ad z10.1 u4) := hD
                refine lv_iload_n hx hb dX7_makes_124 rfl (lv_at hl 5 rfl) ?_
                refine lv_iconst (v := 5) hx hb dX7_makes_125 (by decide) ?_
                refine lv_icmp_ge (tgt := 140) hx hb dX7_makes_126 (by decide) (fun c18 => ?_) (fun c18 => ?_)
                · rw [if_pos c18] at hsem
                  refine lv_aload_n hx hb dX7_makes_140 rfl (lv_at hl 4 rfl) ?_
                  refine lv_iload_n hx hb dX7_makes_141 rfl (lv_at hl 3 rfl) ?_
                  refine lv_iload_n hx hb dX7_makes_142 rfl (lv_at hl 5 rfl) ?_
                  refine lv_iload hx hb dX7_makes_143 (lv_at hl 0 rfl) ?_
                  obtain ⟨z11, hc18, hsem⟩ := bn_some hsem
                  refine mcV (C := RX7) (As := [.int x3, .int p0, .int x8]) (rest := []) ⟨hx, hb, hml, (hown d), (dr_words hts d)⟩ (hKK.drawn d) hP hD hS hZ (cwV 3 (dr_words hts d) gX7_makes_X7_makesBig rfl rfl rfl hdX7_makesBig ⟨Nat.le_of_ble_eq_true rfl, Nat.le_of_ble_eq_true rfl⟩) (kX7_makesBig (l := l) (g := g) (ad := ad) (A := z10.1) (F := u4) hc18) (va_recv (hK d) hP (ci := 7) (q0 := 0) rfl rfl) rfl hl.1 rfl (Nat.le_of_ble_eq_true rfl) dX7_makes_145 ⟨Nat.zero_le _, Nat.zero_le _⟩ (fun H locs hP hD hS => ?_)
                  have hP : va_P g.1 vwCl (wM g ad z11 u4) H := hP
                  have hD : va_D Z (wM g ad z11 u4) := hD
                  refine lv_aload_n hx hb dX7_makes_148 rfl (lv_at hl 4 rfl) ?_
                  refine va_get (D := g.1) (ci := 7) (v := .ref (ad 1)) (C := RX7) (T := TX7) (N := 26) hx hb (dr_words hts d) (fun w h => List.mem_cons_of_mem _ (List.mem_append_right _ h)) (hown d) (hK d) hP 0 rfl rfl 1 (by decide) ((dr_words hts d) (.fieldLink RX7 7 "PauseRegionsModel" "s" "[I") (List.mem_of_getElem? (i := 2) rfl)) (fun _ h9 => h9) rfl dX7_makes_149 ?_
                  refine lv_sipush (v := 192) hx hb dX7_makes_152 (by decide) ?_
                  refine lv_iload_n hx hb dX7_makes_155 rfl (lv_at hl 6 rfl) ?_
                  refine lv_iadd hx hb dX7_makes_156 ?_
                  refine lv_iload_n hx hb dX7_makes_157 rfl (lv_at hl 3 rfl) ?_
                  obtain ⟨h8, hsem⟩ := ck_some hsem
                  refine va_iast (D := g.1) hx hb (hK d) hP hD hS 1 0 rfl rfl h8 dX7_makes_158 (fun H locs hP hD hS => ?_)
                  obtain ⟨A8, eA8, hsem⟩ := bd_some hsem
                  have hP : va_P g.1 vwCl (wM g ad A8 u4) H := by rw [eA8]; exact hP
                  have hD : va_D Z (wM g ad A8 u4) := by rw [eA8]; exact hD
                  refine lv_iload_n hx hb dX7_makes_159 rfl (lv_at hl 3 rfl) ?_
                  have eo := (Option.some.inj hsem).symm.symm
                  refine W.endD hdr ?_
                  subst eo
                  exact W.iret (v := x3) hx hb hr (fun t ht hW => ⟨⟨_, u4, rfl, ⟨rfl, hq4⟩, ⟨by rw [ht]; exact hP, hD⟩⟩, hS.F ht⟩) hS.2.2 dX7_makes_160
                · rw [if_neg c18] at hsem
                  refine lv_aload_n hx hb dX7_makes_129 rfl (lv_at hl 4 rfl) ?_
                  refine lv_iload_n hx hb dX7_makes_130 rfl (lv_at hl 3 rfl) ?_
                  refine lv_iload_n hx hb dX7_makes_131 rfl (lv_at hl 5 rfl) ?_
                  refine lv_iload hx hb dX7_makes_132 (lv_at hl 0 rfl) ?_
                  obtain ⟨z12, hc19, hsem⟩ := bn_some hsem
                  refine mcV (C := RX7) (As := [.int x3, .int p0, .int x8]) (rest := []) ⟨hx, hb, hml, (hown d), (dr_words hts d)⟩ (hKK.drawn d) hP hD hS hZ (cwV 3 (dr_words hts d) gX7_makes_X7_makesSmall rfl rfl rfl hdX7_makesSmall ⟨Nat.le_of_ble_eq_true rfl, Nat.le_of_ble_eq_true rfl⟩) (kX7_makesSmall (l := l) (g := g) (ad := ad) (A := z10.1) (F := u4) hc19) (va_recv (hK d) hP (ci := 7) (q0 := 0) rfl rfl) rfl hl.1 rfl (Nat.le_of_ble_eq_true rfl) dX7_makes_134 ⟨Nat.zero_le _, Nat.zero_le _⟩ (fun H locs hP hD hS => ?_)
                  have hP : va_P g.1 vwCl (wM g ad z12 u4) H := hP
                  have hD : va_D Z (wM g ad z12 u4) := hD
                  refine lv_goto (tgt := 148) hx hb dX7_makes_137 (by decide) ?_
                  refine lv_aload_n hx hb dX7_makes_148 rfl (lv_at hl 4 rfl) ?_
                  refine va_get (D := g.1) (ci := 7) (v := .ref (ad 1)) (C := RX7) (T := TX7) (N := 26) hx hb (dr_words hts d) (fun w h => List.mem_cons_of_mem _ (List.mem_append_right _ h)) (hown d) (hK d) hP 0 rfl rfl 1 (by decide) ((dr_words hts d) (.fieldLink RX7 7 "PauseRegionsModel" "s" "[I") (List.mem_of_getElem? (i := 2) rfl)) (fun _ h9 => h9) rfl dX7_makes_149 ?_
                  refine lv_sipush (v := 192) hx hb dX7_makes_152 (by decide) ?_
                  refine lv_iload_n hx hb dX7_makes_155 rfl (lv_at hl 6 rfl) ?_
                  refine lv_iadd hx hb dX7_makes_156 ?_
                  refine lv_iload_n hx hb dX7_makes_157 rfl (lv_at hl 3 rfl) ?_
                  obtain ⟨h9, hsem⟩ := ck_some hsem
                  refine va_iast (D := g.1) hx hb (hK d) hP hD hS 1 0 rfl rfl h9 dX7_makes_158 (fun H locs hP hD hS => ?_)
                  obtain ⟨A9, eA9, hsem⟩ := bd_some hsem
                  have hP : va_P g.1 vwCl (wM g ad A9 u4) H := by rw [eA9]; exact hP
                  have hD : va_D Z (wM g ad A9 u4) := by rw [eA9]; exact hD
                  refine lv_iload_n hx hb dX7_makes_159 rfl (lv_at hl 3 rfl) ?_
                  have eo := (Option.some.inj hsem).symm.symm
                  refine W.endD hdr ?_
                  subst eo
                  exact W.iret (v := x3) hx hb hr (fun t ht hW => ⟨⟨_, u4, rfl, ⟨rfl, hq4⟩, ⟨by rw [ht]; exact hP, hD⟩⟩, hS.F ht⟩) hS.2.2 dX7_makes_160
              · rw [if_pos c17] at hsem
                refine lv_bipush (v := (-3)) hx hb dX7_makes_117 (by decide) ?_
                have eo := (Option.some.inj hsem).symm.symm
                refine W.endD hdr ?_
                subst eo
                exact W.iret (v := (-3)) hx hb hr (fun t ht hW => ⟨⟨_, F, rfl, ⟨rfl, hAL⟩, ⟨by rw [ht]; exact hP, hD⟩⟩, hS.F ht⟩) hS.2.2 dX7_makes_119
        · rw [if_neg c11] at hsem
          refine lv_aload_n hx hb dX7_makes_51 rfl (lv_at hl 2 rfl) ?_
          refine lv_iload hx hb dX7_makes_52 (lv_at hl 0 rfl) ?_
          refine lv_iconst (v := 1) hx hb dX7_makes_54 (by decide) ?_
          obtain ⟨x9, hc20, hsem⟩ := bn_some hsem
          refine pcV (C := RX7) (As := [.int x4, .int 1]) (rest := []) ⟨hx, hb, hml, (hown d), (dr_words hts d)⟩ (hKK.drawn d) (cwV 2 (dr_words hts d) gX7_makes_X7_ofRegion rfl rfl rfl hdX7_ofRegion ⟨Nat.le_of_ble_eq_true rfl, Nat.le_of_ble_eq_true rfl⟩) (kX7_ofRegion (l := l) (g := g) hP hc20) (va_recv (hK d) hP (ci := 7) (q0 := 0) rfl rfl) rfl hl.1 rfl (Nat.le_of_ble_eq_true rfl) dX7_makes_55 ⟨Nat.zero_le _, Nat.zero_le _⟩ ?_
          refine lv_iload_n hx hb dX7_makes_58 rfl (lv_at hl 3 rfl) ?_
          refine lv_iadd hx hb dX7_makes_59 ?_
          refine lv_bipush (v := 8) hx hb dX7_makes_60 (by decide) ?_
          refine lv_icmp_gt (tgt := 69) hx hb dX7_makes_62 (by decide) (fun c19 => ?_) (fun c19 => ?_)
          · rw [if_pos c19] at hsem
            refine lv_iconst (v := 0) hx hb dX7_makes_69 (by decide) ?_
            refine lv_istore (lv' := [(5, .int 0), (4, .int x4), (3, .int x3), (0, .ref (ad 0)), (1, .int p0), (2, .int p1)]) hx hb dX7_makes_70 hl (by decide) rfl (fun ls hl => ?_)
            refine lv_iload hx hb dX7_makes_72 (lv_at hl 0 rfl) ?_
            refine lv_if_eq (tgt := 82) hx hb dX7_makes_74 (by decide) (fun cc => ?_) (fun cc => absurd cc (by decide))
            refine lv_aload_n hx hb dX7_makes_82 rfl (lv_at hl 3 rfl) ?_
            refine lv_iload_n hx hb dX7_makes_83 rfl (lv_at hl 4 rfl) ?_
            refine lv_iconst (v := 5) hx hb dX7_makes_84 (by decide) ?_
            refine lv_icmp_ge (tgt := 92) hx hb dX7_makes_85 (by decide) (fun c20 => ?_) (fun c20 => ?_)
            · rw [if_pos c20] at hsem
              refine lv_iload_n hx hb dX7_makes_92 rfl (lv_at hl 4 rfl) ?_
              refine lv_bipush (v := 7) hx hb dX7_makes_93 (by decide) ?_
              refine lv_iadd hx hb dX7_makes_95 ?_
              refine lv_bipush (v := 8) hx hb dX7_makes_96 (by decide) ?_
              refine lv_idiv hx hb dX7_makes_98 (by decide) ?_
              obtain ⟨x10, hc21, hsem⟩ := bn_some hsem
              refine pcV (C := RX7) (As := [.int ((p0 + 7) / 8)]) (rest := []) ⟨hx, hb, hml, (hown d), (dr_words hts d)⟩ (hKK.drawn d) (cwV 1 (dr_words hts d) gX7_makes_X7_lowestFree rfl rfl rfl hdX7_lowestFree ⟨Nat.le_of_ble_eq_true rfl, Nat.le_of_ble_eq_true rfl⟩) (kX7_lowestFree (l := l) (g := g) hP hc21) (va_recv (hK d) hP (ci := 7) (q0 := 0) rfl rfl) rfl hl.1 rfl (Nat.le_of_ble_eq_true rfl) dX7_makes_99 ⟨Nat.zero_le _, Nat.zero_le _⟩ ?_
              refine lv_istore (lv' := [(6, .int x10), (5, .int 0), (4, .int x4), (3, .int x3), (0, .ref (ad 0)), (1, .int p0), (2, .int p1)]) hx hb dX7_makes_102 hl (by decide) rfl (fun ls hl => ?_)
              refine lv_iload_n hx hb dX7_makes_104 rfl (lv_at hl 3 rfl) ?_
              refine lv_bipush (v := 32) hx hb dX7_makes_105 (by decide) ?_
              refine lv_icmp_eq (tgt := 117) hx hb dX7_makes_107 (by decide) (fun c21 => ?_) (fun c21 => ?_)
              · rw [if_pos c21] at hsem
                refine lv_bipush (v := (-3)) hx hb dX7_makes_117 (by decide) ?_
                have eo := (Option.some.inj hsem).symm.symm
                refine W.endD hdr ?_
                subst eo
                exact W.iret (v := (-3)) hx hb hr (fun t ht hW => ⟨⟨_, F, rfl, ⟨rfl, hAL⟩, ⟨by rw [ht]; exact hP, hD⟩⟩, hS.F ht⟩) hS.2.2 dX7_makes_119
              · rw [if_neg c21] at hsem
                refine lv_iload hx hb dX7_makes_110 (lv_at hl 0 rfl) ?_
                refine lv_bipush (v := (-9)) hx hb dX7_makes_112 (by decide) ?_
                refine lv_icmp_ne (tgt := 120) hx hb dX7_makes_114 (by decide) (fun c22 => ?_) (fun c22 => ?_)
                · rw [if_neg c22] at hsem
                  refine lv_aload_n hx hb dX7_makes_120 rfl (lv_at hl 4 rfl) ?_
                  obtain ⟨z13, hc22, hsem⟩ := bn_some hsem
                  refine dcV (C := RX7) (As := []) (rest := []) hdr ⟨hx, hb, hml, (hown d), (dr_words hts d)⟩ (hKK.drawn d) hP hD hS hZ (cwV 0 (dr_words hts d) gX7_makes_X7_notes rfl rfl rfl hdX7_notes ⟨Nat.le_of_ble_eq_true rfl, Nat.le_of_ble_eq_true rfl⟩) (kX7_notes (l := l) (g := g) (ad := ad) (A := A1) (F := F) (Fc := Fc) hAL hc22) (va_recv (hK d) hP (ci := 7) (q0 := 0) rfl rfl) rfl hl.1 rfl (Nat.le_of_ble_eq_true rfl) dX7_makes_121 ⟨Nat.zero_le _, Nat.zero_le _⟩ (fun u5 H locs d hpo hP hD hS hdr => ?_)
                  have hq5 := hpo
                  have hP : va_P g.1 vwCl (wM g ad z13.1 u5) H := hP
                  have hD : va_D Z (wM g ad z13.1 u5) := hD
                  refine lv_iload_n hx hb dX7_makes_124 rfl (lv_at hl 5 rfl) ?_
                  refine lv_iconst (v := 5) hx hb dX7_makes_125 (by decide) ?_
                  refine lv_icmp_ge (tgt := 140) hx hb dX7_makes_126 (by decide) (fun c23 => ?_) (fun c23 => ?_)
                  · rw [if_pos c23] at hsem
                    refine lv_aload_n hx hb dX7_makes_140 rfl (lv_at hl 4 rfl) ?_
                    refine lv_iload_n hx hb dX7_makes_141 rfl (lv_at hl 3 rfl) ?_
                    refine lv_iload_n hx hb dX7_makes_142 rfl (lv_at hl 5 rfl) ?_
                    refine lv_iload hx hb dX7_makes_143 (lv_at hl 0 rfl) ?_
                    obtain ⟨z14, hc23, hsem⟩ := bn_some hsem
                    refine mcV (C := RX7) (As := [.int x3, .int p0, .int x10]) (rest := []) ⟨hx, hb, hml, (hown d), (dr_words hts d)⟩ (hKK.drawn d) hP hD hS hZ (cwV 3 (dr_words hts d) gX7_makes_X7_makesBig rfl rfl rfl hdX7_makesBig ⟨Nat.le_of_ble_eq_true rfl, Nat.le_of_ble_eq_true rfl⟩) (kX7_makesBig (l := l) (g := g) (ad := ad) (A := z13.1) (F := u5) hc23) (va_recv (hK d) hP (ci := 7) (q0 := 0) rfl rfl) rfl hl.1 rfl (Nat.le_of_ble_eq_true rfl) dX7_makes_145 ⟨Nat.zero_le _, Nat.zero_le _⟩ (fun H locs hP hD hS => ?_)
                    have hP : va_P g.1 vwCl (wM g ad z14 u5) H := hP
                    have hD : va_D Z (wM g ad z14 u5) := hD
                    refine lv_aload_n hx hb dX7_makes_148 rfl (lv_at hl 4 rfl) ?_
                    refine va_get (D := g.1) (ci := 7) (v := .ref (ad 1)) (C := RX7) (T := TX7) (N := 26) hx hb (dr_words hts d) (fun w h => List.mem_cons_of_mem _ (List.mem_append_right _ h)) (hown d) (hK d) hP 0 rfl rfl 1 (by decide) ((dr_words hts d) (.fieldLink RX7 7 "PauseRegionsModel" "s" "[I") (List.mem_of_getElem? (i := 2) rfl)) (fun _ h9 => h9) rfl dX7_makes_149 ?_
                    refine lv_sipush (v := 192) hx hb dX7_makes_152 (by decide) ?_
                    refine lv_iload_n hx hb dX7_makes_155 rfl (lv_at hl 6 rfl) ?_
                    refine lv_iadd hx hb dX7_makes_156 ?_
                    refine lv_iload_n hx hb dX7_makes_157 rfl (lv_at hl 3 rfl) ?_
                    obtain ⟨h10, hsem⟩ := ck_some hsem
                    refine va_iast (D := g.1) hx hb (hK d) hP hD hS 1 0 rfl rfl h10 dX7_makes_158 (fun H locs hP hD hS => ?_)
                    obtain ⟨A10, eA10, hsem⟩ := bd_some hsem
                    have hP : va_P g.1 vwCl (wM g ad A10 u5) H := by rw [eA10]; exact hP
                    have hD : va_D Z (wM g ad A10 u5) := by rw [eA10]; exact hD
                    refine lv_iload_n hx hb dX7_makes_159 rfl (lv_at hl 3 rfl) ?_
                    have eo := (Option.some.inj hsem).symm.symm
                    refine W.endD hdr ?_
                    subst eo
                    exact W.iret (v := x3) hx hb hr (fun t ht hW => ⟨⟨_, u5, rfl, ⟨rfl, hq5⟩, ⟨by rw [ht]; exact hP, hD⟩⟩, hS.F ht⟩) hS.2.2 dX7_makes_160
                  · rw [if_neg c23] at hsem
                    refine lv_aload_n hx hb dX7_makes_129 rfl (lv_at hl 4 rfl) ?_
                    refine lv_iload_n hx hb dX7_makes_130 rfl (lv_at hl 3 rfl) ?_
                    refine lv_iload_n hx hb dX7_makes_131 rfl (lv_at hl 5 rfl) ?_
                    refine lv_iload hx hb dX7_makes_132 (lv_at hl 0 rfl) ?_
                    obtain ⟨z15, hc24, hsem⟩ := bn_some hsem
                    refine mcV (C := RX7) (As := [.int x3, .int p0, .int x10]) (rest := []) ⟨hx, hb, hml, (hown d), (dr_words hts d)⟩ (hKK.drawn d) hP hD hS hZ (cwV 3 (dr_words hts d) gX7_makes_X7_makesSmall rfl rfl rfl hdX7_makesSmall ⟨Nat.le_of_ble_eq_true rfl, Nat.le_of_ble_eq_true rfl⟩) (kX7_makesSmall (l := l) (g := g) (ad := ad) (A := z13.1) (F := u5) hc24) (va_recv (hK d) hP (ci := 7) (q0 := 0) rfl rfl) rfl hl.1 rfl (Nat.le_of_ble_eq_true rfl) dX7_makes_134 ⟨Nat.zero_le _, Nat.zero_le _⟩ (fun H locs hP hD hS => ?_)
                    have hP : va_P g.1 vwCl (wM g ad z15 u5) H := hP
                    have hD : va_D Z (wM g ad z15 u5) := hD
                    refine lv_goto (tgt := 148) hx hb dX7_makes_137 (by decide) ?_
                    refine lv_aload_n hx hb dX7_makes_148 rfl (lv_at hl 4 rfl) ?_
                    refine va_get (D := g.1) (ci := 7) (v := .ref (ad 1)) (C := RX7) (T := TX7) (N := 26) hx hb (dr_words hts d) (fun w h => List.mem_cons_of_mem _ (List.mem_append_right _ h)) (hown d) (hK d) hP 0 rfl rfl 1 (by decide) ((dr_words hts d) (.fieldLink RX7 7 "PauseRegionsModel" "s" "[I") (List.mem_of_getElem? (i := 2) rfl)) (fun _ h9 => h9) rfl dX7_makes_149 ?_
                    refine lv_sipush (v := 192) hx hb dX7_makes_152 (by decide) ?_
                    refine lv_iload_n hx hb dX7_makes_155 rfl (lv_at hl 6 rfl) ?_
                    refine lv_iadd hx hb dX7_makes_156 ?_
                    refine lv_iload_n hx hb dX7_makes_157 rfl (lv_at hl 3 rfl) ?_
                    obtain ⟨h11, hsem⟩ := ck_some hsem
                    refine va_iast (D := g.1) hx hb (hK d) hP hD hS 1 0 rfl rfl h11 dX7_makes_158 (fun H locs hP hD hS => ?_)
                    obtain ⟨A11, eA11, hsem⟩ := bd_some hsem
                    have hP : va_P g.1 vwCl (wM g ad A11 u5) H := by rw [eA11]; exact hP
                    have hD : va_D Z (wM g ad A11 u5) := by rw [eA11]; exact hD
                    refine lv_iload_n hx hb dX7_makes_159 rfl (lv_at hl 3 rfl) ?_
                    have eo := (Option.some.inj hsem).symm.symm
                    refine W.endD hdr ?_
                    subst eo
                    exact W.iret (v := x3) hx hb hr (fun t ht hW => ⟨⟨_, u5, rfl, ⟨rfl, hq5⟩, ⟨by rw [ht]; exact hP, hD⟩⟩, hS.F ht⟩) hS.2.2 dX7_makes_160
                · rw [if_pos c22] at hsem
                  refine lv_bipush (v := (-3)) hx hb dX7_makes_117 (by decide) ?_
                  have eo := (Option.some.inj hsem).symm.symm
                  refine W.endD hdr ?_
                  subst eo
                  exact W.iret (v := (-3)) hx hb hr (fun t ht hW => ⟨⟨_, F, rfl, ⟨rfl, hAL⟩, ⟨by rw [ht]; exact hP, hD⟩⟩, hS.F ht⟩) hS.2.2 dX7_makes_119
            · rw [if_neg c20] at hsem
              refine lv_iconst (v := 1) hx hb dX7_makes_88 (by decide) ?_
              refine lv_goto (tgt := 99) hx hb dX7_makes_89 (by decide) ?_
              obtain ⟨x11, hc25, hsem⟩ := bn_some hsem
              refine pcV (C := RX7) (As := [.int 1]) (rest := []) ⟨hx, hb, hml, (hown d), (dr_words hts d)⟩ (hKK.drawn d) (cwV 1 (dr_words hts d) gX7_makes_X7_lowestFree rfl rfl rfl hdX7_lowestFree ⟨Nat.le_of_ble_eq_true rfl, Nat.le_of_ble_eq_true rfl⟩) (kX7_lowestFree (l := l) (g := g) hP hc25) (va_recv (hK d) hP (ci := 7) (q0 := 0) rfl rfl) rfl hl.1 rfl (Nat.le_of_ble_eq_true rfl) dX7_makes_99 ⟨Nat.zero_le _, Nat.zero_le _⟩ ?_
              refine lv_istore (lv' := [(6, .int x11), (5, .int 0), (4, .int x4), (3, .int x3), (0, .ref (ad 0)), (1, .int p0), (2, .int p1)]) hx hb dX7_makes_102 hl (by decide) rfl (fun ls hl => ?_)
              refine lv_iload_n hx hb dX7_makes_104 rfl (lv_at hl 3 rfl) ?_
              refine lv_bipush (v := 32) hx hb dX7_makes_105 (by decide) ?_
              refine lv_icmp_eq (tgt := 117) hx hb dX7_makes_107 (by decide) (fun c24 => ?_) (fun c24 => ?_)
              · rw [if_pos c24] at hsem
                refine lv_bipush (v := (-3)) hx hb dX7_makes_117 (by decide) ?_
                have eo := (Option.some.inj hsem).symm.symm
                refine W.endD hdr ?_
                subst eo
                exact W.iret (v := (-3)) hx hb hr (fun t ht hW => ⟨⟨_, F, rfl, ⟨rfl, hAL⟩, ⟨by rw [ht]; exact hP, hD⟩⟩, hS.F ht⟩) hS.2.2 dX7_makes_119
              · rw [if_neg c24] at hsem
                refine lv_iload hx hb dX7_makes_110 (lv_at hl 0 rfl) ?_
                refine lv_bipush (v := (-9)) hx hb dX7_makes_112 (by decide) ?_
                refine lv_icmp_ne (tgt := 120) hx hb dX7_makes_114 (by decide) (fun c25 => ?_) (fun c25 => ?_)
                · rw [if_neg c25] at hsem
                  refine lv_aload_n hx hb dX7_makes_120 rfl (lv_at hl 4 rfl) ?_
                  obtain ⟨z16, hc26, hsem⟩ := bn_some hsem
                  refine dcV (C := RX7) (As := []) (rest := []) hdr ⟨hx, hb, hml, (hown d), (dr_words hts d)⟩ (hKK.drawn d) hP hD hS hZ (cwV 0 (dr_words hts d) gX7_makes_X7_notes rfl rfl rfl hdX7_notes ⟨Nat.le_of_ble_eq_true rfl, Nat.le_of_ble_eq_true rfl⟩) (kX7_notes (l := l) (g := g) (ad := ad) (A := A1) (F := F) (Fc := Fc) hAL hc26) (va_recv (hK d) hP (ci := 7) (q0 := 0) rfl rfl) rfl hl.1 rfl (Nat.le_of_ble_eq_true rfl) dX7_makes_121 ⟨Nat.zero_le _, Nat.zero_le _⟩ (fun u6 H locs d hpo hP hD hS hdr => ?_)
                  have hq6 := hpo
                  have hP : va_P g.1 vwCl (wM g ad z16.1 u6) H := hP
                  have hD : va_D Z (wM g ad z16.1 u6) := hD
                  refine lv_iload_n hx hb dX7_makes_124 rfl (lv_at hl 5 rfl) ?_
                  refine lv_iconst (v := 5) hx hb dX7_makes_125 (by decide) ?_
                  refine lv_icmp_ge (tgt := 140) hx hb dX7_makes_126 (by decide) (fun c26 => ?_) (fun c26 => ?_)
                  · rw [if_pos c26] at hsem
                    refine lv_aload_n hx hb dX7_makes_140 rfl (lv_at hl 4 rfl) ?_
                    refine lv_iload_n hx hb dX7_makes_141 rfl (lv_at hl 3 rfl) ?_
                    refine lv_iload_n hx hb dX7_makes_142 rfl (lv_at hl 5 rfl) ?_
                    refine lv_iload hx hb dX7_makes_143 (lv_at hl 0 rfl) ?_
                    obtain ⟨z17, hc27, hsem⟩ := bn_some hsem
                    refine mcV (C := RX7) (As := [.int x3, .int p0, .int x11]) (rest := []) ⟨hx, hb, hml, (hown d), (dr_words hts d)⟩ (hKK.drawn d) hP hD hS hZ (cwV 3 (dr_words hts d) gX7_makes_X7_makesBig rfl rfl rfl hdX7_makesBig ⟨Nat.le_of_ble_eq_true rfl, Nat.le_of_ble_eq_true rfl⟩) (kX7_makesBig (l := l) (g := g) (ad := ad) (A := z16.1) (F := u6) hc27) (va_recv (hK d) hP (ci := 7) (q0 := 0) rfl rfl) rfl hl.1 rfl (Nat.le_of_ble_eq_true rfl) dX7_makes_145 ⟨Nat.zero_le _, Nat.zero_le _⟩ (fun H locs hP hD hS => ?_)
                    have hP : va_P g.1 vwCl (wM g ad z17 u6) H := hP
                    have hD : va_D Z (wM g ad z17 u6) := hD
                    refine lv_aload_n hx hb dX7_makes_148 rfl (lv_at hl 4 rfl) ?_
                    refine va_get (D := g.1) (ci := 7) (v := .ref (ad 1)) (C := RX7) (T := TX7) (N := 26) hx hb (dr_words hts d) (fun w h => List.mem_cons_of_mem _ (List.mem_append_right _ h)) (hown d) (hK d) hP 0 rfl rfl 1 (by decide) ((dr_words hts d) (.fieldLink RX7 7 "PauseRegionsModel" "s" "[I") (List.mem_of_getElem? (i := 2) rfl)) (fun _ h9 => h9) rfl dX7_makes_149 ?_
                    refine lv_sipush (v := 192) hx hb dX7_makes_152 (by decide) ?_
                    refine lv_iload_n hx hb dX7_makes_155 rfl (lv_at hl 6 rfl) ?_
                    refine lv_iadd hx hb dX7_makes_156 ?_
                    refine lv_iload_n hx hb dX7_makes_157 rfl (lv_at hl 3 rfl) ?_
                    obtain ⟨h12, hsem⟩ := ck_some hsem
                    refine va_iast (D := g.1) hx hb (hK d) hP hD hS 1 0 rfl rfl h12 dX7_makes_158 (fun H locs hP hD hS => ?_)
                    obtain ⟨A12, eA12, hsem⟩ := bd_some hsem
                    have hP : va_P g.1 vwCl (wM g ad A12 u6) H := by rw [eA12]; exact hP
                    have hD : va_D Z (wM g ad A12 u6) := by rw [eA12]; exact hD
                    refine lv_iload_n hx hb dX7_makes_159 rfl (lv_at hl 3 rfl) ?_
                    have eo := (Option.some.inj hsem).symm.symm
                    refine W.endD hdr ?_
                    subst eo
                    exact W.iret (v := x3) hx hb hr (fun t ht hW => ⟨⟨_, u6, rfl, ⟨rfl, hq6⟩, ⟨by rw [ht]; exact hP, hD⟩⟩, hS.F ht⟩) hS.2.2 dX7_makes_160
                  · rw [if_neg c26] at hsem
                    refine lv_aload_n hx hb dX7_makes_129 rfl (lv_at hl 4 rfl) ?_
                    refine lv_iload_n hx hb dX7_makes_130 rfl (lv_at hl 3 rfl) ?_
                    refine lv_iload_n hx hb dX7_makes_131 rfl (lv_at hl 5 rfl) ?_
                    refine lv_iload hx hb dX7_makes_132 (lv_at hl 0 rfl) ?_
                    obtain ⟨z18, hc28, hsem⟩ := bn_some hsem
                    refine mcV (C := RX7) (As := [.int x3, .int p0, .int x11]) (rest := []) ⟨hx, hb, hml, (hown d), (dr_words hts d)⟩ (hKK.drawn d) hP hD hS hZ (cwV 3 (dr_words hts d) gX7_makes_X7_makesSmall rfl rfl rfl hdX7_makesSmall ⟨Nat.le_of_ble_eq_true rfl, Nat.le_of_ble_eq_true rfl⟩) (kX7_makesSmall (l := l) (g := g) (ad := ad) (A := z16.1) (F := u6) hc28) (va_recv (hK d) hP (ci := 7) (q0 := 0) rfl rfl) rfl hl.1 rfl (Nat.le_of_ble_eq_true rfl) dX7_makes_134 ⟨Nat.zero_le _, Nat.zero_le _⟩ (fun H locs hP hD hS => ?_)
                    have hP : va_P g.1 vwCl (wM g ad z18 u6) H := hP
                    have hD : va_D Z (wM g ad z18 u6) := hD
                    refine lv_goto (tgt := 148) hx hb dX7_makes_137 (by decide) ?_
                    refine lv_aload_n hx hb dX7_makes_148 rfl (lv_at hl 4 rfl) ?_
                    refine va_get (D := g.1) (ci := 7) (v := .ref (ad 1)) (C := RX7) (T := TX7) (N := 26) hx hb (dr_words hts d) (fun w h => List.mem_cons_of_mem _ (List.mem_append_right _ h)) (hown d) (hK d) hP 0 rfl rfl 1 (by decide) ((dr_words hts d) (.fieldLink RX7 7 "PauseRegionsModel" "s" "[I") (List.mem_of_getElem? (i := 2) rfl)) (fun _ h9 => h9) rfl dX7_makes_149 ?_
                    refine lv_sipush (v := 192) hx hb dX7_makes_152 (by decide) ?_
                    refine lv_iload_n hx hb dX7_makes_155 rfl (lv_at hl 6 rfl) ?_
                    refine lv_iadd hx hb dX7_makes_156 ?_
                    refine lv_iload_n hx hb dX7_makes_157 rfl (lv_at hl 3 rfl) ?_
                    obtain ⟨h13, hsem⟩ := ck_some hsem
                    refine va_iast (D := g.1) hx hb (hK d) hP hD hS 1 0 rfl rfl h13 dX7_makes_158 (fun H locs hP hD hS => ?_)
                    obtain ⟨A13, eA13, hsem⟩ := bd_some hsem
                    have hP : va_P g.1 vwCl (wM g ad A13 u6) H := by rw [eA13]; exact hP
                    have hD : va_D Z (wM g ad A13 u6) := by rw [eA13]; exact hD
                    refine lv_iload_n hx hb dX7_makes_159 rfl (lv_at hl 3 rfl) ?_
                    have eo := (Option.some.inj hsem).symm.symm
                    refine W.endD hdr ?_
                    subst eo
                    exact W.iret (v := x3) hx hb hr (fun t ht hW => ⟨⟨_, u6, rfl, ⟨rfl, hq6⟩, ⟨by rw [ht]; exact hP, hD⟩⟩, hS.F ht⟩) hS.2.2 dX7_makes_160
                · rw [if_pos c25] at hsem
                  refine lv_bipush (v := (-3)) hx hb dX7_makes_117 (by decide) ?_
                  have eo := (Option.some.inj hsem).symm.symm
                  refine W.endD hdr ?_
                  subst eo
                  exact W.iret (v := (-3)) hx hb hr (fun t ht hW => ⟨⟨_, F, rfl, ⟨rfl, hAL⟩, ⟨by rw [ht]; exact hP, hD⟩⟩, hS.F ht⟩) hS.2.2 dX7_makes_119
          · rw [if_neg c19] at hsem
            refine lv_iconst (v := 1) hx hb dX7_makes_65 (by decide) ?_
            refine lv_goto (tgt := 70) hx hb dX7_makes_66 (by decide) ?_
            refine lv_istore (lv' := [(5, .int 1), (4, .int x4), (3, .int x3), (0, .ref (ad 0)), (1, .int p0), (2, .int p1)]) hx hb dX7_makes_70 hl (by decide) rfl (fun ls hl => ?_)
            refine lv_iload hx hb dX7_makes_72 (lv_at hl 0 rfl) ?_
            refine lv_if_eq (tgt := 82) hx hb dX7_makes_74 (by decide) (fun cc => absurd cc (by decide)) (fun cc => ?_)
            refine lv_iload hx hb dX7_makes_77 (lv_at hl 1 rfl) ?_
            refine lv_goto (tgt := 102) hx hb dX7_makes_79 (by decide) ?_
            refine lv_istore (lv' := [(6, .int x4), (5, .int 1), (4, .int x4), (3, .int x3), (0, .ref (ad 0)), (1, .int p0), (2, .int p1)]) hx hb dX7_makes_102 hl (by decide) rfl (fun ls hl => ?_)
            refine lv_iload_n hx hb dX7_makes_104 rfl (lv_at hl 3 rfl) ?_
            refine lv_bipush (v := 32) hx hb dX7_makes_105 (by decide) ?_
            refine lv_icmp_eq (tgt := 117) hx hb dX7_makes_107 (by decide) (fun c27 => ?_) (fun c27 => ?_)
            · rw [if_pos c27] at hsem
              refine lv_bipush (v := (-3)) hx hb dX7_makes_117 (by decide) ?_
              have eo := (Option.some.inj hsem).symm.symm
              refine W.endD hdr ?_
              subst eo
              exact W.iret (v := (-3)) hx hb hr (fun t ht hW => ⟨⟨_, F, rfl, ⟨rfl, hAL⟩, ⟨by rw [ht]; exact hP, hD⟩⟩, hS.F ht⟩) hS.2.2 dX7_makes_119
            · rw [if_neg c27] at hsem
              refine lv_iload hx hb dX7_makes_110 (lv_at hl 0 rfl) ?_
              refine lv_bipush (v := (-9)) hx hb dX7_makes_112 (by decide) ?_
              refine lv_icmp_ne (tgt := 120) hx hb dX7_makes_114 (by decide) (fun c28 => ?_) (fun c28 => ?_)
              · rw [if_neg c28] at hsem
                refine lv_aload_n hx hb dX7_makes_120 rfl (lv_at hl 4 rfl) ?_
                obtain ⟨z19, hc29, hsem⟩ := bn_some hsem
                refine dcV (C := RX7) (As := []) (rest := []) hdr ⟨hx, hb, hml, (hown d), (dr_words hts d)⟩ (hKK.drawn d) hP hD hS hZ (cwV 0 (dr_words hts d) gX7_makes_X7_notes rfl rfl rfl hdX7_notes ⟨Nat.le_of_ble_eq_true rfl, Nat.le_of_ble_eq_true rfl⟩) (kX7_notes (l := l) (g := g) (ad := ad) (A := A1) (F := F) (Fc := Fc) hAL hc29) (va_recv (hK d) hP (ci := 7) (q0 := 0) rfl rfl) rfl hl.1 rfl (Nat.le_of_ble_eq_true rfl) dX7_makes_121 ⟨Nat.zero_le _, Nat.zero_le _⟩ (fun u7 H locs d hpo hP hD hS hdr => ?_)
                have hq7 := hpo
                have hP : va_P g.1 vwCl (wM g ad z19.1 u7) H := hP
                have hD : va_D Z (wM g ad z19.1 u7) := hD
                refine lv_iload_n hx hb dX7_makes_124 rfl (lv_at hl 5 rfl) ?_
                refine lv_iconst (v := 5) hx hb dX7_makes_125 (by decide) ?_
                refine lv_icmp_ge (tgt := 140) hx hb dX7_makes_126 (by decide) (fun c29 => ?_) (fun c29 => ?_)
                · rw [if_pos c29] at hsem
                  refine lv_aload_n hx hb dX7_makes_140 rfl (lv_at hl 4 rfl) ?_
                  refine lv_iload_n hx hb dX7_makes_141 rfl (lv_at hl 3 rfl) ?_
                  refine lv_iload_n hx hb dX7_makes_142 rfl (lv_at hl 5 rfl) ?_
                  refine lv_iload hx hb dX7_makes_143 (lv_at hl 0 rfl) ?_
                  obtain ⟨z20, hc30, hsem⟩ := bn_some hsem
                  refine mcV (C := RX7) (As := [.int x3, .int p0, .int x4]) (rest := []) ⟨hx, hb, hml, (hown d), (dr_words hts d)⟩ (hKK.drawn d) hP hD hS hZ (cwV 3 (dr_words hts d) gX7_makes_X7_makesBig rfl rfl rfl hdX7_makesBig ⟨Nat.le_of_ble_eq_true rfl, Nat.le_of_ble_eq_true rfl⟩) (kX7_makesBig (l := l) (g := g) (ad := ad) (A := z19.1) (F := u7) hc30) (va_recv (hK d) hP (ci := 7) (q0 := 0) rfl rfl) rfl hl.1 rfl (Nat.le_of_ble_eq_true rfl) dX7_makes_145 ⟨Nat.zero_le _, Nat.zero_le _⟩ (fun H locs hP hD hS => ?_)
                  have hP : va_P g.1 vwCl (wM g ad z20 u7) H := hP
                  have hD : va_D Z (wM g ad z20 u7) := hD
                  refine lv_aload_n hx hb dX7_makes_148 rfl (lv_at hl 4 rfl) ?_
                  refine va_get (D := g.1) (ci := 7) (v := .ref (ad 1)) (C := RX7) (T := TX7) (N := 26) hx hb (dr_words hts d) (fun w h => List.mem_cons_of_mem _ (List.mem_append_right _ h)) (hown d) (hK d) hP 0 rfl rfl 1 (by decide) ((dr_words hts d) (.fieldLink RX7 7 "PauseRegionsModel" "s" "[I") (List.mem_of_getElem? (i := 2) rfl)) (fun _ h9 => h9) rfl dX7_makes_149 ?_
                  refine lv_sipush (v := 192) hx hb dX7_makes_152 (by decide) ?_
                  refine lv_iload_n hx hb dX7_makes_155 rfl (lv_at hl 6 rfl) ?_
                  refine lv_iadd hx hb dX7_makes_156 ?_
                  refine lv_iload_n hx hb dX7_makes_157 rfl (lv_at hl 3 rfl) ?_
                  obtain ⟨h14, hsem⟩ := ck_some hsem
                  refine va_iast (D := g.1) hx hb (hK d) hP hD hS 1 0 rfl rfl h14 dX7_makes_158 (fun H locs hP hD hS => ?_)
                  obtain ⟨A14, eA14, hsem⟩ := bd_some hsem
                  have hP : va_P g.1 vwCl (wM g ad A14 u7) H := by rw [eA14]; exact hP
                  have hD : va_D Z (wM g ad A14 u7) := by rw [eA14]; exact hD
                  refine lv_iload_n hx hb dX7_makes_159 rfl (lv_at hl 3 rfl) ?_
                  have eo := (Option.some.inj hsem).symm.symm
                  refine W.endD hdr ?_
                  subst eo
                  exact W.iret (v := x3) hx hb hr (fun t ht hW => ⟨⟨_, u7, rfl, ⟨rfl, hq7⟩, ⟨by rw [ht]; exact hP, hD⟩⟩, hS.F ht⟩) hS.2.2 dX7_makes_160
                · rw [if_neg c29] at hsem
                  refine lv_aload_n hx hb dX7_makes_129 rfl (lv_at hl 4 rfl) ?_
                  refine lv_iload_n hx hb dX7_makes_130 rfl (lv_at hl 3 rfl) ?_
                  refine lv_iload_n hx hb dX7_makes_131 rfl (lv_at hl 5 rfl) ?_
                  refine lv_iload hx hb dX7_makes_132 (lv_at hl 0 rfl) ?_
                  obtain ⟨z21, hc31, hsem⟩ := bn_some hsem
                  refine mcV (C := RX7) (As := [.int x3, .int p0, .int x4]) (rest := []) ⟨hx, hb, hml, (hown d), (dr_words hts d)⟩ (hKK.drawn d) hP hD hS hZ (cwV 3 (dr_words hts d) gX7_makes_X7_makesSmall rfl rfl rfl hdX7_makesSmall ⟨Nat.le_of_ble_eq_true rfl, Nat.le_of_ble_eq_true rfl⟩) (kX7_makesSmall (l := l) (g := g) (ad := ad) (A := z19.1) (F := u7) hc31) (va_recv (hK d) hP (ci := 7) (q0 := 0) rfl rfl) rfl hl.1 rfl (Nat.le_of_ble_eq_true rfl) dX7_makes_134 ⟨Nat.zero_le _, Nat.zero_le _⟩ (fun H locs hP hD hS => ?_)
                  have hP : va_P g.1 vwCl (wM g ad z21 u7) H := hP
                  have hD : va_D Z (wM g ad z21 u7) := hD
                  refine lv_goto (tgt := 148) hx hb dX7_makes_137 (by decide) ?_
                  refine lv_aload_n hx hb dX7_makes_148 rfl (lv_at hl 4 rfl) ?_
                  refine va_get (D := g.1) (ci := 7) (v := .ref (ad 1)) (C := RX7) (T := TX7) (N := 26) hx hb (dr_words hts d) (fun w h => List.mem_cons_of_mem _ (List.mem_append_right _ h)) (hown d) (hK d) hP 0 rfl rfl 1 (by decide) ((dr_words hts d) (.fieldLink RX7 7 "PauseRegionsModel" "s" "[I") (List.mem_of_getElem? (i := 2) rfl)) (fun _ h9 => h9) rfl dX7_makes_149 ?_
                  refine lv_sipush (v := 192) hx hb dX7_makes_152 (by decide) ?_
                  refine lv_iload_n hx hb dX7_makes_155 rfl (lv_at hl 6 rfl) ?_
                  refine lv_iadd hx hb dX7_makes_156 ?_
                  refine lv_iload_n hx hb dX7_makes_157 rfl (lv_at hl 3 rfl) ?_
                  obtain ⟨h15, hsem⟩ := ck_some hsem
                  refine va_iast (D := g.1) hx hb (hK d) hP hD hS 1 0 rfl rfl h15 dX7_makes_158 (fun H locs hP hD hS => ?_)
                  obtain ⟨A15, eA15, hsem⟩ := bd_some hsem
                  have hP : va_P g.1 vwCl (wM g ad A15 u7) H := by rw [eA15]; exact hP
                  have hD : va_D Z (wM g ad A15 u7) := by rw [eA15]; exact hD
                  refine lv_iload_n hx hb dX7_makes_159 rfl (lv_at hl 3 rfl) ?_
                  have eo := (Option.some.inj hsem).symm.symm
                  refine W.endD hdr ?_
                  subst eo
                  exact W.iret (v := x3) hx hb hr (fun t ht hW => ⟨⟨_, u7, rfl, ⟨rfl, hq7⟩, ⟨by rw [ht]; exact hP, hD⟩⟩, hS.F ht⟩) hS.2.2 dX7_makes_160
              · rw [if_pos c28] at hsem
                refine lv_bipush (v := (-3)) hx hb dX7_makes_117 (by decide) ?_
                have eo := (Option.some.inj hsem).symm.symm
                refine W.endD hdr ?_
                subst eo
                exact W.iret (v := (-3)) hx hb hr (fun t ht hW => ⟨⟨_, F, rfl, ⟨rfl, hAL⟩, ⟨by rw [ht]; exact hP, hD⟩⟩, hS.F ht⟩) hS.2.2 dX7_makes_119
    · rw [if_pos c2] at hsem
      refine lv_iconst (v := (-1)) hx hb dX7_makes_22 (by decide) ?_
      have eo := (Option.some.inj hsem).symm.symm
      refine W.endD hdr ?_
      subst eo
      exact W.iret (v := (-1)) hx hb hr (fun t ht hW => ⟨⟨_, F, rfl, ⟨rfl, hAL⟩, ⟨by rw [ht]; exact hP, hD⟩⟩, hS.F ht⟩) hS.2.2 dX7_makes_23
def sX7_ones_L4 (p0 : Int32) (q1 : Int32 × Int32) : Option ((Int32 × Int32) ⊕ (Int32)) :=
  if 20 ≤ q1.2 then (some (.inr q1.1)) else (bd (q1.1 + ((p0 >>> (q1.2 &&& 31)) &&& 1)) fun x1 => some (.inl (x1, q1.2 + 1)))
def sX7_ones (p0 : Int32) : Option (Int32) :=
  (loopN (sX7_ones_L4 p0) 2000 (0, 0)).bind fun q2 => some q2
abbrev rmX7_ones : Room := { frames := 0, cells := 0, slots := 0, locals := 0 }
theorem hdX7_ones : yX7_ones.cls ≠ "java/lang/invoke/MethodHandle" ∧ yX7_ones.cls ≠ "java/lang/invoke/VarHandle" ∧ (parseMethodDescriptor yX7_ones.desc).map (fun d => d.parameters.length) = some 1 := by decide +kernel
set_option maxHeartbeats 4000000 in
set_option maxRecDepth 100000 in
theorem kX7_ones {l : Launch} {g : GG} {H0 : Heap}  {p0 : Int32} {b : Int32} (hsem : sX7_ones p0 = some b) : MetP l yX7_ones wsX7_ones rmX7_ones g H0 [.int p0] b := by
  refine Met.ofW (cc := cX7_ones) (maxL := 3) (ret := (some .int)) (by decide) rfl ?_
  intro p e s m args below meth c s₁ B hml hv
  obtain ⟨rfl, hH, hKK⟩ := hv
  subst hH
  have hx := B.exec
  have hb := B.bytes
  have hr := B.returns
  have hts := atoms_spec (ws := wsX7_ones) B.pre
  have hown : s.vm.findClass RX7 = some m.cls := findClass_of_methodNamed B.named
  have hlocks := B.notSynchronized
  have hK := hKK.1
  have hl := lv_entry ([.int p0]) (n := 3) (Nat.le_of_ble_eq_true rfl)
  rw [lg_entry_eq]
  generalize (lg_sl ([.int p0]) ++ List.replicate (3 - (lg_sl ([.int p0])).length) Slot.unset).toArray = ls at hl ⊢
  have hl : lv_has ls 3 [(0, .int p0)] := hl
  unfold sX7_ones at hsem
  refine lv_iconst (v := 0) hx hb dX7_ones_0 (by decide) ?_
  refine lv_istore_n (lv' := [(1, .int 0), (0, .int p0)]) hx hb dX7_ones_1 rfl hl (by decide) rfl (fun ls hl => ?_)
  refine lv_iconst (v := 0) hx hb dX7_ones_2 (by decide) ?_
  refine lv_istore_n (lv' := [(2, .int 0), (1, .int 0), (0, .int p0)]) hx hb dX7_ones_3 rfl hl (by decide) rfl (fun ls hl => ?_)
  obtain ⟨q2, hc1, hsem⟩ := bn_some hsem
  refine loopP hc1 (fun (q1 : Int32 × Int32) => [(2, .int q1.2), (1, .int q1.1), (0, .int p0)]) (fun (q1 : Int32) => [(1, .int q1)]) (exit := 24) (lv_sub hl [0, 1, 2] rfl) (fun ls hl => ?_) (fun q1 r hst1 hin1 hout1 ls hl => ?_)
  · skip
    refine lv_iload_n hx hb dX7_ones_24 rfl (lv_at hl 0 rfl) ?_
    have eo := (Option.some.inj hsem).symm.symm
    exact W.iret (v := q2) hx hb hr (fun t ht hW => ⟨⟨_, (), rfl, eo, ht⟩, (va_S.rf (A := fun _ => False) (H0 := s.heap)).F ht⟩) (fun q hq => absurd hq List.not_mem_nil) dX7_ones_25
  · unfold sX7_ones_L4 at hst1
    refine lv_iload_n hx hb dX7_ones_4 rfl (lv_at hl 0 rfl) ?_
    refine lv_bipush (v := 20) hx hb dX7_ones_5 (by decide) ?_
    refine lv_icmp_ge (tgt := 24) hx hb dX7_ones_7 (by decide) (fun c1 => ?_) (fun c1 => ?_)
    · rw [if_pos c1] at hst1
      exact hout1 ls _ (Option.some.inj hst1).symm (lv_sub hl [1] rfl)
    · rw [if_neg c1] at hst1
      refine lv_iload_n hx hb dX7_ones_10 rfl (lv_at hl 1 rfl) ?_
      refine lv_iload_n hx hb dX7_ones_11 rfl (lv_at hl 2 rfl) ?_
      refine lv_iload_n hx hb dX7_ones_12 rfl (lv_at hl 0 rfl) ?_
      refine lv_ishr hx hb dX7_ones_13 ?_
      refine lv_iconst (v := 1) hx hb dX7_ones_14 (by decide) ?_
      refine lv_iand hx hb dX7_ones_15 ?_
      refine lv_iadd hx hb dX7_ones_16 ?_
      obtain ⟨x1, ex1, hst1⟩ := bd_some hst1
      rw [← ex1]
      refine lv_istore_n (lv' := [(1, .int x1), (2, .int q1.2), (0, .int p0)]) hx hb dX7_ones_17 rfl hl (by decide) rfl (fun ls hl => ?_)
      refine lv_iinc (v := q1.2 + 1) (lv' := [(2, .int (q1.2 + 1)), (1, .int x1), (0, .int p0)]) hx hb dX7_ones_18 hl (k := 1) rfl rfl (by decide) rfl (fun ls hl => ?_)
      refine lv_goto (tgt := 4) hx hb dX7_ones_21 (by decide) ?_
      exact hin1 ls _ (Option.some.inj hst1).symm (lv_sub hl [0, 1, 2] rfl)
def sX7_refinesOne_L30 (x1 : Int32) (q1 : Int32 × IA) (q2 : Int32 × IA) : Option ((Int32 × IA) ⊕ (IA)) :=
  if 2 ≤ q2.1 then (some (.inr q2.2)) else ((sX7_isThing q2.2 q1.1).bind fun x2 => if x2 = 0 then (some (.inr q2.2)) else ((sX7_cardOf q2.2 q1.1).bind fun x3 => if x3 = x1 then ((sX7_ofThing q2.2 q1.1 (3 + q2.1)).bind fun x4 => if x4 = (-5) then (some (.inl (q2.1 + 1, q2.2))) else ((sX7_ofThing q2.2 x4 1).bind fun x5 => if x5 = (x1 / 2) then (some (.inl (q2.1 + 1, q2.2))) else ((sX7_ofThing q2.2 x4 1).bind fun x6 => ck ((198 + (4 * x6)) + 3) 296 (ck ((198 + (4 * x6)) + 3) 296 (bd (wr q2.2 1 (((198 + (4 * x6)) + 3).toNatClampNeg) (((q2.2 1) ((198 + (4 * x6)) + 3).toNatClampNeg) ||| (1 <<< (x1 &&& 31)))) fun A1 => some (.inl (q2.1 + 1, A1))))))) else (some (.inr q2.2))))
def sX7_refinesOne_L22 (x1 : Int32) (q1 : Int32 × IA) : Option ((Int32 × IA) ⊕ (IA)) :=
  if 32 ≤ q1.1 then (some (.inr q1.2)) else ((loopN (sX7_refinesOne_L30 x1 q1) 2000 (0, q1.2)).bind fun q3 => some (.inl (q1.1 + 1, q3)))
def sX7_refinesOne (A : IA) : Option (IA) :=
  bd ((A 1) (Int32.toNatClampNeg 238)) fun x1 => (sX7_leaves A 238 258 0).bind fun z1 => (loopN (sX7_refinesOne_L22 x1) 2000 (0, z1)).bind fun q4 => some q4
abbrev rmX7_refinesOne : Room := { frames := 2, cells := 0, slots := 0, locals := 43 }
theorem hdX7_refinesOne : yX7_refinesOne.cls = RX7 ∧ yX7_refinesOne.cls ≠ "java/lang/invoke/MethodHandle" ∧ yX7_refinesOne.cls ≠ "java/lang/invoke/VarHandle" ∧ (parseMethodDescriptor yX7_refinesOne.desc).map (fun d => d.parameters.length) = some 0 := by decide +kernel
set_option maxHeartbeats 4000000 in
set_option maxRecDepth 100000 in
theorem kX7_refinesOne {l : Launch} {g : GG} {sz : Nat} {ad : Nat → Nat} {A : IA} {F : FA} {b : IA} (hsem : sX7_refinesOne A = some b) : MetV l yX7_refinesOne wsX7_refinesOne rmX7_refinesOne g [.ref (ad 0)] (wM g ad A F) sz (wM g ad b F) := by
  refine Met.ofW (cc := cX7_refinesOne) (maxL := 5) (ret := none) (by decide) rfl ?_
  intro p e s m args below meth c s₁ B hml hv
  obtain ⟨rfl, hsz, hP, hD0, hKK⟩ := hv
  subst hsz
  have hx := B.exec
  have hb := B.bytes
  have hr := B.returns
  have hts := atoms_spec (ws := wsX7_refinesOne) B.pre
  have hown : s.vm.findClass RX7 = some m.cls := findClass_of_methodNamed B.named
  have hlocks := B.notSynchronized
  have hK := hKK.1
  have hD := hD0.self (sz := s.heap.size)
  generalize hZe : va_A (wM g ad A F) s.heap.size = Z at hD ⊢
  have hZ : ∀ q : Nat, s.heap.size ≤ q → Z q := fun q h => by rw [← hZe]; exact Or.inr h
  have hS : va_S Z s.heap s.heap [] := va_S.rf
  have hP : va_P g.1 vwCl (wM g ad A F) s.heap := hP
  have hD : va_D Z (wM g ad A F) := hD
  have hl := lv_entry ([.ref (ad 0)]) (n := 5) (Nat.le_of_ble_eq_true rfl)
  rw [lg_entry_eq]
  generalize (lg_sl ([.ref (ad 0)]) ++ List.replicate (5 - (lg_sl ([.ref (ad 0)])).length) Slot.unset).toArray = ls at hl ⊢
  have hl : lv_has ls 5 [(0, .ref (ad 0))] := hl
  unfold sX7_refinesOne at hsem
  refine lv_aload_n hx hb dX7_refinesOne_0 rfl (lv_at hl 0 rfl) ?_
  refine va_get (D := g.1) (ci := 7) (v := .ref (ad 1)) (C := RX7) (T := TX7) (N := 26) hx hb hts (fun w h => List.mem_cons_of_mem _ (List.mem_append_right _ h)) hown hK hP 0 rfl rfl 1 (by decide) (hts (.fieldLink RX7 7 "PauseRegionsModel" "s" "[I") (List.mem_of_getElem? (i := 1) rfl)) (fun _ h9 => h9) rfl dX7_refinesOne_1 ?_
  refine lv_sipush (v := 238) hx hb dX7_refinesOne_4 (by decide) ?_
  have h1 : vp_in 238 296 := inb_vp rfl
  refine va_iald (D := g.1) hx hb hK hP 1 0 rfl rfl h1 dX7_refinesOne_7 ?_
  obtain ⟨x1, ex1, hsem⟩ := bd_some hsem
  rw [← ex1]
  refine lv_istore_n (lv' := [(1, .int x1), (0, .ref (ad 0))]) hx hb dX7_refinesOne_8 rfl hl (by decide) rfl (fun ls hl => ?_)
  refine lv_aload_n hx hb dX7_refinesOne_9 rfl (lv_at hl 1 rfl) ?_
  refine lv_sipush (v := 238) hx hb dX7_refinesOne_10 (by decide) ?_
  refine lv_sipush (v := 258) hx hb dX7_refinesOne_13 (by decide) ?_
  refine lv_iconst (v := 0) hx hb dX7_refinesOne_16 (by decide) ?_
  obtain ⟨z1, hc1, hsem⟩ := bn_some hsem
  refine mcV (C := RX7) (As := [.int 238, .int 258, .int 0]) (rest := []) ⟨hx, hb, hml, hown, hts⟩ hKK hP hD hS hZ (cwV 3 hts gX7_refinesOne_X7_leaves rfl rfl rfl hdX7_leaves ⟨Nat.le_of_ble_eq_true rfl, Nat.le_of_ble_eq_true rfl⟩) (kX7_leaves (l := l) (g := g) (ad := ad) (A := A) (F := F) hc1) (va_recv hK hP (ci := 7) (q0 := 0) rfl rfl) rfl hl.1 rfl (Nat.le_of_ble_eq_true rfl) dX7_refinesOne_17 ⟨Nat.zero_le _, Nat.zero_le _⟩ (fun H locs hP hD hS => ?_)
  have hP : va_P g.1 vwCl (wM g ad z1 F) H := hP
  have hD : va_D Z (wM g ad z1 F) := hD
  refine lv_iconst (v := 0) hx hb dX7_refinesOne_20 (by decide) ?_
  refine lv_istore_n (lv' := [(2, .int 0), (1, .int x1), (0, .ref (ad 0))]) hx hb dX7_refinesOne_21 rfl hl (by decide) rfl (fun ls hl => ?_)
  obtain ⟨q4, hc8, hsem⟩ := bn_some hsem
  refine loopM (g := g) hc8 (fun (q1 : Int32 × IA) => [(2, .int q1.1), (1, .int x1), (0, .ref (ad 0))]) (fun (q1 : IA) => []) (exit := 120) (fun (q1 : Int32 × IA) => wM g ad q1.2 F) (fun (q1 : IA) => wM g ad q1 F) hP hD hS (lv_sub hl [0, 1, 2] rfl) (fun H locs ls hP hD hS hl => ?_) (fun q1 r hst1 hin1 hout1 H locs ls hP hD hS hl => ?_)
  · have hP : va_P g.1 vwCl (wM g ad q4 F) H := hP
    have hD : va_D Z (wM g ad q4 F) := hD
    have eo := (Option.some.inj hsem).symm.symm
    subst eo
    exact W.vret hx hb hr (fun t ht hW => ⟨⟨(), rfl, trivial, ⟨by rw [ht]; exact hP, hD⟩⟩, hS.F ht⟩) hS.2.2 dX7_refinesOne_120
  · unfold sX7_refinesOne_L22 at hst1
    have hP : va_P g.1 vwCl (wM g ad q1.2 F) H := hP
    have hD : va_D Z (wM g ad q1.2 F) := hD
    refine lv_iload_n hx hb dX7_refinesOne_22 rfl (lv_at hl 0 rfl) ?_
    refine lv_bipush (v := 32) hx hb dX7_refinesOne_23 (by decide) ?_
    refine lv_icmp_ge (tgt := 120) hx hb dX7_refinesOne_25 (by decide) (fun c1 => ?_) (fun c1 => ?_)
    · rw [if_pos c1] at hst1
      exact hout1 H locs ls _ (Option.some.inj hst1).symm hP hD hS (lv_sub hl [] rfl)
    · rw [if_neg c1] at hst1
      refine lv_iconst (v := 0) hx hb dX7_refinesOne_28 (by decide) ?_
      refine lv_istore_n (lv' := [(3, .int 0), (2, .int q1.1), (1, .int x1), (0, .ref (ad 0))]) hx hb dX7_refinesOne_29 rfl hl (by decide) rfl (fun ls hl => ?_)
      obtain ⟨q3, hc7, hst1⟩ := bn_some hst1
      refine loopM (g := g) hc7 (fun (q2 : Int32 × IA) => [(3, .int q2.1), (2, .int q1.1), (1, .int x1), (0, .ref (ad 0))]) (fun (q2 : IA) => [(2, .int q1.1), (1, .int x1), (0, .ref (ad 0))]) (exit := 114) (fun (q2 : Int32 × IA) => wM g ad q2.2 F) (fun (q2 : IA) => wM g ad q2 F) hP hD hS (lv_sub hl [0, 1, 2, 3] rfl) (fun H locs ls hP hD hS hl => ?_) (fun q2 r hst2 hin2 hout2 H locs ls hP hD hS hl => ?_)
      · have hP : va_P g.1 vwCl (wM g ad q3 F) H := hP
        have hD : va_D Z (wM g ad q3 F) := hD
        refine lv_iinc (v := q1.1 + 1) (lv' := [(2, .int (q1.1 + 1)), (1, .int x1), (0, .ref (ad 0))]) hx hb dX7_refinesOne_114 hl (k := 0) rfl rfl (by decide) rfl (fun ls hl => ?_)
        refine lv_goto (tgt := 22) hx hb dX7_refinesOne_117 (by decide) ?_
        exact hin1 H locs ls _ (Option.some.inj hst1).symm hP hD hS (lv_sub hl [0, 1, 2] rfl)
      · unfold sX7_refinesOne_L30 at hst2
        have hP : va_P g.1 vwCl (wM g ad q2.2 F) H := hP
        have hD : va_D Z (wM g ad q2.2 F) := hD
        refine lv_iload_n hx hb dX7_refinesOne_30 rfl (lv_at hl 0 rfl) ?_
        refine lv_iconst (v := 2) hx hb dX7_refinesOne_31 (by decide) ?_
        refine lv_icmp_ge (tgt := 114) hx hb dX7_refinesOne_32 (by decide) (fun c2 => ?_) (fun c2 => ?_)
        · rw [if_pos c2] at hst2
          exact hout2 H locs ls _ (Option.some.inj hst2).symm hP hD hS (lv_sub hl [1, 2, 3] rfl)
        · rw [if_neg c2] at hst2
          refine lv_aload_n hx hb dX7_refinesOne_35 rfl (lv_at hl 3 rfl) ?_
          refine lv_iload_n hx hb dX7_refinesOne_36 rfl (lv_at hl 1 rfl) ?_
          obtain ⟨x2, hc2, hst2⟩ := bn_some hst2
          refine pcV (C := RX7) (As := [.int q1.1]) (rest := []) ⟨hx, hb, hml, hown, hts⟩ hKK (cwV 1 hts gX7_refinesOne_X7_isThing rfl rfl rfl hdX7_isThing ⟨Nat.le_of_ble_eq_true rfl, Nat.le_of_ble_eq_true rfl⟩) (kX7_isThing (l := l) (g := g) hP hc2) (va_recv hK hP (ci := 7) (q0 := 0) rfl rfl) rfl hl.1 rfl (Nat.le_of_ble_eq_true rfl) dX7_refinesOne_37 ⟨Nat.zero_le _, Nat.zero_le _⟩ ?_
          refine lv_if_eq (tgt := 114) hx hb dX7_refinesOne_40 (by decide) (fun c3 => ?_) (fun c3 => ?_)
          · rw [if_pos c3] at hst2
            exact hout2 H locs ls _ (Option.some.inj hst2).symm hP hD hS (lv_sub hl [1, 2, 3] rfl)
          · rw [if_neg c3] at hst2
            refine lv_aload_n hx hb dX7_refinesOne_43 rfl (lv_at hl 3 rfl) ?_
            refine lv_iload_n hx hb dX7_refinesOne_44 rfl (lv_at hl 1 rfl) ?_
            obtain ⟨x3, hc3, hst2⟩ := bn_some hst2
            refine pcV (C := RX7) (As := [.int q1.1]) (rest := []) ⟨hx, hb, hml, hown, hts⟩ hKK (cwV 1 hts gX7_refinesOne_X7_cardOf rfl rfl rfl hdX7_cardOf ⟨Nat.le_of_ble_eq_true rfl, Nat.le_of_ble_eq_true rfl⟩) (kX7_cardOf (l := l) (g := g) hP hc3) (va_recv hK hP (ci := 7) (q0 := 0) rfl rfl) rfl hl.1 rfl (Nat.le_of_ble_eq_true rfl) dX7_refinesOne_45 ⟨Nat.zero_le _, Nat.zero_le _⟩ ?_
            refine lv_iload_n hx hb dX7_refinesOne_48 rfl (lv_at hl 2 rfl) ?_
            refine lv_icmp_ne (tgt := 114) hx hb dX7_refinesOne_49 (by decide) (fun c4 => ?_) (fun c4 => ?_)
            · rw [if_neg c4] at hst2
              exact hout2 H locs ls _ (Option.some.inj hst2).symm hP hD hS (lv_sub hl [1, 2, 3] rfl)
            · rw [if_pos c4] at hst2
              refine lv_aload_n hx hb dX7_refinesOne_52 rfl (lv_at hl 3 rfl) ?_
              refine lv_iload_n hx hb dX7_refinesOne_53 rfl (lv_at hl 1 rfl) ?_
              refine lv_iconst (v := 3) hx hb dX7_refinesOne_54 (by decide) ?_
              refine lv_iload_n hx hb dX7_refinesOne_55 rfl (lv_at hl 0 rfl) ?_
              refine lv_iadd hx hb dX7_refinesOne_56 ?_
              obtain ⟨x4, hc4, hst2⟩ := bn_some hst2
              refine pcV (C := RX7) (As := [.int q1.1, .int (3 + q2.1)]) (rest := []) ⟨hx, hb, hml, hown, hts⟩ hKK (cwV 2 hts gX7_refinesOne_X7_ofThing rfl rfl rfl hdX7_ofThing ⟨Nat.le_of_ble_eq_true rfl, Nat.le_of_ble_eq_true rfl⟩) (kX7_ofThing (l := l) (g := g) hP hc4) (va_recv hK hP (ci := 7) (q0 := 0) rfl rfl) rfl hl.1 rfl (Nat.le_of_ble_eq_true rfl) dX7_refinesOne_57 ⟨Nat.zero_le _, Nat.zero_le _⟩ ?_
              refine lv_istore (lv' := [(4, .int x4), (3, .int q2.1), (2, .int q1.1), (1, .int x1), (0, .ref (ad 0))]) hx hb dX7_refinesOne_60 hl (by decide) rfl (fun ls hl => ?_)
              refine lv_iload hx hb dX7_refinesOne_62 (lv_at hl 0 rfl) ?_
              refine lv_bipush (v := (-5)) hx hb dX7_refinesOne_64 (by decide) ?_
              refine lv_icmp_eq (tgt := 108) hx hb dX7_refinesOne_66 (by decide) (fun c5 => ?_) (fun c5 => ?_)
              · rw [if_pos c5] at hst2
                refine lv_iinc (v := q2.1 + 1) (lv' := [(3, .int (q2.1 + 1)), (4, .int x4), (2, .int q1.1), (1, .int x1), (0, .ref (ad 0))]) hx hb dX7_refinesOne_108 hl (k := 1) rfl rfl (by decide) rfl (fun ls hl => ?_)
                refine lv_goto (tgt := 30) hx hb dX7_refinesOne_111 (by decide) ?_
                exact hin2 H locs ls _ (Option.some.inj hst2).symm hP hD hS (lv_sub hl [0, 2, 3, 4] rfl)
              · rw [if_neg c5] at hst2
                refine lv_aload_n hx hb dX7_refinesOne_69 rfl (lv_at hl 4 rfl) ?_
                refine lv_iload hx hb dX7_refinesOne_70 (lv_at hl 0 rfl) ?_
                refine lv_iconst (v := 1) hx hb dX7_refinesOne_72 (by decide) ?_
                obtain ⟨x5, hc5, hst2⟩ := bn_some hst2
                refine pcV (C := RX7) (As := [.int x4, .int 1]) (rest := []) ⟨hx, hb, hml, hown, hts⟩ hKK (cwV 2 hts gX7_refinesOne_X7_ofThing rfl rfl rfl hdX7_ofThing ⟨Nat.le_of_ble_eq_true rfl, Nat.le_of_ble_eq_true rfl⟩) (kX7_ofThing (l := l) (g := g) hP hc5) (va_recv hK hP (ci := 7) (q0 := 0) rfl rfl) rfl hl.1 rfl (Nat.le_of_ble_eq_true rfl) dX7_refinesOne_73 ⟨Nat.zero_le _, Nat.zero_le _⟩ ?_
                refine lv_iload_n hx hb dX7_refinesOne_76 rfl (lv_at hl 3 rfl) ?_
                refine lv_iconst (v := 2) hx hb dX7_refinesOne_77 (by decide) ?_
                refine lv_idiv hx hb dX7_refinesOne_78 (by decide) ?_
                refine lv_icmp_eq (tgt := 108) hx hb dX7_refinesOne_79 (by decide) (fun c6 => ?_) (fun c6 => ?_)
                · rw [if_pos c6] at hst2
                  refine lv_iinc (v := q2.1 + 1) (lv' := [(3, .int (q2.1 + 1)), (4, .int x4), (2, .int q1.1), (1, .int x1), (0, .ref (ad 0))]) hx hb dX7_refinesOne_108 hl (k := 1) rfl rfl (by decide) rfl (fun ls hl => ?_)
                  refine lv_goto (tgt := 30) hx hb dX7_refinesOne_111 (by decide) ?_
                  exact hin2 H locs ls _ (Option.some.inj hst2).symm hP hD hS (lv_sub hl [0, 2, 3, 4] rfl)
                · rw [if_neg c6] at hst2
                  refine lv_aload_n hx hb dX7_refinesOne_82 rfl (lv_at hl 4 rfl) ?_
                  refine va_get (D := g.1) (ci := 7) (v := .ref (ad 1)) (C := RX7) (T := TX7) (N := 26) hx hb hts (fun w h => List.mem_cons_of_mem _ (List.mem_append_right _ h)) hown hK hP 0 rfl rfl 1 (by decide) (hts (.fieldLink RX7 7 "PauseRegionsModel" "s" "[I") (List.mem_of_getElem? (i := 1) rfl)) (fun _ h9 => h9) rfl dX7_refinesOne_83 ?_
                  refine lv_sipush (v := 198) hx hb dX7_refinesOne_86 (by decide) ?_
                  refine lv_iconst (v := 4) hx hb dX7_refinesOne_89 (by decide) ?_
                  refine lv_aload_n hx hb dX7_refinesOne_90 rfl (lv_at hl 4 rfl) ?_
                  refine lv_iload hx hb dX7_refinesOne_91 (lv_at hl 0 rfl) ?_
                  refine lv_iconst (v := 1) hx hb dX7_refinesOne_93 (by decide) ?_
                  obtain ⟨x6, hc6, hst2⟩ := bn_some hst2
                  refine pcV (C := RX7) (As := [.int x4, .int 1]) (rest := [.int 4, .int 198, .ref (ad 1)]) ⟨hx, hb, hml, hown, hts⟩ hKK (cwV 2 hts gX7_refinesOne_X7_ofThing rfl rfl rfl hdX7_ofThing ⟨Nat.le_of_ble_eq_true rfl, Nat.le_of_ble_eq_true rfl⟩) (kX7_ofThing (l := l) (g := g) hP hc6) (va_recv hK hP (ci := 7) (q0 := 0) rfl rfl) rfl hl.1 rfl (Nat.le_of_ble_eq_true rfl) dX7_refinesOne_94 ⟨Nat.zero_le _, Nat.zero_le _⟩ ?_
                  refine lv_imul hx hb dX7_refinesOne_97 ?_
                  refine lv_iadd hx hb dX7_refinesOne_98 ?_
                  refine lv_iconst (v := 3) hx hb dX7_refinesOne_99 (by decide) ?_
                  refine lv_iadd hx hb dX7_refinesOne_100 ?_
                  refine lv_dup2_11 hx hb dX7_refinesOne_101 rfl rfl ?_
                  obtain ⟨h2, hst2⟩ := ck_some hst2
                  refine va_iald (D := g.1) hx hb hK hP 1 0 rfl rfl h2 dX7_refinesOne_102 ?_
                  refine lv_iconst (v := 1) hx hb dX7_refinesOne_103 (by decide) ?_
                  refine lv_iload_n hx hb dX7_refinesOne_104 rfl (lv_at hl 3 rfl) ?_
                  refine lv_ishl hx hb dX7_refinesOne_105 ?_
                  refine lv_ior hx hb dX7_refinesOne_106 ?_
                  obtain ⟨h3, hst2⟩ := ck_some hst2
                  refine va_iast (D := g.1) hx hb hK hP hD hS 1 0 rfl rfl h3 dX7_refinesOne_107 (fun H locs hP hD hS => ?_)
                  obtain ⟨A1, eA1, hst2⟩ := bd_some hst2
                  have hP : va_P g.1 vwCl (wM g ad A1 F) H := by rw [eA1]; exact hP
                  have hD : va_D Z (wM g ad A1 F) := by rw [eA1]; exact hD
                  refine lv_iinc (v := q2.1 + 1) (lv' := [(3, .int (q2.1 + 1)), (4, .int x4), (2, .int q1.1), (1, .int x1), (0, .ref (ad 0))]) hx hb dX7_refinesOne_108 hl (k := 1) rfl rfl (by decide) rfl (fun ls hl => ?_)
                  refine lv_goto (tgt := 30) hx hb dX7_refinesOne_111 (by decide) ?_
                  exact hin2 H locs ls _ (Option.some.inj hst2).symm hP hD hS (lv_sub hl [0, 2, 3, 4] rfl)
def sX7_pause_L0 (q1 : IA) : Option ((IA) ⊕ (IA)) :=
  if ((q1 1) (Int32.toNatClampNeg 258)) ≤ 0 then (some (.inr q1)) else ((sX7_refinesOne q1).bind fun z1 => some (.inl z1))
def sX7_pause_L30 (q3 : Int32 × IA) : Option ((Int32 × IA) ⊕ (IA)) :=
  if 10 ≤ q3.1 then (some (.inr q3.2)) else ((sX7_ofRegion q3.2 q3.1 0).bind fun x1 => if x1 = 1 then (bd (sc q3.2 23 ((q3.2 23 0) ||| (1 <<< (q3.1 &&& 31)))) fun A3 => some (.inl (q3.1 + 1, A3))) else (bd (sc q3.2 23 ((q3.2 23 0) ||| 0)) fun A2 => some (.inl (q3.1 + 1, A2))))
def sX7_pause_L95 (q5 : Int32 × IA) : Option ((Int32 × IA) ⊕ (IA)) :=
  if (q5.2 14 0) ≤ q5.1 then (some (.inr q5.2)) else (ck q5.1 32 ((sX7_copies q5.2 ((q5.2 15) q5.1.toNatClampNeg)).bind fun z4 => ck q5.1 32 ((sX7_ofThing z4 ((z4 15) q5.1.toNatClampNeg) 3).bind fun x2 => (sX7_finds z4 x2).bind fun z5 => ck q5.1 32 ((sX7_ofThing z5 ((z5 15) q5.1.toNatClampNeg) 4).bind fun x3 => (sX7_finds z5 x3).bind fun z6 => some (.inl (q5.1 + 1, z6))))))
def sX7_pause_L151 (q7 : Int32 × IA) : Option ((Int32 × IA) ⊕ (IA)) :=
  if (q7.2 14 0) ≤ q7.1 then (some (.inr q7.2)) else (ck q7.1 32 ((sX7_cardOf q7.2 ((q7.2 15) q7.1.toNatClampNeg)).bind fun x4 => (sX7_becomesDirty q7.2 x4).bind fun z7 => some (.inl (q7.1 + 1, z7))))
def sX7_pause_L181 (q9 : Int32 × IA) : Option ((Int32 × IA) ⊕ (IA)) :=
  if 20 ≤ q9.1 then (some (.inr q9.2)) else (if (((q9.2 18 0) >>> (q9.1 &&& 31)) &&& 1) = 1 then ((sX7_becomesDirty q9.2 q9.1).bind fun z8 => some (.inl (q9.1 + 1, z8))) else (some (.inl (q9.1 + 1, q9.2))))
def sX7_pause (A : IA) (Fc : FA) (p0 : Int32) : Option (Int32 × IA × FA) :=
  (loopN (sX7_pause_L0) 2000 A).bind fun q2 => (sX7_laysChosen q2 Fc p0).bind fun z2 => bd (sc z2.1 23 0) fun A1 => (loopN (sX7_pause_L30) 2000 (0, A1)).bind fun q4 => (sX7_findsFirst q4).bind fun z3 => bd (sc z3 19 (-9)) fun A4 => bd (sc A4 20 0) fun A5 => bd (sc A5 21 0) fun A6 => bd (sc A6 22 0) fun A7 => (loopN (sX7_pause_L95) 2000 (0, A7)).bind fun q6 => (loopN (sX7_pause_L151) 2000 (0, q6)).bind fun q8 => (loopN (sX7_pause_L181) 2000 (0, q8)).bind fun q10 => (sX7_empties q10).bind fun z9 => (sX7_ones (z9 18 0)).bind fun x5 => bd (((10 + (z9 21 0)) + (2 * x5)) + (5 * (z9 22 0))) fun x6 => (sX7_learns z9 z2.2 x6).bind fun z10 => bd (wr z10.1 1 (Int32.toNatClampNeg 293) (((z10.1 1) (Int32.toNatClampNeg 293)) + 1)) fun A8 => bd (wr A8 1 (Int32.toNatClampNeg 294) x6) fun A9 => bd (wr A9 1 (Int32.toNatClampNeg 295) (-9)) fun A10 => some (x6, A10, z10.2)
abbrev rmX7_pause : Room := { frames := 5, cells := 0, slots := 0, locals := 112 }
theorem hdX7_pause : yX7_pause.cls = RX7 ∧ yX7_pause.cls ≠ "java/lang/invoke/MethodHandle" ∧ yX7_pause.cls ≠ "java/lang/invoke/VarHandle" ∧ (parseMethodDescriptor yX7_pause.desc).map (fun d => d.parameters.length) = some 1 := by decide +kernel
set_option maxHeartbeats 4000000 in
set_option maxRecDepth 100000 in
theorem kX7_pause {l : Launch} {g : GG} {sz : Nat} {ad : Nat → Nat} {A : IA} {F : FA} {p0 : Int32} {Fc : FA} (hAL : AL F Fc) {b : Int32 × IA × FA} (hsem : sX7_pause A Fc p0 = some b) : MetDI l yX7_pause wsX7_pause rmX7_pause g [.ref (ad 0), .int p0] (wM g ad A F) sz b.1 (φ := FA) (fun u => AL u b.2.2) (fun u => wM g ad b.2.1 u) := by
  refine MetD.ofW (cc := cX7_pause) (maxL := 3) (ret := (some .int)) (by decide) rfl ?_
  intro p e s m args below meth c s₁ B hml hv hdr
  obtain ⟨rfl, hsz, hP, hD0, hKK⟩ := hv
  subst hsz
  have hx := B.exec
  have hb := B.bytes
  have hr := B.returns
  have hts := atoms_spec (ws := wsX7_pause) B.pre
  have hown : ∀ d, (s.setDrawn d).vm.findClass RX7 = some m.cls := fun _ => findClass_of_methodNamed B.named
  have hlocks := B.notSynchronized
  have hK : ∀ d, va_K g.1 vwCl (KT g) (s.setDrawn d) := fun d => (hKK.drawn d).1
  have hD := hD0.self (sz := s.heap.size)
  generalize hZe : va_A (wM g ad A F) s.heap.size = Z at hD ⊢
  have hZ : ∀ q : Nat, s.heap.size ≤ q → Z q := fun q h => by rw [← hZe]; exact Or.inr h
  have hS : va_S Z s.heap s.heap [] := va_S.rf
  have hP : va_P g.1 vwCl (wM g ad A F) s.heap := hP
  have hD : va_D Z (wM g ad A F) := hD
  obtain ⟨d, hdr, hdd⟩ : ∃ d, s.drawn.sameBut d lw_cs ∧ s.drawn = d := ⟨_, hdr, rfl⟩
  rw [hdd]
  have hl := lv_entry ([.ref (ad 0), .int p0]) (n := 3) (Nat.le_of_ble_eq_true rfl)
  rw [lg_entry_eq]
  generalize (lg_sl ([.ref (ad 0), .int p0]) ++ List.replicate (3 - (lg_sl ([.ref (ad 0), .int p0])).length) Slot.unset).toArray = ls at hl ⊢
  have hl : lv_has ls 3 [(0, .ref (ad 0)), (1, .int p0)] := hl
  unfold sX7_pause at hsem
  obtain ⟨q2, hc2, hsem⟩ := bn_some hsem
  refine loopMD (g := g) hdr hc2 (fun (q1 : IA) => [(0, .ref (ad 0)), (1, .int p0)]) (fun (q1 : IA) => [(0, .ref (ad 0)), (1, .int p0)]) (exit := 18) (fun (q1 : IA) (fz1 : Unit) => wM g ad q1 F) (fun (q1 : IA) (fz1 : Unit) => wM g ad q1 F) (fun (_ : IA) (_ : Unit) => True) (fun (_ : IA) (_ : Unit) => True) () trivial hP hD hS (lv_sub hl [0, 1] rfl) (fun d H locs ls fz1 hdr hrfz1 hP hD hS hl => ?_) (fun q1 r hst1 hin1 hout1 d H locs ls fz1 hdr hrfz1 hP hD hS hl => ?_)
  · have hP : va_P g.1 vwCl (wM g ad q2 F) H := hP
    have hD : va_D Z (wM g ad q2 F) := hD
    refine lv_aload_n hx hb dX7_pause_18 rfl (lv_at hl 0 rfl) ?_
    refine lv_iload_n hx hb dX7_pause_19 rfl (lv_at hl 1 rfl) ?_
    obtain ⟨z2, hc3, hsem⟩ := bn_some hsem
    refine dcV (C := RX7) (As := [.int p0]) (rest := []) hdr ⟨hx, hb, hml, (hown d), (dr_words hts d)⟩ (hKK.drawn d) hP hD hS hZ (cwV 1 (dr_words hts d) gX7_pause_X7_laysChosen rfl rfl rfl hdX7_laysChosen ⟨Nat.le_of_ble_eq_true rfl, Nat.le_of_ble_eq_true rfl⟩) (kX7_laysChosen (l := l) (g := g) (ad := ad) (A := q2) (F := F) (Fc := Fc) hAL hc3) (va_recv (hK d) hP (ci := 7) (q0 := 0) rfl rfl) rfl hl.1 rfl (Nat.le_of_ble_eq_true rfl) dX7_pause_20 ⟨Nat.zero_le _, Nat.zero_le _⟩ (fun u1 H locs d hpo hP hD hS hdr => ?_)
    have hq1 := hpo
    have hP : va_P g.1 vwCl (wM g ad z2.1 u1) H := hP
    have hD : va_D Z (wM g ad z2.1 u1) := hD
    refine lv_aload_n hx hb dX7_pause_23 rfl (lv_at hl 0 rfl) ?_
    refine lv_iconst (v := 0) hx hb dX7_pause_24 (by decide) ?_
    refine va_put (D := g.1) (ci := 7) (v := .int 0) (ty := .int) (C := RX7) (T := TX7) (N := 26) hx hb (dr_words hts d) (fun w h => List.mem_cons_of_mem _ (List.mem_append_right _ h)) tyX7 tyX7_ok nmX7 (hown d) (hK d) hP hD hS 0 rfl rfl 23 (by decide) ((dr_words hts d) (.fieldLink RX7 196 "PauseRegionsModel" "youngs" "I") (List.mem_of_getElem? (i := 2) rfl)) (fun _ h9 => h9) rfl (by decide +kernel) rfl rfl (Nat.le_of_ble_eq_true rfl) dX7_pause_25 (fun H locs hP hD hS => ?_)
    obtain ⟨A1, eA1, hsem⟩ := bd_some hsem
    have hP : va_P g.1 vwCl (wM g ad A1 u1) H := by rw [eA1]; exact hP
    have hD : va_D Z (wM g ad A1 u1) := by rw [eA1]; exact hD
    refine lv_iconst (v := 0) hx hb dX7_pause_28 (by decide) ?_
    refine lv_istore_n (lv' := [(2, .int 0), (0, .ref (ad 0)), (1, .int p0)]) hx hb dX7_pause_29 rfl hl (by decide) rfl (fun ls hl => ?_)
    obtain ⟨q4, hc5, hsem⟩ := bn_some hsem
    refine loopMD (g := g) hdr hc5 (fun (q3 : Int32 × IA) => [(2, .int q3.1), (0, .ref (ad 0))]) (fun (q3 : IA) => [(0, .ref (ad 0))]) (exit := 68) (fun (q3 : Int32 × IA) (fz2 : Unit) => wM g ad q3.2 u1) (fun (q3 : IA) (fz2 : Unit) => wM g ad q3 u1) (fun (_ : Int32 × IA) (_ : Unit) => True) (fun (_ : IA) (_ : Unit) => True) () trivial hP hD hS (lv_sub hl [0, 1] rfl) (fun d H locs ls fz2 hdr hrfz2 hP hD hS hl => ?_) (fun q3 r hst1 hin1 hout1 d H locs ls fz2 hdr hrfz2 hP hD hS hl => ?_)
    · have hP : va_P g.1 vwCl (wM g ad q4 u1) H := hP
      have hD : va_D Z (wM g ad q4 u1) := hD
      refine lv_aload_n hx hb dX7_pause_68 rfl (lv_at hl 0 rfl) ?_
      obtain ⟨z3, hc6, hsem⟩ := bn_some hsem
      refine mcV (C := RX7) (As := []) (rest := []) ⟨hx, hb, hml, (hown d), (dr_words hts d)⟩ (hKK.drawn d) hP hD hS hZ (cwV 0 (dr_words hts d) gX7_pause_X7_findsFirst rfl rfl rfl hdX7_findsFirst ⟨Nat.le_of_ble_eq_true rfl, Nat.le_of_ble_eq_true rfl⟩) (kX7_findsFirst (l := l) (g := g) (ad := ad) (A := q4) (F := u1) hc6) (va_recv (hK d) hP (ci := 7) (q0 := 0) rfl rfl) rfl hl.1 rfl (Nat.le_of_ble_eq_true rfl) dX7_pause_69 ⟨Nat.zero_le _, Nat.zero_le _⟩ (fun H locs hP hD hS => ?_)
      have hP : va_P g.1 vwCl (wM g ad z3 u1) H := hP
      have hD : va_D Z (wM g ad z3 u1) := hD
      refine lv_aload_n hx hb dX7_pause_72 rfl (lv_at hl 0 rfl) ?_
      refine lv_bipush (v := (-9)) hx hb dX7_pause_73 (by decide) ?_
      refine va_put (D := g.1) (ci := 7) (v := .int (-9)) (ty := .int) (C := RX7) (T := TX7) (N := 26) hx hb (dr_words hts d) (fun w h => List.mem_cons_of_mem _ (List.mem_append_right _ h)) tyX7 tyX7_ok nmX7 (hown d) (hK d) hP hD hS 0 rfl rfl 19 (by decide) ((dr_words hts d) (.fieldLink RX7 181 "PauseRegionsModel" "into" "I") (List.mem_of_getElem? (i := 3) rfl)) (fun _ h9 => h9) rfl (by decide +kernel) rfl rfl (Nat.le_of_ble_eq_true rfl) dX7_pause_75 (fun H locs hP hD hS => ?_)
      obtain ⟨A4, eA4, hsem⟩ := bd_some hsem
      have hP : va_P g.1 vwCl (wM g ad A4 u1) H := by rw [eA4]; exact hP
      have hD : va_D Z (wM g ad A4 u1) := by rw [eA4]; exact hD
      refine lv_aload_n hx hb dX7_pause_78 rfl (lv_at hl 0 rfl) ?_
      refine lv_iconst (v := 0) hx hb dX7_pause_79 (by decide) ?_
      refine va_put (D := g.1) (ci := 7) (v := .int 0) (ty := .int) (C := RX7) (T := TX7) (N := 26) hx hb (dr_words hts d) (fun w h => List.mem_cons_of_mem _ (List.mem_append_right _ h)) tyX7 tyX7_ok nmX7 (hown d) (hK d) hP hD hS 0 rfl rfl 20 (by decide) ((dr_words hts d) (.fieldLink RX7 184 "PauseRegionsModel" "stay" "I") (List.mem_of_getElem? (i := 4) rfl)) (fun _ h9 => h9) rfl (by decide +kernel) rfl rfl (Nat.le_of_ble_eq_true rfl) dX7_pause_80 (fun H locs hP hD hS => ?_)
      obtain ⟨A5, eA5, hsem⟩ := bd_some hsem
      have hP : va_P g.1 vwCl (wM g ad A5 u1) H := by rw [eA5]; exact hP
      have hD : va_D Z (wM g ad A5 u1) := by rw [eA5]; exact hD
      refine lv_aload_n hx hb dX7_pause_83 rfl (lv_at hl 0 rfl) ?_
      refine lv_iconst (v := 0) hx hb dX7_pause_84 (by decide) ?_
      refine va_put (D := g.1) (ci := 7) (v := .int 0) (ty := .int) (C := RX7) (T := TX7) (N := 26) hx hb (dr_words hts d) (fun w h => List.mem_cons_of_mem _ (List.mem_append_right _ h)) tyX7 tyX7_ok nmX7 (hown d) (hK d) hP hD hS 0 rfl rfl 21 (by decide) ((dr_words hts d) (.fieldLink RX7 190 "PauseRegionsModel" "copied" "I") (List.mem_of_getElem? (i := 5) rfl)) (fun _ h9 => h9) rfl (by decide +kernel) rfl rfl (Nat.le_of_ble_eq_true rfl) dX7_pause_85 (fun H locs hP hD hS => ?_)
      obtain ⟨A6, eA6, hsem⟩ := bd_some hsem
      have hP : va_P g.1 vwCl (wM g ad A6 u1) H := by rw [eA6]; exact hP
      have hD : va_D Z (wM g ad A6 u1) := by rw [eA6]; exact hD
      refine lv_aload_n hx hb dX7_pause_88 rfl (lv_at hl 0 rfl) ?_
      refine lv_iconst (v := 0) hx hb dX7_pause_89 (by decide) ?_
      refine va_put (D := g.1) (ci := 7) (v := .int 0) (ty := .int) (C := RX7) (T := TX7) (N := 26) hx hb (dr_words hts d) (fun w h => List.mem_cons_of_mem _ (List.mem_append_right _ h)) tyX7 tyX7_ok nmX7 (hown d) (hK d) hP hD hS 0 rfl rfl 22 (by decide) ((dr_words hts d) (.fieldLink RX7 187 "PauseRegionsModel" "stays" "I") (List.mem_of_getElem? (i := 6) rfl)) (fun _ h9 => h9) rfl (by decide +kernel) rfl rfl (Nat.le_of_ble_eq_true rfl) dX7_pause_90 (fun H locs hP hD hS => ?_)
      obtain ⟨A7, eA7, hsem⟩ := bd_some hsem
      have hP : va_P g.1 vwCl (wM g ad A7 u1) H := by rw [eA7]; exact hP
      have hD : va_D Z (wM g ad A7 u1) := by rw [eA7]; exact hD
      refine lv_iconst (v := 0) hx hb dX7_pause_93 (by decide) ?_
      refine lv_istore_n (lv' := [(2, .int 0), (0, .ref (ad 0))]) hx hb dX7_pause_94 rfl hl (by decide) rfl (fun ls hl => ?_)
      obtain ⟨q6, hc12, hsem⟩ := bn_some hsem
      refine loopMD (g := g) hdr hc12 (fun (q5 : Int32 × IA) => [(2, .int q5.1), (0, .ref (ad 0))]) (fun (q5 : IA) => [(0, .ref (ad 0))]) (exit := 149) (fun (q5 : Int32 × IA) (fz3 : Unit) => wM g ad q5.2 u1) (fun (q5 : IA) (fz3 : Unit) => wM g ad q5 u1) (fun (_ : Int32 × IA) (_ : Unit) => True) (fun (_ : IA) (_ : Unit) => True) () trivial hP hD hS (lv_sub hl [0, 1] rfl) (fun d H locs ls fz3 hdr hrfz3 hP hD hS hl => ?_) (fun q5 r hst1 hin1 hout1 d H locs ls fz3 hdr hrfz3 hP hD hS hl => ?_)
      · have hP : va_P g.1 vwCl (wM g ad q6 u1) H := hP
        have hD : va_D Z (wM g ad q6 u1) := hD
        refine lv_iconst (v := 0) hx hb dX7_pause_149 (by decide) ?_
        refine lv_istore_n (lv' := [(2, .int 0), (0, .ref (ad 0))]) hx hb dX7_pause_150 rfl hl (by decide) rfl (fun ls hl => ?_)
        obtain ⟨q8, hc15, hsem⟩ := bn_some hsem
        refine loopMD (g := g) hdr hc15 (fun (q7 : Int32 × IA) => [(2, .int q7.1), (0, .ref (ad 0))]) (fun (q7 : IA) => [(0, .ref (ad 0))]) (exit := 179) (fun (q7 : Int32 × IA) (fz4 : Unit) => wM g ad q7.2 u1) (fun (q7 : IA) (fz4 : Unit) => wM g ad q7 u1) (fun (_ : Int32 × IA) (_ : Unit) => True) (fun (_ : IA) (_ : Unit) => True) () trivial hP hD hS (lv_sub hl [0, 1] rfl) (fun d H locs ls fz4 hdr hrfz4 hP hD hS hl => ?_) (fun q7 r hst1 hin1 hout1 d H locs ls fz4 hdr hrfz4 hP hD hS hl => ?_)
        · have hP : va_P g.1 vwCl (wM g ad q8 u1) H := hP
          have hD : va_D Z (wM g ad q8 u1) := hD
          refine lv_iconst (v := 0) hx hb dX7_pause_179 (by decide) ?_
          refine lv_istore_n (lv' := [(2, .int 0), (0, .ref (ad 0))]) hx hb dX7_pause_180 rfl hl (by decide) rfl (fun ls hl => ?_)
          obtain ⟨q10, hc17, hsem⟩ := bn_some hsem
          refine loopMD (g := g) hdr hc17 (fun (q9 : Int32 × IA) => [(2, .int q9.1), (0, .ref (ad 0))]) (fun (q9 : IA) => [(0, .ref (ad 0))]) (exit := 210) (fun (q9 : Int32 × IA) (fz5 : Unit) => wM g ad q9.2 u1) (fun (q9 : IA) (fz5 : Unit) => wM g ad q9 u1) (fun (_ : Int32 × IA) (_ : Unit) => True) (fun (_ : IA) (_ : Unit) => True) () trivial hP hD hS (lv_sub hl [0, 1] rfl) (fun d H locs ls fz5 hdr hrfz5 hP hD hS hl => ?_) (fun q9 r hst1 hin1 hout1 d H locs ls fz5 hdr hrfz5 hP hD hS hl => ?_)
          · have hP : va_P g.1 vwCl (wM g ad q10 u1) H := hP
            have hD : va_D Z (wM g ad q10 u1) := hD
            refine lv_aload_n hx hb dX7_pause_210 rfl (lv_at hl 0 rfl) ?_
            obtain ⟨z9, hc18, hsem⟩ := bn_some hsem
            refine mcV (C := RX7) (As := []) (rest := []) ⟨hx, hb, hml, (hown d), (dr_words hts d)⟩ (hKK.drawn d) hP hD hS hZ (cwV 0 (dr_words hts d) gX7_pause_X7_empties rfl rfl rfl hdX7_empties ⟨Nat.le_of_ble_eq_true rfl, Nat.le_of_ble_eq_true rfl⟩) (kX7_empties (l := l) (g := g) (ad := ad) (A := q10) (F := u1) hc18) (va_recv (hK d) hP (ci := 7) (q0 := 0) rfl rfl) rfl hl.1 rfl (Nat.le_of_ble_eq_true rfl) dX7_pause_211 ⟨Nat.zero_le _, Nat.zero_le _⟩ (fun H locs hP hD hS => ?_)
            have hP : va_P g.1 vwCl (wM g ad z9 u1) H := hP
            have hD : va_D Z (wM g ad z9 u1) := hD
            refine lv_bipush (v := 10) hx hb dX7_pause_214 (by decide) ?_
            refine lv_aload_n hx hb dX7_pause_216 rfl (lv_at hl 0 rfl) ?_
            refine va_get (D := g.1) (ci := 7) (v := .int (z9 21 0)) (C := RX7) (T := TX7) (N := 26) hx hb (dr_words hts d) (fun w h => List.mem_cons_of_mem _ (List.mem_append_right _ h)) (hown d) (hK d) hP 0 rfl rfl 21 (by decide) ((dr_words hts d) (.fieldLink RX7 190 "PauseRegionsModel" "copied" "I") (List.mem_of_getElem? (i := 5) rfl)) (fun _ h9 => h9) rfl dX7_pause_217 ?_
            refine lv_iadd hx hb dX7_pause_220 ?_
            refine lv_iconst (v := 2) hx hb dX7_pause_221 (by decide) ?_
            refine lv_aload_n hx hb dX7_pause_222 rfl (lv_at hl 0 rfl) ?_
            refine va_get (D := g.1) (ci := 7) (v := .int (z9 18 0)) (C := RX7) (T := TX7) (N := 26) hx hb (dr_words hts d) (fun w h => List.mem_cons_of_mem _ (List.mem_append_right _ h)) (hown d) (hK d) hP 0 rfl rfl 18 (by decide) ((dr_words hts d) (.fieldLink RX7 175 "PauseRegionsModel" "scanned" "I") (List.mem_of_getElem? (i := 9) rfl)) (fun _ h9 => h9) rfl dX7_pause_223 ?_
            obtain ⟨x5, hc19, hsem⟩ := bn_some hsem
            refine pcS (As := [.int (z9 18 0)]) (rest := [.int 2, .int (10 + (z9 21 0))]) ⟨hx, hb, hml, (hown d), (dr_words hts d)⟩ (hKK.drawn d) (va_cwS 1 (dr_words hts d) gX7_pause_X7_ones rfl rfl rfl hdX7_ones ⟨Nat.le_of_ble_eq_true rfl, Nat.le_of_ble_eq_true rfl⟩) (kX7_ones (l := l) (g := g) hc19) rfl hl.1 rfl (Nat.le_of_ble_eq_true rfl) dX7_pause_226 ⟨Nat.zero_le _, Nat.zero_le _⟩ ?_
            refine lv_imul hx hb dX7_pause_229 ?_
            refine lv_iadd hx hb dX7_pause_230 ?_
            refine lv_iconst (v := 5) hx hb dX7_pause_231 (by decide) ?_
            refine lv_aload_n hx hb dX7_pause_232 rfl (lv_at hl 0 rfl) ?_
            refine va_get (D := g.1) (ci := 7) (v := .int (z9 22 0)) (C := RX7) (T := TX7) (N := 26) hx hb (dr_words hts d) (fun w h => List.mem_cons_of_mem _ (List.mem_append_right _ h)) (hown d) (hK d) hP 0 rfl rfl 22 (by decide) ((dr_words hts d) (.fieldLink RX7 187 "PauseRegionsModel" "stays" "I") (List.mem_of_getElem? (i := 6) rfl)) (fun _ h9 => h9) rfl dX7_pause_233 ?_
            refine lv_imul hx hb dX7_pause_236 ?_
            refine lv_iadd hx hb dX7_pause_237 ?_
            obtain ⟨x6, ex6, hsem⟩ := bd_some hsem
            rw [← ex6]
            refine lv_istore_n (lv' := [(2, .int x6), (0, .ref (ad 0))]) hx hb dX7_pause_238 rfl hl (by decide) rfl (fun ls hl => ?_)
            refine lv_aload_n hx hb dX7_pause_239 rfl (lv_at hl 1 rfl) ?_
            refine lv_iload_n hx hb dX7_pause_240 rfl (lv_at hl 0 rfl) ?_
            obtain ⟨z10, hc20, hsem⟩ := bn_some hsem
            refine dcV (C := RX7) (As := [.int x6]) (rest := []) hdr ⟨hx, hb, hml, (hown d), (dr_words hts d)⟩ (hKK.drawn d) hP hD hS hZ (cwV 1 (dr_words hts d) gX7_pause_X7_learns rfl rfl rfl hdX7_learns ⟨Nat.le_of_ble_eq_true rfl, Nat.le_of_ble_eq_true rfl⟩) (kX7_learns (l := l) (g := g) (ad := ad) (A := z9) (F := u1) (Fc := z2.2) hq1 hc20) (va_recv (hK d) hP (ci := 7) (q0 := 0) rfl rfl) rfl hl.1 rfl (Nat.le_of_ble_eq_true rfl) dX7_pause_241 ⟨Nat.zero_le _, Nat.zero_le _⟩ (fun u2 H locs d hpo hP hD hS hdr => ?_)
            have hq2 := hpo
            have hP : va_P g.1 vwCl (wM g ad z10.1 u2) H := hP
            have hD : va_D Z (wM g ad z10.1 u2) := hD
            refine lv_aload_n hx hb dX7_pause_244 rfl (lv_at hl 1 rfl) ?_
            refine va_get (D := g.1) (ci := 7) (v := .ref (ad 1)) (C := RX7) (T := TX7) (N := 26) hx hb (dr_words hts d) (fun w h => List.mem_cons_of_mem _ (List.mem_append_right _ h)) (hown d) (hK d) hP 0 rfl rfl 1 (by decide) ((dr_words hts d) (.fieldLink RX7 7 "PauseRegionsModel" "s" "[I") (List.mem_of_getElem? (i := 1) rfl)) (fun _ h9 => h9) rfl dX7_pause_245 ?_
            refine lv_sipush (v := 293) hx hb dX7_pause_248 (by decide) ?_
            refine lv_dup2_11 hx hb dX7_pause_251 rfl rfl ?_
            have h6 : vp_in 293 296 := inb_vp rfl
            refine va_iald (D := g.1) hx hb (hK d) hP 1 0 rfl rfl h6 dX7_pause_252 ?_
            refine lv_iconst (v := 1) hx hb dX7_pause_253 (by decide) ?_
            refine lv_iadd hx hb dX7_pause_254 ?_
            have h7 : vp_in 293 296 := inb_vp rfl
            refine va_iast (D := g.1) hx hb (hK d) hP hD hS 1 0 rfl rfl h7 dX7_pause_255 (fun H locs hP hD hS => ?_)
            obtain ⟨A8, eA8, hsem⟩ := bd_some hsem
            have hP : va_P g.1 vwCl (wM g ad A8 u2) H := by rw [eA8]; exact hP
            have hD : va_D Z (wM g ad A8 u2) := by rw [eA8]; exact hD
            refine lv_aload_n hx hb dX7_pause_256 rfl (lv_at hl 1 rfl) ?_
            refine va_get (D := g.1) (ci := 7) (v := .ref (ad 1)) (C := RX7) (T := TX7) (N := 26) hx hb (dr_words hts d) (fun w h => List.mem_cons_of_mem _ (List.mem_append_right _ h)) (hown d) (hK d) hP 0 rfl rfl 1 (by decide) ((dr_words hts d) (.fieldLink RX7 7 "PauseRegionsModel" "s" "[I") (List.mem_of_getElem? (i := 1) rfl)) (fun _ h9 => h9) rfl dX7_pause_257 ?_
            refine lv_sipush (v := 294) hx hb dX7_pause_260 (by decide) ?_
            refine lv_iload_n hx hb dX7_pause_263 rfl (lv_at hl 0 rfl) ?_
            have h8 : vp_in 294 296 := inb_vp rfl
            refine va_iast (D := g.1) hx hb (hK d) hP hD hS 1 0 rfl rfl h8 dX7_pause_264 (fun H locs hP hD hS => ?_)
            obtain ⟨A9, eA9, hsem⟩ := bd_some hsem
            have hP : va_P g.1 vwCl (wM g ad A9 u2) H := by rw [eA9]; exact hP
            have hD : va_D Z (wM g ad A9 u2) := by rw [eA9]; exact hD
            refine lv_aload_n hx hb dX7_pause_265 rfl (lv_at hl 1 rfl) ?_
            refine va_get (D := g.1) (ci := 7) (v := .ref (ad 1)) (C := RX7) (T := TX7) (N := 26) hx hb (dr_words hts d) (fun w h => List.mem_cons_of_mem _ (List.mem_append_right _ h)) (hown d) (hK d) hP 0 rfl rfl 1 (by decide) ((dr_words hts d) (.fieldLink RX7 7 "PauseRegionsModel" "s" "[I") (List.mem_of_getElem? (i := 1) rfl)) (fun _ h9 => h9) rfl dX7_pause_266 ?_
            refine lv_sipush (v := 295) hx hb dX7_pause_269 (by decide) ?_
            refine lv_bipush (v := (-9)) hx hb dX7_pause_272 (by decide) ?_
            have h9 : vp_in 295 296 := inb_vp rfl
            refine va_iast (D := g.1) hx hb (hK d) hP hD hS 1 0 rfl rfl h9 dX7_pause_274 (fun H locs hP hD hS => ?_)
            obtain ⟨A10, eA10, hsem⟩ := bd_some hsem
            have hP : va_P g.1 vwCl (wM g ad A10 u2) H := by rw [eA10]; exact hP
            have hD : va_D Z (wM g ad A10 u2) := by rw [eA10]; exact hD
            refine lv_iload_n hx hb dX7_pause_275 rfl (lv_at hl 0 rfl) ?_
            have eo := (Option.some.inj hsem).symm.symm
            refine W.endD hdr ?_
            subst eo
            exact W.iret (v := x6) hx hb hr (fun t ht hW => ⟨⟨_, u2, rfl, ⟨rfl, hq2⟩, ⟨by rw [ht]; exact hP, hD⟩⟩, hS.F ht⟩) hS.2.2 dX7_pause_276
          · unfold sX7_pause_L181 at hst1
            have hP : va_P g.1 vwCl (wM g ad q9.2 u1) H := hP
            have hD : va_D Z (wM g ad q9.2 u1) := hD
            refine lv_iload_n hx hb dX7_pause_181 rfl (lv_at hl 0 rfl) ?_
            refine lv_bipush (v := 20) hx hb dX7_pause_182 (by decide) ?_
            refine lv_icmp_ge (tgt := 210) hx hb dX7_pause_184 (by decide) (fun c6 => ?_) (fun c6 => ?_)
            · rw [if_pos c6] at hst1
              exact hout1 _ H locs ls () _ (Option.some.inj hst1).symm hdr trivial hP hD hS (lv_sub hl [1] rfl)
            · rw [if_neg c6] at hst1
              refine lv_aload_n hx hb dX7_pause_187 rfl (lv_at hl 1 rfl) ?_
              refine va_get (D := g.1) (ci := 7) (v := .int (q9.2 18 0)) (C := RX7) (T := TX7) (N := 26) hx hb (dr_words hts d) (fun w h => List.mem_cons_of_mem _ (List.mem_append_right _ h)) (hown d) (hK d) hP 0 rfl rfl 18 (by decide) ((dr_words hts d) (.fieldLink RX7 175 "PauseRegionsModel" "scanned" "I") (List.mem_of_getElem? (i := 9) rfl)) (fun _ h9 => h9) rfl dX7_pause_188 ?_
              refine lv_iload_n hx hb dX7_pause_191 rfl (lv_at hl 0 rfl) ?_
              refine lv_ishr hx hb dX7_pause_192 ?_
              refine lv_iconst (v := 1) hx hb dX7_pause_193 (by decide) ?_
              refine lv_iand hx hb dX7_pause_194 ?_
              refine lv_iconst (v := 1) hx hb dX7_pause_195 (by decide) ?_
              refine lv_icmp_ne (tgt := 204) hx hb dX7_pause_196 (by decide) (fun c7 => ?_) (fun c7 => ?_)
              · rw [if_neg c7] at hst1
                refine lv_iinc (v := q9.1 + 1) (lv' := [(2, .int (q9.1 + 1)), (0, .ref (ad 0))]) hx hb dX7_pause_204 hl (k := 0) rfl rfl (by decide) rfl (fun ls hl => ?_)
                refine lv_goto (tgt := 181) hx hb dX7_pause_207 (by decide) ?_
                exact hin1 _ H locs ls () _ (Option.some.inj hst1).symm hdr trivial hP hD hS (lv_sub hl [0, 1] rfl)
              · rw [if_pos c7] at hst1
                refine lv_aload_n hx hb dX7_pause_199 rfl (lv_at hl 1 rfl) ?_
                refine lv_iload_n hx hb dX7_pause_200 rfl (lv_at hl 0 rfl) ?_
                obtain ⟨z8, hc16, hst1⟩ := bn_some hst1
                refine mcV (C := RX7) (As := [.int q9.1]) (rest := []) ⟨hx, hb, hml, (hown d), (dr_words hts d)⟩ (hKK.drawn d) hP hD hS hZ (cwV 1 (dr_words hts d) gX7_pause_X7_becomesDirty rfl rfl rfl hdX7_becomesDirty ⟨Nat.le_of_ble_eq_true rfl, Nat.le_of_ble_eq_true rfl⟩) (kX7_becomesDirty (l := l) (g := g) (ad := ad) (A := q9.2) (F := u1) hc16) (va_recv (hK d) hP (ci := 7) (q0 := 0) rfl rfl) rfl hl.1 rfl (Nat.le_of_ble_eq_true rfl) dX7_pause_201 ⟨Nat.zero_le _, Nat.zero_le _⟩ (fun H locs hP hD hS => ?_)
                have hP : va_P g.1 vwCl (wM g ad z8 u1) H := hP
                have hD : va_D Z (wM g ad z8 u1) := hD
                refine lv_iinc (v := q9.1 + 1) (lv' := [(2, .int (q9.1 + 1)), (0, .ref (ad 0))]) hx hb dX7_pause_204 hl (k := 0) rfl rfl (by decide) rfl (fun ls hl => ?_)
                refine lv_goto (tgt := 181) hx hb dX7_pause_207 (by decide) ?_
                exact hin1 _ H locs ls () _ (Option.some.inj hst1).symm hdr trivial hP hD hS (lv_sub hl [0, 1] rfl)
        · unfold sX7_pause_L151 at hst1
          have hP : va_P g.1 vwCl (wM g ad q7.2 u1) H := hP
          have hD : va_D Z (wM g ad q7.2 u1) := hD
          refine lv_iload_n hx hb dX7_pause_151 rfl (lv_at hl 0 rfl) ?_
          refine lv_aload_n hx hb dX7_pause_152 rfl (lv_at hl 1 rfl) ?_
          refine va_get (D := g.1) (ci := 7) (v := .int (q7.2 14 0)) (C := RX7) (T := TX7) (N := 26) hx hb (dr_words hts d) (fun w h => List.mem_cons_of_mem _ (List.mem_append_right _ h)) (hown d) (hK d) hP 0 rfl rfl 14 (by decide) ((dr_words hts d) (.fieldLink RX7 166 "PauseRegionsModel" "found" "I") (List.mem_of_getElem? (i := 7) rfl)) (fun _ h9 => h9) rfl dX7_pause_153 ?_
          refine lv_icmp_ge (tgt := 179) hx hb dX7_pause_156 (by decide) (fun c5 => ?_) (fun c5 => ?_)
          · rw [if_pos c5] at hst1
            exact hout1 _ H locs ls () _ (Option.some.inj hst1).symm hdr trivial hP hD hS (lv_sub hl [1] rfl)
          · rw [if_neg c5] at hst1
            refine lv_aload_n hx hb dX7_pause_159 rfl (lv_at hl 1 rfl) ?_
            refine lv_aload_n hx hb dX7_pause_160 rfl (lv_at hl 1 rfl) ?_
            refine lv_aload_n hx hb dX7_pause_161 rfl (lv_at hl 1 rfl) ?_
            refine va_get (D := g.1) (ci := 7) (v := .ref (ad 10)) (C := RX7) (T := TX7) (N := 26) hx hb (dr_words hts d) (fun w h => List.mem_cons_of_mem _ (List.mem_append_right _ h)) (hown d) (hK d) hP 0 rfl rfl 15 (by decide) ((dr_words hts d) (.fieldLink RX7 39 "PauseRegionsModel" "row" "[I") (List.mem_of_getElem? (i := 8) rfl)) (fun _ h9 => h9) rfl dX7_pause_162 ?_
            refine lv_iload_n hx hb dX7_pause_165 rfl (lv_at hl 0 rfl) ?_
            obtain ⟨h5, hst1⟩ := ck_some hst1
            refine va_iald (D := g.1) hx hb (hK d) hP 10 0 rfl rfl h5 dX7_pause_166 ?_
            obtain ⟨x4, hc13, hst1⟩ := bn_some hst1
            refine pcV (C := RX7) (As := [.int ((q7.2 15) q7.1.toNatClampNeg)]) (rest := [.ref (ad 0)]) ⟨hx, hb, hml, (hown d), (dr_words hts d)⟩ (hKK.drawn d) (cwV 1 (dr_words hts d) gX7_pause_X7_cardOf rfl rfl rfl hdX7_cardOf ⟨Nat.le_of_ble_eq_true rfl, Nat.le_of_ble_eq_true rfl⟩) (kX7_cardOf (l := l) (g := g) hP hc13) (va_recv (hK d) hP (ci := 7) (q0 := 0) rfl rfl) rfl hl.1 rfl (Nat.le_of_ble_eq_true rfl) dX7_pause_167 ⟨Nat.zero_le _, Nat.zero_le _⟩ ?_
            obtain ⟨z7, hc14, hst1⟩ := bn_some hst1
            refine mcV (C := RX7) (As := [.int x4]) (rest := []) ⟨hx, hb, hml, (hown d), (dr_words hts d)⟩ (hKK.drawn d) hP hD hS hZ (cwV 1 (dr_words hts d) gX7_pause_X7_becomesDirty rfl rfl rfl hdX7_becomesDirty ⟨Nat.le_of_ble_eq_true rfl, Nat.le_of_ble_eq_true rfl⟩) (kX7_becomesDirty (l := l) (g := g) (ad := ad) (A := q7.2) (F := u1) hc14) (va_recv (hK d) hP (ci := 7) (q0 := 0) rfl rfl) rfl hl.1 rfl (Nat.le_of_ble_eq_true rfl) dX7_pause_170 ⟨Nat.zero_le _, Nat.zero_le _⟩ (fun H locs hP hD hS => ?_)
            have hP : va_P g.1 vwCl (wM g ad z7 u1) H := hP
            have hD : va_D Z (wM g ad z7 u1) := hD
            refine lv_iinc (v := q7.1 + 1) (lv' := [(2, .int (q7.1 + 1)), (0, .ref (ad 0))]) hx hb dX7_pause_173 hl (k := 0) rfl rfl (by decide) rfl (fun ls hl => ?_)
            refine lv_goto (tgt := 151) hx hb dX7_pause_176 (by decide) ?_
            exact hin1 _ H locs ls () _ (Option.some.inj hst1).symm hdr trivial hP hD hS (lv_sub hl [0, 1] rfl)
      · unfold sX7_pause_L95 at hst1
        have hP : va_P g.1 vwCl (wM g ad q5.2 u1) H := hP
        have hD : va_D Z (wM g ad q5.2 u1) := hD
        refine lv_iload_n hx hb dX7_pause_95 rfl (lv_at hl 0 rfl) ?_
        refine lv_aload_n hx hb dX7_pause_96 rfl (lv_at hl 1 rfl) ?_
        refine va_get (D := g.1) (ci := 7) (v := .int (q5.2 14 0)) (C := RX7) (T := TX7) (N := 26) hx hb (dr_words hts d) (fun w h => List.mem_cons_of_mem _ (List.mem_append_right _ h)) (hown d) (hK d) hP 0 rfl rfl 14 (by decide) ((dr_words hts d) (.fieldLink RX7 166 "PauseRegionsModel" "found" "I") (List.mem_of_getElem? (i := 7) rfl)) (fun _ h9 => h9) rfl dX7_pause_97 ?_
        refine lv_icmp_ge (tgt := 149) hx hb dX7_pause_100 (by decide) (fun c4 => ?_) (fun c4 => ?_)
        · rw [if_pos c4] at hst1
          exact hout1 _ H locs ls () _ (Option.some.inj hst1).symm hdr trivial hP hD hS (lv_sub hl [1] rfl)
        · rw [if_neg c4] at hst1
          refine lv_aload_n hx hb dX7_pause_103 rfl (lv_at hl 1 rfl) ?_
          refine lv_aload_n hx hb dX7_pause_104 rfl (lv_at hl 1 rfl) ?_
          refine va_get (D := g.1) (ci := 7) (v := .ref (ad 10)) (C := RX7) (T := TX7) (N := 26) hx hb (dr_words hts d) (fun w h => List.mem_cons_of_mem _ (List.mem_append_right _ h)) (hown d) (hK d) hP 0 rfl rfl 15 (by decide) ((dr_words hts d) (.fieldLink RX7 39 "PauseRegionsModel" "row" "[I") (List.mem_of_getElem? (i := 8) rfl)) (fun _ h9 => h9) rfl dX7_pause_105 ?_
          refine lv_iload_n hx hb dX7_pause_108 rfl (lv_at hl 0 rfl) ?_
          obtain ⟨h2, hst1⟩ := ck_some hst1
          refine va_iald (D := g.1) hx hb (hK d) hP 10 0 rfl rfl h2 dX7_pause_109 ?_
          obtain ⟨z4, hc7, hst1⟩ := bn_some hst1
          refine mcV (C := RX7) (As := [.int ((q5.2 15) q5.1.toNatClampNeg)]) (rest := []) ⟨hx, hb, hml, (hown d), (dr_words hts d)⟩ (hKK.drawn d) hP hD hS hZ (cwV 1 (dr_words hts d) gX7_pause_X7_copies rfl rfl rfl hdX7_copies ⟨Nat.le_of_ble_eq_true rfl, Nat.le_of_ble_eq_true rfl⟩) (kX7_copies (l := l) (g := g) (ad := ad) (A := q5.2) (F := u1) hc7) (va_recv (hK d) hP (ci := 7) (q0 := 0) rfl rfl) rfl hl.1 rfl (Nat.le_of_ble_eq_true rfl) dX7_pause_110 ⟨Nat.zero_le _, Nat.zero_le _⟩ (fun H locs hP hD hS => ?_)
          have hP : va_P g.1 vwCl (wM g ad z4 u1) H := hP
          have hD : va_D Z (wM g ad z4 u1) := hD
          refine lv_aload_n hx hb dX7_pause_113 rfl (lv_at hl 1 rfl) ?_
          refine lv_aload_n hx hb dX7_pause_114 rfl (lv_at hl 1 rfl) ?_
          refine lv_aload_n hx hb dX7_pause_115 rfl (lv_at hl 1 rfl) ?_
          refine va_get (D := g.1) (ci := 7) (v := .ref (ad 10)) (C := RX7) (T := TX7) (N := 26) hx hb (dr_words hts d) (fun w h => List.mem_cons_of_mem _ (List.mem_append_right _ h)) (hown d) (hK d) hP 0 rfl rfl 15 (by decide) ((dr_words hts d) (.fieldLink RX7 39 "PauseRegionsModel" "row" "[I") (List.mem_of_getElem? (i := 8) rfl)) (fun _ h9 => h9) rfl dX7_pause_116 ?_
          refine lv_iload_n hx hb dX7_pause_119 rfl (lv_at hl 0 rfl) ?_
          obtain ⟨h3, hst1⟩ := ck_some hst1
          refine va_iald (D := g.1) hx hb (hK d) hP 10 0 rfl rfl h3 dX7_pause_120 ?_
          refine lv_iconst (v := 3) hx hb dX7_pause_121 (by decide) ?_
          obtain ⟨x2, hc8, hst1⟩ := bn_some hst1
          refine pcV (C := RX7) (As := [.int ((z4 15) q5.1.toNatClampNeg), .int 3]) (rest := [.ref (ad 0)]) ⟨hx, hb, hml, (hown d), (dr_words hts d)⟩ (hKK.drawn d) (cwV 2 (dr_words hts d) gX7_pause_X7_ofThing rfl rfl rfl hdX7_ofThing ⟨Nat.le_of_ble_eq_true rfl, Nat.le_of_ble_eq_true rfl⟩) (kX7_ofThing (l := l) (g := g) hP hc8) (va_recv (hK d) hP (ci := 7) (q0 := 0) rfl rfl) rfl hl.1 rfl (Nat.le_of_ble_eq_true rfl) dX7_pause_122 ⟨Nat.zero_le _, Nat.zero_le _⟩ ?_
          obtain ⟨z5, hc9, hst1⟩ := bn_some hst1
          refine mcV (C := RX7) (As := [.int x2]) (rest := []) ⟨hx, hb, hml, (hown d), (dr_words hts d)⟩ (hKK.drawn d) hP hD hS hZ (cwV 1 (dr_words hts d) gX7_pause_X7_finds rfl rfl rfl hdX7_finds ⟨Nat.le_of_ble_eq_true rfl, Nat.le_of_ble_eq_true rfl⟩) (kX7_finds (l := l) (g := g) (ad := ad) (A := z4) (F := u1) hc9) (va_recv (hK d) hP (ci := 7) (q0 := 0) rfl rfl) rfl hl.1 rfl (Nat.le_of_ble_eq_true rfl) dX7_pause_125 ⟨Nat.zero_le _, Nat.zero_le _⟩ (fun H locs hP hD hS => ?_)
          have hP : va_P g.1 vwCl (wM g ad z5 u1) H := hP
          have hD : va_D Z (wM g ad z5 u1) := hD
          refine lv_aload_n hx hb dX7_pause_128 rfl (lv_at hl 1 rfl) ?_
          refine lv_aload_n hx hb dX7_pause_129 rfl (lv_at hl 1 rfl) ?_
          refine lv_aload_n hx hb dX7_pause_130 rfl (lv_at hl 1 rfl) ?_
          refine va_get (D := g.1) (ci := 7) (v := .ref (ad 10)) (C := RX7) (T := TX7) (N := 26) hx hb (dr_words hts d) (fun w h => List.mem_cons_of_mem _ (List.mem_append_right _ h)) (hown d) (hK d) hP 0 rfl rfl 15 (by decide) ((dr_words hts d) (.fieldLink RX7 39 "PauseRegionsModel" "row" "[I") (List.mem_of_getElem? (i := 8) rfl)) (fun _ h9 => h9) rfl dX7_pause_131 ?_
          refine lv_iload_n hx hb dX7_pause_134 rfl (lv_at hl 0 rfl) ?_
          obtain ⟨h4, hst1⟩ := ck_some hst1
          refine va_iald (D := g.1) hx hb (hK d) hP 10 0 rfl rfl h4 dX7_pause_135 ?_
          refine lv_iconst (v := 4) hx hb dX7_pause_136 (by decide) ?_
          obtain ⟨x3, hc10, hst1⟩ := bn_some hst1
          refine pcV (C := RX7) (As := [.int ((z5 15) q5.1.toNatClampNeg), .int 4]) (rest := [.ref (ad 0)]) ⟨hx, hb, hml, (hown d), (dr_words hts d)⟩ (hKK.drawn d) (cwV 2 (dr_words hts d) gX7_pause_X7_ofThing rfl rfl rfl hdX7_ofThing ⟨Nat.le_of_ble_eq_true rfl, Nat.le_of_ble_eq_true rfl⟩) (kX7_ofThing (l := l) (g := g) hP hc10) (va_recv (hK d) hP (ci := 7) (q0 := 0) rfl rfl) rfl hl.1 rfl (Nat.le_of_ble_eq_true rfl) dX7_pause_137 ⟨Nat.zero_le _, Nat.zero_le _⟩ ?_
          obtain ⟨z6, hc11, hst1⟩ := bn_some hst1
          refine mcV (C := RX7) (As := [.int x3]) (rest := []) ⟨hx, hb, hml, (hown d), (dr_words hts d)⟩ (hKK.drawn d) hP hD hS hZ (cwV 1 (dr_words hts d) gX7_pause_X7_finds rfl rfl rfl hdX7_finds ⟨Nat.le_of_ble_eq_true rfl, Nat.le_of_ble_eq_true rfl⟩) (kX7_finds (l := l) (g := g) (ad := ad) (A := z5) (F := u1) hc11) (va_recv (hK d) hP (ci := 7) (q0 := 0) rfl rfl) rfl hl.1 rfl (Nat.le_of_ble_eq_true rfl) dX7_pause_140 ⟨Nat.zero_le _, Nat.zero_le _⟩ (fun H locs hP hD hS => ?_)
          have hP : va_P g.1 vwCl (wM g ad z6 u1) H := hP
          have hD : va_D Z (wM g ad z6 u1) := hD
          refine lv_iinc (v := q5.1 + 1) (lv' := [(2, .int (q5.1 + 1)), (0, .ref (ad 0))]) hx hb dX7_pause_143 hl (k := 0) rfl rfl (by decide) rfl (fun ls hl => ?_)
          refine lv_goto (tgt := 95) hx hb dX7_pause_146 (by decide) ?_
          exact hin1 _ H locs ls () _ (Option.some.inj hst1).symm hdr trivial hP hD hS (lv_sub hl [0, 1] rfl)
    · unfold sX7_pause_L30 at hst1
      have hP : va_P g.1 vwCl (wM g ad q3.2 u1) H := hP
      have hD : va_D Z (wM g ad q3.2 u1) := hD
      refine lv_iload_n hx hb dX7_pause_30 rfl (lv_at hl 0 rfl) ?_
      refine lv_bipush (v := 10) hx hb dX7_pause_31 (by decide) ?_
      refine lv_icmp_ge (tgt := 68) hx hb dX7_pause_33 (by decide) (fun c2 => ?_) (fun c2 => ?_)
      · rw [if_pos c2] at hst1
        exact hout1 _ H locs ls () _ (Option.some.inj hst1).symm hdr trivial hP hD hS (lv_sub hl [1] rfl)
      · rw [if_neg c2] at hst1
        refine lv_aload_n hx hb dX7_pause_36 rfl (lv_at hl 1 rfl) ?_
        refine lv_dup hx hb dX7_pause_37 rfl ?_
        refine va_get (D := g.1) (ci := 7) (v := .int (q3.2 23 0)) (C := RX7) (T := TX7) (N := 26) hx hb (dr_words hts d) (fun w h => List.mem_cons_of_mem _ (List.mem_append_right _ h)) (hown d) (hK d) hP 0 rfl rfl 23 (by decide) ((dr_words hts d) (.fieldLink RX7 196 "PauseRegionsModel" "youngs" "I") (List.mem_of_getElem? (i := 2) rfl)) (fun _ h9 => h9) rfl dX7_pause_38 ?_
        refine lv_aload_n hx hb dX7_pause_41 rfl (lv_at hl 1 rfl) ?_
        refine lv_iload_n hx hb dX7_pause_42 rfl (lv_at hl 0 rfl) ?_
        refine lv_iconst (v := 0) hx hb dX7_pause_43 (by decide) ?_
        obtain ⟨x1, hc4, hst1⟩ := bn_some hst1
        refine pcV (C := RX7) (As := [.int q3.1, .int 0]) (rest := [.int (q3.2 23 0), .ref (ad 0)]) ⟨hx, hb, hml, (hown d), (dr_words hts d)⟩ (hKK.drawn d) (cwV 2 (dr_words hts d) gX7_pause_X7_ofRegion rfl rfl rfl hdX7_ofRegion ⟨Nat.le_of_ble_eq_true rfl, Nat.le_of_ble_eq_true rfl⟩) (kX7_ofRegion (l := l) (g := g) hP hc4) (va_recv (hK d) hP (ci := 7) (q0 := 0) rfl rfl) rfl hl.1 rfl (Nat.le_of_ble_eq_true rfl) dX7_pause_44 ⟨Nat.zero_le _, Nat.zero_le _⟩ ?_
        refine lv_iconst (v := 1) hx hb dX7_pause_47 (by decide) ?_
        refine lv_icmp_ne (tgt := 57) hx hb dX7_pause_48 (by decide) (fun c3 => ?_) (fun c3 => ?_)
        · rw [if_neg c3] at hst1
          refine lv_iconst (v := 0) hx hb dX7_pause_57 (by decide) ?_
          refine lv_ior hx hb dX7_pause_58 ?_
          refine va_put (D := g.1) (ci := 7) (v := .int ((q3.2 23 0) ||| 0)) (ty := .int) (C := RX7) (T := TX7) (N := 26) hx hb (dr_words hts d) (fun w h => List.mem_cons_of_mem _ (List.mem_append_right _ h)) tyX7 tyX7_ok nmX7 (hown d) (hK d) hP hD hS 0 rfl rfl 23 (by decide) ((dr_words hts d) (.fieldLink RX7 196 "PauseRegionsModel" "youngs" "I") (List.mem_of_getElem? (i := 2) rfl)) (fun _ h9 => h9) rfl (by decide +kernel) rfl rfl (Nat.le_of_ble_eq_true rfl) dX7_pause_59 (fun H locs hP hD hS => ?_)
          obtain ⟨A2, eA2, hst1⟩ := bd_some hst1
          have hP : va_P g.1 vwCl (wM g ad A2 u1) H := by rw [eA2]; exact hP
          have hD : va_D Z (wM g ad A2 u1) := by rw [eA2]; exact hD
          refine lv_iinc (v := q3.1 + 1) (lv' := [(2, .int (q3.1 + 1)), (0, .ref (ad 0))]) hx hb dX7_pause_62 hl (k := 0) rfl rfl (by decide) rfl (fun ls hl => ?_)
          refine lv_goto (tgt := 30) hx hb dX7_pause_65 (by decide) ?_
          exact hin1 _ H locs ls () _ (Option.some.inj hst1).symm hdr trivial hP hD hS (lv_sub hl [0, 1] rfl)
        · rw [if_pos c3] at hst1
          refine lv_iconst (v := 1) hx hb dX7_pause_51 (by decide) ?_
          refine lv_iload_n hx hb dX7_pause_52 rfl (lv_at hl 0 rfl) ?_
          refine lv_ishl hx hb dX7_pause_53 ?_
          refine lv_goto (tgt := 58) hx hb dX7_pause_54 (by decide) ?_
          refine lv_ior hx hb dX7_pause_58 ?_
          refine va_put (D := g.1) (ci := 7) (v := .int ((q3.2 23 0) ||| (1 <<< (q3.1 &&& 31)))) (ty := .int) (C := RX7) (T := TX7) (N := 26) hx hb (dr_words hts d) (fun w h => List.mem_cons_of_mem _ (List.mem_append_right _ h)) tyX7 tyX7_ok nmX7 (hown d) (hK d) hP hD hS 0 rfl rfl 23 (by decide) ((dr_words hts d) (.fieldLink RX7 196 "PauseRegionsModel" "youngs" "I") (List.mem_of_getElem? (i := 2) rfl)) (fun _ h9 => h9) rfl (by decide +kernel) rfl rfl (Nat.le_of_ble_eq_true rfl) dX7_pause_59 (fun H locs hP hD hS => ?_)
          obtain ⟨A3, eA3, hst1⟩ := bd_some hst1
          have hP : va_P g.1 vwCl (wM g ad A3 u1) H := by rw [eA3]; exact hP
          have hD : va_D Z (wM g ad A3 u1) := by rw [eA3]; exact hD
          refine lv_iinc (v := q3.1 + 1) (lv' := [(2, .int (q3.1 + 1)), (0, .ref (ad 0))]) hx hb dX7_pause_62 hl (k := 0) rfl rfl (by decide) rfl (fun ls hl => ?_)
          refine lv_goto (tgt := 30) hx hb dX7_pause_65 (by decide) ?_
          exact hin1 _ H locs ls () _ (Option.some.inj hst1).symm hdr trivial hP hD hS (lv_sub hl [0, 1] rfl)
  · unfold sX7_pause_L0 at hst1
    have hP : va_P g.1 vwCl (wM g ad q1 F) H := hP
    have hD : va_D Z (wM g ad q1 F) := hD
    refine lv_aload_n hx hb dX7_pause_0 rfl (lv_at hl 0 rfl) ?_
    refine va_get (D := g.1) (ci := 7) (v := .ref (ad 1)) (C := RX7) (T := TX7) (N := 26) hx hb (dr_words hts d) (fun w h => List.mem_cons_of_mem _ (List.mem_append_right _ h)) (hown d) (hK d) hP 0 rfl rfl 1 (by decide) ((dr_words hts d) (.fieldLink RX7 7 "PauseRegionsModel" "s" "[I") (List.mem_of_getElem? (i := 1) rfl)) (fun _ h9 => h9) rfl dX7_pause_1 ?_
    refine lv_sipush (v := 258) hx hb dX7_pause_4 (by decide) ?_
    have h1 : vp_in 258 296 := inb_vp rfl
    refine va_iald (D := g.1) hx hb (hK d) hP 1 0 rfl rfl h1 dX7_pause_7 ?_
    refine lv_if_le (tgt := 18) hx hb dX7_pause_8 (by decide) (fun c1 => ?_) (fun c1 => ?_)
    · rw [if_pos c1] at hst1
      exact hout1 _ H locs ls () _ (Option.some.inj hst1).symm hdr trivial hP hD hS (lv_sub hl [0, 1] rfl)
    · rw [if_neg c1] at hst1
      refine lv_aload_n hx hb dX7_pause_11 rfl (lv_at hl 0 rfl) ?_
      obtain ⟨z1, hc1, hst1⟩ := bn_some hst1
      refine mcV (C := RX7) (As := []) (rest := []) ⟨hx, hb, hml, (hown d), (dr_words hts d)⟩ (hKK.drawn d) hP hD hS hZ (cwV 0 (dr_words hts d) gX7_pause_X7_refinesOne rfl rfl rfl hdX7_refinesOne ⟨Nat.le_of_ble_eq_true rfl, Nat.le_of_ble_eq_true rfl⟩) (kX7_refinesOne (l := l) (g := g) (ad := ad) (A := q1) (F := F) hc1) (va_recv (hK d) hP (ci := 7) (q0 := 0) rfl rfl) rfl hl.1 rfl (Nat.le_of_ble_eq_true rfl) dX7_pause_12 ⟨Nat.zero_le _, Nat.zero_le _⟩ (fun H locs hP hD hS => ?_)
      have hP : va_P g.1 vwCl (wM g ad z1 F) H := hP
      have hD : va_D Z (wM g ad z1 F) := hD
      refine lv_goto (tgt := 0) hx hb dX7_pause_15 (by decide) ?_
      exact hin1 _ H locs ls () _ (Option.some.inj hst1).symm hdr trivial hP hD hS (lv_sub hl [0, 1] rfl)
def sX7_pauses (A : IA) (Fc : FA) (p0 : Int32) : Option (Int32 × IA × FA) :=
  bd (sc A 0 0) fun A1 => (sX7_isGoal p0).bind fun x1 => if x1 = 0 then (some (((-1), A1, Fc))) else ((sX7_notes A1 Fc).bind fun z1 => (sX7_pause z1.1 z1.2 p0).bind fun z2 => some (z2.1, z2.2.1, z2.2.2))
abbrev rmX7_pauses : Room := { frames := 6, cells := 0, slots := 0, locals := 134 }
theorem hdX7_pauses : yX7_pauses.cls = RX7 ∧ yX7_pauses.cls ≠ "java/lang/invoke/MethodHandle" ∧ yX7_pauses.cls ≠ "java/lang/invoke/VarHandle" ∧ (parseMethodDescriptor yX7_pauses.desc).map (fun d => d.parameters.length) = some 1 := by decide +kernel
set_option maxHeartbeats 4000000 in
set_option maxRecDepth 100000 in
theorem kX7_pauses {l : Launch} {g : GG} {sz : Nat} {ad : Nat → Nat} {A : IA} {F : FA} {p0 : Int32} {Fc : FA} (hAL : AL F Fc) {b : Int32 × IA × FA} (hsem : sX7_pauses A Fc p0 = some b) : MetDI l yX7_pauses wsX7_pauses rmX7_pauses g [.ref (ad 0), .int p0] (wM g ad A F) sz b.1 (φ := FA) (fun u => AL u b.2.2) (fun u => wM g ad b.2.1 u) := by
  refine MetD.ofW (cc := cX7_pauses) (maxL := 2) (ret := (some .int)) (by decide) rfl ?_
  intro p e s m args below meth c s₁ B hml hv hdr
  obtain ⟨rfl, hsz, hP, hD0, hKK⟩ := hv
  subst hsz
  have hx := B.exec
  have hb := B.bytes
  have hr := B.returns
  have hts := atoms_spec (ws := wsX7_pauses) B.pre
  have hown : ∀ d, (s.setDrawn d).vm.findClass RX7 = some m.cls := fun _ => findClass_of_methodNamed B.named
  have hlocks := B.notSynchronized
  have hK : ∀ d, va_K g.1 vwCl (KT g) (s.setDrawn d) := fun d => (hKK.drawn d).1
  have hD := hD0.self (sz := s.heap.size)
  generalize hZe : va_A (wM g ad A F) s.heap.size = Z at hD ⊢
  have hZ : ∀ q : Nat, s.heap.size ≤ q → Z q := fun q h => by rw [← hZe]; exact Or.inr h
  have hS : va_S Z s.heap s.heap [] := va_S.rf
  have hP : va_P g.1 vwCl (wM g ad A F) s.heap := hP
  have hD : va_D Z (wM g ad A F) := hD
  obtain ⟨d, hdr, hdd⟩ : ∃ d, s.drawn.sameBut d lw_cs ∧ s.drawn = d := ⟨_, hdr, rfl⟩
  rw [hdd]
  have hl := lv_entry ([.ref (ad 0), .int p0]) (n := 2) (Nat.le_of_ble_eq_true rfl)
  rw [lg_entry_eq]
  generalize (lg_sl ([.ref (ad 0), .int p0]) ++ List.replicate (2 - (lg_sl ([.ref (ad 0), .int p0])).length) Slot.unset).toArray = ls at hl ⊢
  have hl : lv_has ls 2 [(0, .ref (ad 0)), (1, .int p0)] := hl
  unfold sX7_pauses at hsem
  refine lv_aload_n hx hb dX7_pauses_0 rfl (lv_at hl 0 rfl) ?_
  refine lv_iconst (v := 0) hx hb dX7_pauses_1 (by decide) ?_
  refine va_put (D := g.1) (ci := 7) (v := .int 0) (ty := .int) (C := RX7) (T := TX7) (N := 26) hx hb (dr_words hts d) (fun w h => List.mem_cons_of_mem _ (List.mem_append_right _ h)) tyX7 tyX7_ok nmX7 (hown d) (hK d) hP hD hS 0 rfl rfl 0 (by decide) ((dr_words hts d) (.fieldLink RX7 55 "PauseRegionsModel" "thrown" "I") (List.mem_of_getElem? (i := 1) rfl)) (fun _ h9 => h9) rfl (by decide +kernel) rfl rfl (Nat.le_of_ble_eq_true rfl) dX7_pauses_2 (fun H locs hP hD hS => ?_)
  obtain ⟨A1, eA1, hsem⟩ := bd_some hsem
  have hP : va_P g.1 vwCl (wM g ad A1 F) H := by rw [eA1]; exact hP
  have hD : va_D Z (wM g ad A1 F) := by rw [eA1]; exact hD
  refine lv_iload_n hx hb dX7_pauses_5 rfl (lv_at hl 1 rfl) ?_
  obtain ⟨x1, hc1, hsem⟩ := bn_some hsem
  refine pcS (As := [.int p0]) (rest := []) ⟨hx, hb, hml, (hown d), (dr_words hts d)⟩ (hKK.drawn d) (va_cwS 1 (dr_words hts d) gX7_pauses_X7_isGoal rfl rfl rfl hdX7_isGoal ⟨Nat.le_of_ble_eq_true rfl, Nat.le_of_ble_eq_true rfl⟩) (kX7_isGoal (l := l) (g := g) hc1) rfl hl.1 rfl (Nat.le_of_ble_eq_true rfl) dX7_pauses_6 ⟨Nat.zero_le _, Nat.zero_le _⟩ ?_
  refine lv_if_ne (tgt := 14) hx hb dX7_pauses_9 (by decide) (fun c1 => ?_) (fun c1 => ?_)
  · rw [if_neg c1] at hsem
    refine lv_aload_n hx hb dX7_pauses_14 rfl (lv_at hl 0 rfl) ?_
    obtain ⟨z1, hc2, hsem⟩ := bn_some hsem
    refine dcV (C := RX7) (As := []) (rest := []) hdr ⟨hx, hb, hml, (hown d), (dr_words hts d)⟩ (hKK.drawn d) hP hD hS hZ (cwV 0 (dr_words hts d) gX7_pauses_X7_notes rfl rfl rfl hdX7_notes ⟨Nat.le_of_ble_eq_true rfl, Nat.le_of_ble_eq_true rfl⟩) (kX7_notes (l := l) (g := g) (ad := ad) (A := A1) (F := F) (Fc := Fc) hAL hc2) (va_recv (hK d) hP (ci := 7) (q0 := 0) rfl rfl) rfl hl.1 rfl (Nat.le_of_ble_eq_true rfl) dX7_pauses_15 ⟨Nat.zero_le _, Nat.zero_le _⟩ (fun u1 H locs d hpo hP hD hS hdr => ?_)
    have hq1 := hpo
    have hP : va_P g.1 vwCl (wM g ad z1.1 u1) H := hP
    have hD : va_D Z (wM g ad z1.1 u1) := hD
    refine lv_aload_n hx hb dX7_pauses_18 rfl (lv_at hl 0 rfl) ?_
    refine lv_iload_n hx hb dX7_pauses_19 rfl (lv_at hl 1 rfl) ?_
    obtain ⟨z2, hc3, hsem⟩ := bn_some hsem
    refine dcI (C := RX7) (As := [.int p0]) (rest := []) hdr ⟨hx, hb, hml, (hown d), (dr_words hts d)⟩ (hKK.drawn d) hP hD hS hZ (cwV 1 (dr_words hts d) gX7_pauses_X7_pause rfl rfl rfl hdX7_pause ⟨Nat.le_of_ble_eq_true rfl, Nat.le_of_ble_eq_true rfl⟩) (kX7_pause (l := l) (g := g) (ad := ad) (A := z1.1) (F := u1) (Fc := z1.2) hq1 hc3) (va_recv (hK d) hP (ci := 7) (q0 := 0) rfl rfl) rfl hl.1 rfl (Nat.le_of_ble_eq_true rfl) dX7_pauses_20 ⟨Nat.zero_le _, Nat.zero_le _⟩ (fun u2 H locs d hpo hP hD hS hdr => ?_)
    have hq2 := hpo
    have hP : va_P g.1 vwCl (wM g ad z2.2.1 u2) H := hP
    have hD : va_D Z (wM g ad z2.2.1 u2) := hD
    have eo := (Option.some.inj hsem).symm.symm
    refine W.endD hdr ?_
    subst eo
    exact W.iret (v := z2.1) hx hb hr (fun t ht hW => ⟨⟨_, u2, rfl, ⟨rfl, hq2⟩, ⟨by rw [ht]; exact hP, hD⟩⟩, hS.F ht⟩) hS.2.2 dX7_pauses_23
  · rw [if_pos c1] at hsem
    refine lv_iconst (v := (-1)) hx hb dX7_pauses_12 (by decide) ?_
    have eo := (Option.some.inj hsem).symm.symm
    refine W.endD hdr ?_
    subst eo
    exact W.iret (v := (-1)) hx hb hr (fun t ht hW => ⟨⟨_, F, rfl, ⟨rfl, hAL⟩, ⟨by rw [ht]; exact hP, hD⟩⟩, hS.F ht⟩) hS.2.2 dX7_pauses_13
def sX7_refines_L62 (x2 : Int32) (q1 : Int32 × IA) : Option ((Int32 × IA) ⊕ (IA)) :=
  if x2 ≤ q1.1 then (some (.inr q1.2)) else ((sX7_refinesOne q1.2).bind fun z2 => some (.inl (q1.1 + 1, z2)))
def sX7_refines_L62a (p0 : Int32) (q3 : Int32 × IA) : Option ((Int32 × IA) ⊕ (IA)) :=
  if p0 ≤ q3.1 then (some (.inr q3.2)) else ((sX7_refinesOne q3.2).bind fun z3 => some (.inl (q3.1 + 1, z3)))
def sX7_refines (A : IA) (Fc : FA) (p0 : Int32) : Option (Int32 × IA × FA) :=
  bd (sc A 0 0) fun A1 => (sX7_in p0 1 20).bind fun x1 => if x1 = 0 then (some (((-1), A1, Fc))) else (if ((A1 1) (Int32.toNatClampNeg 258)) = 0 then (some (((-2), A1, Fc))) else ((sX7_notes A1 Fc).bind fun z1 => if ((z1.1 1) (Int32.toNatClampNeg 258)) ≤ p0 then (bd ((z1.1 1) (Int32.toNatClampNeg 258)) fun x2 => (loopN (sX7_refines_L62 x2) 2000 (0, z1.1)).bind fun q2 => some (x2, q2, z1.2)) else ((loopN (sX7_refines_L62a p0) 2000 (0, z1.1)).bind fun q4 => some (p0, q4, z1.2))))
abbrev rmX7_refines : Room := { frames := 3, cells := 0, slots := 0, locals := 67 }
theorem hdX7_refines : yX7_refines.cls = RX7 ∧ yX7_refines.cls ≠ "java/lang/invoke/MethodHandle" ∧ yX7_refines.cls ≠ "java/lang/invoke/VarHandle" ∧ (parseMethodDescriptor yX7_refines.desc).map (fun d => d.parameters.length) = some 1 := by decide +kernel
set_option maxHeartbeats 4000000 in
set_option maxRecDepth 100000 in
theorem kX7_refines {l : Launch} {g : GG} {sz : Nat} {ad : Nat → Nat} {A : IA} {F : FA} {p0 : Int32} {Fc : FA} (hAL : AL F Fc) {b : Int32 × IA × FA} (hsem : sX7_refines A Fc p0 = some b) : MetDI l yX7_refines wsX7_refines rmX7_refines g [.ref (ad 0), .int p0] (wM g ad A F) sz b.1 (φ := FA) (fun u => AL u b.2.2) (fun u => wM g ad b.2.1 u) := by
  refine MetD.ofW (cc := cX7_refines) (maxL := 4) (ret := (some .int)) (by decide) rfl ?_
  intro p e s m args below meth c s₁ B hml hv hdr
  obtain ⟨rfl, hsz, hP, hD0, hKK⟩ := hv
  subst hsz
  have hx := B.exec
  have hb := B.bytes
  have hr := B.returns
  have hts := atoms_spec (ws := wsX7_refines) B.pre
  have hown : ∀ d, (s.setDrawn d).vm.findClass RX7 = some m.cls := fun _ => findClass_of_methodNamed B.named
  have hlocks := B.notSynchronized
  have hK : ∀ d, va_K g.1 vwCl (KT g) (s.setDrawn d) := fun d => (hKK.drawn d).1
  have hD := hD0.self (sz := s.heap.size)
  generalize hZe : va_A (wM g ad A F) s.heap.size = Z at hD ⊢
  have hZ : ∀ q : Nat, s.heap.size ≤ q → Z q := fun q h => by rw [← hZe]; exact Or.inr h
  have hS : va_S Z s.heap s.heap [] := va_S.rf
  have hP : va_P g.1 vwCl (wM g ad A F) s.heap := hP
  have hD : va_D Z (wM g ad A F) := hD
  obtain ⟨d, hdr, hdd⟩ : ∃ d, s.drawn.sameBut d lw_cs ∧ s.drawn = d := ⟨_, hdr, rfl⟩
  rw [hdd]
  have hl := lv_entry ([.ref (ad 0), .int p0]) (n := 4) (Nat.le_of_ble_eq_true rfl)
  rw [lg_entry_eq]
  generalize (lg_sl ([.ref (ad 0), .int p0]) ++ List.replicate (4 - (lg_sl ([.ref (ad 0), .int p0])).length) Slot.unset).toArray = ls at hl ⊢
  have hl : lv_has ls 4 [(0, .ref (ad 0)), (1, .int p0)] := hl
  unfold sX7_refines at hsem
  refine lv_aload_n hx hb dX7_refines_0 rfl (lv_at hl 0 rfl) ?_
  refine lv_iconst (v := 0) hx hb dX7_refines_1 (by decide) ?_
  refine va_put (D := g.1) (ci := 7) (v := .int 0) (ty := .int) (C := RX7) (T := TX7) (N := 26) hx hb (dr_words hts d) (fun w h => List.mem_cons_of_mem _ (List.mem_append_right _ h)) tyX7 tyX7_ok nmX7 (hown d) (hK d) hP hD hS 0 rfl rfl 0 (by decide) ((dr_words hts d) (.fieldLink RX7 55 "PauseRegionsModel" "thrown" "I") (List.mem_of_getElem? (i := 1) rfl)) (fun _ h9 => h9) rfl (by decide +kernel) rfl rfl (Nat.le_of_ble_eq_true rfl) dX7_refines_2 (fun H locs hP hD hS => ?_)
  obtain ⟨A1, eA1, hsem⟩ := bd_some hsem
  have hP : va_P g.1 vwCl (wM g ad A1 F) H := by rw [eA1]; exact hP
  have hD : va_D Z (wM g ad A1 F) := by rw [eA1]; exact hD
  refine lv_iload_n hx hb dX7_refines_5 rfl (lv_at hl 1 rfl) ?_
  refine lv_iconst (v := 1) hx hb dX7_refines_6 (by decide) ?_
  refine lv_bipush (v := 20) hx hb dX7_refines_7 (by decide) ?_
  obtain ⟨x1, hc1, hsem⟩ := bn_some hsem
  refine pcS (As := [.int p0, .int 1, .int 20]) (rest := []) ⟨hx, hb, hml, (hown d), (dr_words hts d)⟩ (hKK.drawn d) (va_cwS 3 (dr_words hts d) gX7_refines_X7_in rfl rfl rfl hdX7_in ⟨Nat.le_of_ble_eq_true rfl, Nat.le_of_ble_eq_true rfl⟩) (kX7_in (l := l) (g := g) hc1) rfl hl.1 rfl (Nat.le_of_ble_eq_true rfl) dX7_refines_9 ⟨Nat.zero_le _, Nat.zero_le _⟩ ?_
  refine lv_if_ne (tgt := 17) hx hb dX7_refines_12 (by decide) (fun c1 => ?_) (fun c1 => ?_)
  · rw [if_neg c1] at hsem
    refine lv_aload_n hx hb dX7_refines_17 rfl (lv_at hl 0 rfl) ?_
    refine va_get (D := g.1) (ci := 7) (v := .ref (ad 1)) (C := RX7) (T := TX7) (N := 26) hx hb (dr_words hts d) (fun w h => List.mem_cons_of_mem _ (List.mem_append_right _ h)) (hown d) (hK d) hP 0 rfl rfl 1 (by decide) ((dr_words hts d) (.fieldLink RX7 7 "PauseRegionsModel" "s" "[I") (List.mem_of_getElem? (i := 2) rfl)) (fun _ h9 => h9) rfl dX7_refines_18 ?_
    refine lv_sipush (v := 258) hx hb dX7_refines_21 (by decide) ?_
    have h1 : vp_in 258 296 := inb_vp rfl
    refine va_iald (D := g.1) hx hb (hK d) hP 1 0 rfl rfl h1 dX7_refines_24 ?_
    refine lv_if_ne (tgt := 31) hx hb dX7_refines_25 (by decide) (fun c2 => ?_) (fun c2 => ?_)
    · rw [if_neg c2] at hsem
      refine lv_aload_n hx hb dX7_refines_31 rfl (lv_at hl 0 rfl) ?_
      obtain ⟨z1, hc2, hsem⟩ := bn_some hsem
      refine dcV (C := RX7) (As := []) (rest := []) hdr ⟨hx, hb, hml, (hown d), (dr_words hts d)⟩ (hKK.drawn d) hP hD hS hZ (cwV 0 (dr_words hts d) gX7_refines_X7_notes rfl rfl rfl hdX7_notes ⟨Nat.le_of_ble_eq_true rfl, Nat.le_of_ble_eq_true rfl⟩) (kX7_notes (l := l) (g := g) (ad := ad) (A := A1) (F := F) (Fc := Fc) hAL hc2) (va_recv (hK d) hP (ci := 7) (q0 := 0) rfl rfl) rfl hl.1 rfl (Nat.le_of_ble_eq_true rfl) dX7_refines_32 ⟨Nat.zero_le _, Nat.zero_le _⟩ (fun u1 H locs d hpo hP hD hS hdr => ?_)
      have hq1 := hpo
      have hP : va_P g.1 vwCl (wM g ad z1.1 u1) H := hP
      have hD : va_D Z (wM g ad z1.1 u1) := hD
      refine lv_iload_n hx hb dX7_refines_35 rfl (lv_at hl 1 rfl) ?_
      refine lv_aload_n hx hb dX7_refines_36 rfl (lv_at hl 0 rfl) ?_
      refine va_get (D := g.1) (ci := 7) (v := .ref (ad 1)) (C := RX7) (T := TX7) (N := 26) hx hb (dr_words hts d) (fun w h => List.mem_cons_of_mem _ (List.mem_append_right _ h)) (hown d) (hK d) hP 0 rfl rfl 1 (by decide) ((dr_words hts d) (.fieldLink RX7 7 "PauseRegionsModel" "s" "[I") (List.mem_of_getElem? (i := 2) rfl)) (fun _ h9 => h9) rfl dX7_refines_37 ?_
      refine lv_sipush (v := 258) hx hb dX7_refines_40 (by decide) ?_
      have h2 : vp_in 258 296 := inb_vp rfl
      refine va_iald (D := g.1) hx hb (hK d) hP 1 0 rfl rfl h2 dX7_refines_43 ?_
      refine lv_icmp_ge (tgt := 51) hx hb dX7_refines_44 (by decide) (fun c3 => ?_) (fun c3 => ?_)
      · rw [if_pos c3] at hsem
        refine lv_aload_n hx hb dX7_refines_51 rfl (lv_at hl 0 rfl) ?_
        refine va_get (D := g.1) (ci := 7) (v := .ref (ad 1)) (C := RX7) (T := TX7) (N := 26) hx hb (dr_words hts d) (fun w h => List.mem_cons_of_mem _ (List.mem_append_right _ h)) (hown d) (hK d) hP 0 rfl rfl 1 (by decide) ((dr_words hts d) (.fieldLink RX7 7 "PauseRegionsModel" "s" "[I") (List.mem_of_getElem? (i := 2) rfl)) (fun _ h9 => h9) rfl dX7_refines_52 ?_
        refine lv_sipush (v := 258) hx hb dX7_refines_55 (by decide) ?_
        have h3 : vp_in 258 296 := inb_vp rfl
        refine va_iald (D := g.1) hx hb (hK d) hP 1 0 rfl rfl h3 dX7_refines_58 ?_
        obtain ⟨x2, ex2, hsem⟩ := bd_some hsem
        rw [← ex2]
        refine lv_istore_n (lv' := [(2, .int x2), (0, .ref (ad 0)), (1, .int p0)]) hx hb dX7_refines_59 rfl hl (by decide) rfl (fun ls hl => ?_)
        refine lv_iconst (v := 0) hx hb dX7_refines_60 (by decide) ?_
        refine lv_istore_n (lv' := [(3, .int 0), (2, .int x2), (0, .ref (ad 0)), (1, .int p0)]) hx hb dX7_refines_61 rfl hl (by decide) rfl (fun ls hl => ?_)
        obtain ⟨q2, hc4, hsem⟩ := bn_some hsem
        refine loopMD (g := g) hdr hc4 (fun (q1 : Int32 × IA) => [(3, .int q1.1), (2, .int x2), (0, .ref (ad 0))]) (fun (q1 : IA) => [(2, .int x2)]) (exit := 77) (fun (q1 : Int32 × IA) (fz1 : Unit) => wM g ad q1.2 u1) (fun (q1 : IA) (fz1 : Unit) => wM g ad q1 u1) (fun (_ : Int32 × IA) (_ : Unit) => True) (fun (_ : IA) (_ : Unit) => True) () trivial hP hD hS (lv_sub hl [0, 1, 2] rfl) (fun d H locs ls fz1 hdr hrfz1 hP hD hS hl => ?_) (fun q1 r hst1 hin1 hout1 d H locs ls fz1 hdr hrfz1 hP hD hS hl => ?_)
        · have hP : va_P g.1 vwCl (wM g ad q2 u1) H := hP
          have hD : va_D Z (wM g ad q2 u1) := hD
          refine lv_iload_n hx hb dX7_refines_77 rfl (lv_at hl 0 rfl) ?_
          have eo := (Option.some.inj hsem).symm.symm
          refine W.endD hdr ?_
          subst eo
          exact W.iret (v := x2) hx hb hr (fun t ht hW => ⟨⟨_, u1, rfl, ⟨rfl, hq1⟩, ⟨by rw [ht]; exact hP, hD⟩⟩, hS.F ht⟩) hS.2.2 dX7_refines_78
        · unfold sX7_refines_L62 at hst1
          have hP : va_P g.1 vwCl (wM g ad q1.2 u1) H := hP
          have hD : va_D Z (wM g ad q1.2 u1) := hD
          refine lv_iload_n hx hb dX7_refines_62 rfl (lv_at hl 0 rfl) ?_
          refine lv_iload_n hx hb dX7_refines_63 rfl (lv_at hl 1 rfl) ?_
          refine lv_icmp_ge (tgt := 77) hx hb dX7_refines_64 (by decide) (fun c4 => ?_) (fun c4 => ?_)
          · rw [if_pos c4] at hst1
            exact hout1 _ H locs ls () _ (Option.some.inj hst1).symm hdr trivial hP hD hS (lv_sub hl [1] rfl)
          · rw [if_neg c4] at hst1
            refine lv_aload_n hx hb dX7_refines_67 rfl (lv_at hl 2 rfl) ?_
            obtain ⟨z2, hc3, hst1⟩ := bn_some hst1
            refine mcV (C := RX7) (As := []) (rest := []) ⟨hx, hb, hml, (hown d), (dr_words hts d)⟩ (hKK.drawn d) hP hD hS hZ (cwV 0 (dr_words hts d) gX7_refines_X7_refinesOne rfl rfl rfl hdX7_refinesOne ⟨Nat.le_of_ble_eq_true rfl, Nat.le_of_ble_eq_true rfl⟩) (kX7_refinesOne (l := l) (g := g) (ad := ad) (A := q1.2) (F := u1) hc3) (va_recv (hK d) hP (ci := 7) (q0 := 0) rfl rfl) rfl hl.1 rfl (Nat.le_of_ble_eq_true rfl) dX7_refines_68 ⟨Nat.zero_le _, Nat.zero_le _⟩ (fun H locs hP hD hS => ?_)
            have hP : va_P g.1 vwCl (wM g ad z2 u1) H := hP
            have hD : va_D Z (wM g ad z2 u1) := hD
            refine lv_iinc (v := q1.1 + 1) (lv' := [(3, .int (q1.1 + 1)), (2, .int x2), (0, .ref (ad 0))]) hx hb dX7_refines_71 hl (k := 0) rfl rfl (by decide) rfl (fun ls hl => ?_)
            refine lv_goto (tgt := 62) hx hb dX7_refines_74 (by decide) ?_
            exact hin1 _ H locs ls () _ (Option.some.inj hst1).symm hdr trivial hP hD hS (lv_sub hl [0, 1, 2] rfl)
      · rw [if_neg c3] at hsem
        refine lv_iload_n hx hb dX7_refines_47 rfl (lv_at hl 1 rfl) ?_
        refine lv_goto (tgt := 59) hx hb dX7_refines_48 (by decide) ?_
        refine lv_istore_n (lv' := [(2, .int p0), (0, .ref (ad 0)), (1, .int p0)]) hx hb dX7_refines_59 rfl hl (by decide) rfl (fun ls hl => ?_)
        refine lv_iconst (v := 0) hx hb dX7_refines_60 (by decide) ?_
        refine lv_istore_n (lv' := [(3, .int 0), (2, .int p0), (0, .ref (ad 0)), (1, .int p0)]) hx hb dX7_refines_61 rfl hl (by decide) rfl (fun ls hl => ?_)
        obtain ⟨q4, hc6, hsem⟩ := bn_some hsem
        refine loopMD (g := g) hdr hc6 (fun (q3 : Int32 × IA) => [(3, .int q3.1), (2, .int p0), (0, .ref (ad 0))]) (fun (q3 : IA) => [(2, .int p0)]) (exit := 77) (fun (q3 : Int32 × IA) (fz2 : Unit) => wM g ad q3.2 u1) (fun (q3 : IA) (fz2 : Unit) => wM g ad q3 u1) (fun (_ : Int32 × IA) (_ : Unit) => True) (fun (_ : IA) (_ : Unit) => True) () trivial hP hD hS (lv_sub hl [0, 1, 2] rfl) (fun d H locs ls fz2 hdr hrfz2 hP hD hS hl => ?_) (fun q3 r hst1 hin1 hout1 d H locs ls fz2 hdr hrfz2 hP hD hS hl => ?_)
        · have hP : va_P g.1 vwCl (wM g ad q4 u1) H := hP
          have hD : va_D Z (wM g ad q4 u1) := hD
          refine lv_iload_n hx hb dX7_refines_77 rfl (lv_at hl 0 rfl) ?_
          have eo := (Option.some.inj hsem).symm.symm
          refine W.endD hdr ?_
          subst eo
          exact W.iret (v := p0) hx hb hr (fun t ht hW => ⟨⟨_, u1, rfl, ⟨rfl, hq1⟩, ⟨by rw [ht]; exact hP, hD⟩⟩, hS.F ht⟩) hS.2.2 dX7_refines_78
        · unfold sX7_refines_L62a at hst1
          have hP : va_P g.1 vwCl (wM g ad q3.2 u1) H := hP
          have hD : va_D Z (wM g ad q3.2 u1) := hD
          refine lv_iload_n hx hb dX7_refines_62 rfl (lv_at hl 0 rfl) ?_
          refine lv_iload_n hx hb dX7_refines_63 rfl (lv_at hl 1 rfl) ?_
          refine lv_icmp_ge (tgt := 77) hx hb dX7_refines_64 (by decide) (fun c5 => ?_) (fun c5 => ?_)
          · rw [if_pos c5] at hst1
            exact hout1 _ H locs ls () _ (Option.some.inj hst1).symm hdr trivial hP hD hS (lv_sub hl [1] rfl)
          · rw [if_neg c5] at hst1
            refine lv_aload_n hx hb dX7_refines_67 rfl (lv_at hl 2 rfl) ?_
            obtain ⟨z3, hc5, hst1⟩ := bn_some hst1
            refine mcV (C := RX7) (As := []) (rest := []) ⟨hx, hb, hml, (hown d), (dr_words hts d)⟩ (hKK.drawn d) hP hD hS hZ (cwV 0 (dr_words hts d) gX7_refines_X7_refinesOne rfl rfl rfl hdX7_refinesOne ⟨Nat.le_of_ble_eq_true rfl, Nat.le_of_ble_eq_true rfl⟩) (kX7_refinesOne (l := l) (g := g) (ad := ad) (A := q3.2) (F := u1) hc5) (va_recv (hK d) hP (ci := 7) (q0 := 0) rfl rfl) rfl hl.1 rfl (Nat.le_of_ble_eq_true rfl) dX7_refines_68 ⟨Nat.zero_le _, Nat.zero_le _⟩ (fun H locs hP hD hS => ?_)
            have hP : va_P g.1 vwCl (wM g ad z3 u1) H := hP
            have hD : va_D Z (wM g ad z3 u1) := hD
            refine lv_iinc (v := q3.1 + 1) (lv' := [(3, .int (q3.1 + 1)), (2, .int p0), (0, .ref (ad 0))]) hx hb dX7_refines_71 hl (k := 0) rfl rfl (by decide) rfl (fun ls hl => ?_)
            refine lv_goto (tgt := 62) hx hb dX7_refines_74 (by decide) ?_
            exact hin1 _ H locs ls () _ (Option.some.inj hst1).symm hdr trivial hP hD hS (lv_sub hl [0, 1, 2] rfl)
    · rw [if_pos c2] at hsem
      refine lv_bipush (v := (-2)) hx hb dX7_refines_28 (by decide) ?_
      have eo := (Option.some.inj hsem).symm.symm
      refine W.endD hdr ?_
      subst eo
      exact W.iret (v := (-2)) hx hb hr (fun t ht hW => ⟨⟨_, F, rfl, ⟨rfl, hAL⟩, ⟨by rw [ht]; exact hP, hD⟩⟩, hS.F ht⟩) hS.2.2 dX7_refines_30
  · rw [if_pos c1] at hsem
    refine lv_iconst (v := (-1)) hx hb dX7_refines_15 (by decide) ?_
    have eo := (Option.some.inj hsem).symm.symm
    refine W.endD hdr ?_
    subst eo
    exact W.iret (v := (-1)) hx hb hr (fun t ht hW => ⟨⟨_, F, rfl, ⟨rfl, hAL⟩, ⟨by rw [ht]; exact hP, hD⟩⟩, hS.F ht⟩) hS.2.2 dX7_refines_16
