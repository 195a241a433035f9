def sX6_thing (HA : Nat → IA) (p0 : Int32) (p1 : Int32) : Option (Int32) :=
  (sX6_within p0 0 31).bind fun x1 => if x1 = 0 then (some (-1)) else ((sX6_within p1 0 5).bind fun x2 => if x2 = 0 then (some (-1)) else ((sX1_isThere (HA 0) p0).bind fun x3 => if x3 = 0 then (some (-9)) else (if p1 = 0 then (ck p0 32 (some (((HA 0) 4) p0.toNatClampNeg))) else (if p1 = 1 then (ck p0 32 (some (((HA 0) 5) p0.toNatClampNeg))) else (if p1 = 2 then (ck p0 32 (some (((HA 0) 6) p0.toNatClampNeg))) else (if p1 = 3 then ((sX1_fieldOf (HA 0) p0 0).bind fun x4 => some x4) else (if p1 = 4 then ((sX1_fieldOf (HA 0) p0 1).bind fun x5 => some x5) else (if (((HA 0) 12 0)) = 0 then (some (-9)) else (ck p0 32 (some (((HA 0) 8) p0.toNatClampNeg)))))))))))
abbrev rmX6_thing : Room := { frames := 1, cells := 0, slots := 0, locals := 22 }
theorem hdX6_thing : yX6_thing.cls = RX6 ∧ yX6_thing.cls ≠ "java/lang/invoke/MethodHandle" ∧ yX6_thing.cls ≠ "java/lang/invoke/VarHandle" ∧ (parseMethodDescriptor yX6_thing.desc).map (fun d => d.parameters.length) = some 2 := by decide +kernel
set_option maxHeartbeats 8000000 in
set_option maxRecDepth 100000 in
theorem kX6_thing {l : Launch} {g : GG} {sz : Nat} {a0 a1 a2 : Nat} {im : Nat → Option Nat} {kf : Nat → Int32} {a0t : Nat} {rgt : Int32} {yct : Int32} {fct : UInt32} {adp : Nat → Nat} {Ap : IA} {Fp : FA} {adr : Nat → Nat} {Ar : IA} {a0i a1i : Nat} {pf : Nat → Option Nat} {nxi kni : Int32} {hd : Nat → Nat → Nat} {HA : Nat → IA} {HF : Nat → FA} {p0 p1 : Int32} {b : Int32} (hsem : sX6_thing HA p0 p1 = some b) : MetI l yX6_thing wsX6_thing rmX6_thing g [.ref a0, .int p0, .int p1] (wTp g a0 a1 a2 a0t (adp 0) (adr 0) a0i (hd 0 0) (hd 1 0) im kf ++ (wC g a0t rgt yct fct ++ (wPa g adp Ap Fp ++ (wRe g adr Ar ++ (wHi g a0i a1i pf nxi kni ++ (wH g (hd 0) (HA 0) (HF 0) ++ (wH g (hd 1) (HA 1) (HF 1) ++ (wH g (hd 2) (HA 2) (HF 2) ++ (wH g (hd 3) (HA 3) (HF 3) ++ (wH g (hd 4) (HA 4) (HF 4) ++ (wH g (hd 5) (HA 5) (HF 5) ++ (wH g (hd 6) (HA 6) (HF 6) ++ (wH g (hd 7) (HA 7) (HF 7) ++ (wH g (hd 8) (HA 8) (HF 8) ++ (wH g (hd 9) (HA 9) (HF 9) ++ ([])))))))))))))))) sz b (wTp g a0 a1 a2 a0t (adp 0) (adr 0) a0i (hd 0 0) (hd 1 0) im kf ++ (wC g a0t rgt yct fct ++ (wPa g adp Ap Fp ++ (wRe g adr Ar ++ (wHi g a0i a1i pf nxi kni ++ (wH g (hd 0) (HA 0) (HF 0) ++ (wH g (hd 1) (HA 1) (HF 1) ++ (wH g (hd 2) (HA 2) (HF 2) ++ (wH g (hd 3) (HA 3) (HF 3) ++ (wH g (hd 4) (HA 4) (HF 4) ++ (wH g (hd 5) (HA 5) (HF 5) ++ (wH g (hd 6) (HA 6) (HF 6) ++ (wH g (hd 7) (HA 7) (HF 7) ++ (wH g (hd 8) (HA 8) (HF 8) ++ (wH g (hd 9) (HA 9) (HF 9) ++ ([])))))))))))))))) := by
  refine Met.ofW (cc := cX6_thing) (maxL := 3) (ret := (some .int)) (by decide) rfl ?_
  intro p e s m args below meth c s₁ B hml hv
  obtain ⟨rfl, hsz, hP, hD0, hKK⟩ := hv
  subst hsz
  have hx := B.exec
  have hb := B.bytes
  have hr := B.returns
  have hts := atoms_spec (ws := wsX6_thing) B.pre
  have hown : s.vm.findClass RX6 = some m.cls := findClass_of_methodNamed B.named
  have hlocks := B.notSynchronized
  have hK := hKK.1
  have hD := hD0.self (sz := s.heap.size)
  generalize hZe : va_A (wTp g a0 a1 a2 a0t (adp 0) (adr 0) a0i (hd 0 0) (hd 1 0) im kf ++ (wC g a0t rgt yct fct ++ (wPa g adp Ap Fp ++ (wRe g adr Ar ++ (wHi g a0i a1i pf nxi kni ++ (wH g (hd 0) (HA 0) (HF 0) ++ (wH g (hd 1) (HA 1) (HF 1) ++ (wH g (hd 2) (HA 2) (HF 2) ++ (wH g (hd 3) (HA 3) (HF 3) ++ (wH g (hd 4) (HA 4) (HF 4) ++ (wH g (hd 5) (HA 5) (HF 5) ++ (wH g (hd 6) (HA 6) (HF 6) ++ (wH g (hd 7) (HA 7) (HF 7) ++ (wH g (hd 8) (HA 8) (HF 8) ++ (wH g (hd 9) (HA 9) (HF 9) ++ ([])))))))))))))))) s.heap.size = Z at hD ⊢
  have hZ : ∀ q : Nat, s.heap.size ≤ q → Z q := fun q h => by rw [← hZe]; exact Or.inr h
  have hS : va_S Z s.heap s.heap [] := va_S.rf
  have hP : va_P g.1 vwCl (wTp g a0 a1 a2 a0t (adp 0) (adr 0) a0i (hd 0 0) (hd 1 0) im kf ++ (wC g a0t rgt yct fct ++ (wPa g adp Ap Fp ++ (wRe g adr Ar ++ (wHi g a0i a1i pf nxi kni ++ (wH g (hd 0) (HA 0) (HF 0) ++ (wH g (hd 1) (HA 1) (HF 1) ++ (wH g (hd 2) (HA 2) (HF 2) ++ (wH g (hd 3) (HA 3) (HF 3) ++ (wH g (hd 4) (HA 4) (HF 4) ++ (wH g (hd 5) (HA 5) (HF 5) ++ (wH g (hd 6) (HA 6) (HF 6) ++ (wH g (hd 7) (HA 7) (HF 7) ++ (wH g (hd 8) (HA 8) (HF 8) ++ (wH g (hd 9) (HA 9) (HF 9) ++ ([])))))))))))))))) s.heap := hP
  have hD : va_D Z (wTp g a0 a1 a2 a0t (adp 0) (adr 0) a0i (hd 0 0) (hd 1 0) im kf ++ (wC g a0t rgt yct fct ++ (wPa g adp Ap Fp ++ (wRe g adr Ar ++ (wHi g a0i a1i pf nxi kni ++ (wH g (hd 0) (HA 0) (HF 0) ++ (wH g (hd 1) (HA 1) (HF 1) ++ (wH g (hd 2) (HA 2) (HF 2) ++ (wH g (hd 3) (HA 3) (HF 3) ++ (wH g (hd 4) (HA 4) (HF 4) ++ (wH g (hd 5) (HA 5) (HF 5) ++ (wH g (hd 6) (HA 6) (HF 6) ++ (wH g (hd 7) (HA 7) (HF 7) ++ (wH g (hd 8) (HA 8) (HF 8) ++ (wH g (hd 9) (HA 9) (HF 9) ++ ([])))))))))))))))) := hD
  have hl := lv_entry ([.ref a0, .int p0, .int p1]) (n := 3) (Nat.le_of_ble_eq_true rfl)
  rw [lg_entry_eq]
  generalize (lg_sl ([.ref a0, .int p0, .int p1]) ++ List.replicate (3 - (lg_sl ([.ref a0, .int p0, .int p1])).length) Slot.unset).toArray = ls at hl ⊢
  have hl : lv_has ls 3 [(0, .ref a0), (1, .int p0), (2, .int p1)] := hl
  unfold sX6_thing at hsem
  refine lv_iload_n hx hb dX6_thing_0 rfl (lv_at hl 1 rfl) ?_
  refine lv_iconst (v := 0) hx hb dX6_thing_1 (by decide) ?_
  refine lv_bipush (v := 31) hx hb dX6_thing_2 (by decide) ?_
  obtain ⟨x1, hc1, hsem⟩ := bn_some hsem
  refine pcS (As := [.int p0, .int 0, .int 31]) (rest := []) ⟨hx, hb, hml, hown, hts⟩ hKK (va_cwS 3 hts gX6_thing_X6_within rfl rfl rfl hdX6_within ⟨Nat.le_of_ble_eq_true rfl, Nat.le_of_ble_eq_true rfl⟩) (kX6_within (l := l) (g := g) hc1) rfl hl.1 rfl (Nat.le_of_ble_eq_true rfl) dX6_thing_4 ⟨Nat.zero_le _, Nat.zero_le _⟩ ?_
  refine lv_if_eq (tgt := 19) hx hb dX6_thing_7 (by decide) (fun c1 => ?_) (fun c1 => ?_)
  · rw [if_pos c1] at hsem
    refine lv_iconst (v := (-1)) hx hb dX6_thing_19 (by decide) ?_
    have eo := (Option.some.inj hsem).symm.symm
    subst eo
    exact W.iret (v := (-1)) hx hb hr (fun t ht hW => ⟨⟨_, (), rfl, rfl, ⟨by rw [ht]; exact hP, hD⟩⟩, hS.F ht⟩) hS.2.2 dX6_thing_20
  · rw [if_neg c1] at hsem
    refine lv_iload_n hx hb dX6_thing_10 rfl (lv_at hl 2 rfl) ?_
    refine lv_iconst (v := 0) hx hb dX6_thing_11 (by decide) ?_
    refine lv_iconst (v := 5) hx hb dX6_thing_12 (by decide) ?_
    obtain ⟨x2, hc2, hsem⟩ := bn_some hsem
    refine pcS (As := [.int p1, .int 0, .int 5]) (rest := []) ⟨hx, hb, hml, hown, hts⟩ hKK (va_cwS 3 hts gX6_thing_X6_within rfl rfl rfl hdX6_within ⟨Nat.le_of_ble_eq_true rfl, Nat.le_of_ble_eq_true rfl⟩) (kX6_within (l := l) (g := g) hc2) rfl hl.1 rfl (Nat.le_of_ble_eq_true rfl) dX6_thing_13 ⟨Nat.zero_le _, Nat.zero_le _⟩ ?_
    refine lv_if_ne (tgt := 21) hx hb dX6_thing_16 (by decide) (fun c2 => ?_) (fun c2 => ?_)
    · rw [if_neg c2] at hsem
      refine lv_aload_n hx hb dX6_thing_21 rfl (lv_at hl 0 rfl) ?_
      refine va_get (D := g.1) (ci := 6) (v := .ref (hd 0 0)) (C := RX6) (T := TX6) (N := 8) hx hb hts (fun w h => List.mem_cons_of_mem _ (List.mem_append_left _ (List.mem_append_right _ h))) hown hK hP 0 rfl rfl 0 (by decide) (hts (.fieldLink RX6 10 "PauseRegions" "heap" "LPauseRegions$Heap;") (List.mem_of_getElem? (i := 1) rfl)) (fun _ h9 => h9) rfl dX6_thing_22 ?_
      refine lv_iload_n hx hb dX6_thing_25 rfl (lv_at hl 1 rfl) ?_
      obtain ⟨x3, hc3, hsem⟩ := bn_some hsem
      refine pcV (C := RX1) (As := [.int p0]) (rest := []) ⟨hx, hb, hml, hown, hts⟩ hKK (cwV 1 hts gX6_thing_X1_isThere rfl rfl rfl hdX1_isThere ⟨Nat.le_of_ble_eq_true rfl, Nat.le_of_ble_eq_true rfl⟩) (kX1_isThere (l := l) (g := g) (hP.sub (ws' := wH g (hd 0) (HA 0) (HF 0)) [14, 15, 16, 17, 18, 19, 20, 21, 22, 23, 24, 25, 26, 27, 28] rfl) hc3) (va_recv hK hP (ci := 1) (q0 := 14) rfl rfl) rfl hl.1 rfl (Nat.le_of_ble_eq_true rfl) dX6_thing_26 ⟨Nat.zero_le _, Nat.zero_le _⟩ ?_
      refine lv_if_ne (tgt := 35) hx hb dX6_thing_29 (by decide) (fun c3 => ?_) (fun c3 => ?_)
      · rw [if_neg c3] at hsem
        refine lv_iload_n hx hb dX6_thing_35 rfl (lv_at hl 2 rfl) ?_
        by_cases c4 : p1 = 0
        · rw [if_pos c4] at hsem
          refine lv_tableIn (off := 36) (tgt := 72) hx hb dX6_thing_36 (by rw [c4]; decide) (by rw [c4]; decide) (by rw [c4]; rfl) (by decide) ?_
          refine lv_aload_n hx hb dX6_thing_72 rfl (lv_at hl 0 rfl) ?_
          refine va_get (D := g.1) (ci := 6) (v := .ref (hd 0 0)) (C := RX6) (T := TX6) (N := 8) hx hb hts (fun w h => List.mem_cons_of_mem _ (List.mem_append_left _ (List.mem_append_right _ h))) hown hK hP 0 rfl rfl 0 (by decide) (hts (.fieldLink RX6 10 "PauseRegions" "heap" "LPauseRegions$Heap;") (List.mem_of_getElem? (i := 1) rfl)) (fun _ h9 => h9) rfl dX6_thing_73 ?_
          refine va_get (D := g.1) (ci := 1) (v := .ref (hd 0 5)) (C := RX1) (T := TX1) (N := 18) hx hb hts (fun w h => List.mem_cons_of_mem _ (List.mem_append_right _ h)) hown hK hP 14 rfl rfl 4 (by decide) (hts (.fieldLink RX6 138 "PauseRegions$Heap" "size" "[I") (List.mem_of_getElem? (i := 2) rfl)) (fun _ h9 => h9) rfl dX6_thing_76 ?_
          refine lv_iload_n hx hb dX6_thing_79 rfl (lv_at hl 1 rfl) ?_
          obtain ⟨h1, hsem⟩ := ck_some hsem
          refine va_iald (D := g.1) hx hb hK hP 19 0 rfl rfl h1 dX6_thing_80 ?_
          have eo := (Option.some.inj hsem).symm.symm
          subst eo
          exact W.iret (v := ((HA 0) 4) p0.toNatClampNeg) hx hb hr (fun t ht hW => ⟨⟨_, (), rfl, rfl, ⟨by rw [ht]; exact hP, hD⟩⟩, hS.F ht⟩) hS.2.2 dX6_thing_81
        rw [if_neg c4] at hsem
        by_cases c5 : p1 = 1
        · rw [if_pos c5] at hsem
          refine lv_tableIn (off := 46) (tgt := 82) hx hb dX6_thing_36 (by rw [c5]; decide) (by rw [c5]; decide) (by rw [c5]; rfl) (by decide) ?_
          refine lv_aload_n hx hb dX6_thing_82 rfl (lv_at hl 0 rfl) ?_
          refine va_get (D := g.1) (ci := 6) (v := .ref (hd 0 0)) (C := RX6) (T := TX6) (N := 8) hx hb hts (fun w h => List.mem_cons_of_mem _ (List.mem_append_left _ (List.mem_append_right _ h))) hown hK hP 0 rfl rfl 0 (by decide) (hts (.fieldLink RX6 10 "PauseRegions" "heap" "LPauseRegions$Heap;") (List.mem_of_getElem? (i := 1) rfl)) (fun _ h9 => h9) rfl dX6_thing_83 ?_
          refine va_get (D := g.1) (ci := 1) (v := .ref (hd 0 6)) (C := RX1) (T := TX1) (N := 18) hx hb hts (fun w h => List.mem_cons_of_mem _ (List.mem_append_right _ h)) hown hK hP 14 rfl rfl 5 (by decide) (hts (.fieldLink RX6 141 "PauseRegions$Heap" "place" "[I") (List.mem_of_getElem? (i := 3) rfl)) (fun _ h9 => h9) rfl dX6_thing_86 ?_
          refine lv_iload_n hx hb dX6_thing_89 rfl (lv_at hl 1 rfl) ?_
          obtain ⟨h2, hsem⟩ := ck_some hsem
          refine va_iald (D := g.1) hx hb hK hP 20 0 rfl rfl h2 dX6_thing_90 ?_
          have eo := (Option.some.inj hsem).symm.symm
          subst eo
          exact W.iret (v := ((HA 0) 5) p0.toNatClampNeg) hx hb hr (fun t ht hW => ⟨⟨_, (), rfl, rfl, ⟨by rw [ht]; exact hP, hD⟩⟩, hS.F ht⟩) hS.2.2 dX6_thing_91
        rw [if_neg c5] at hsem
        by_cases c6 : p1 = 2
        · rw [if_pos c6] at hsem
          refine lv_tableIn (off := 56) (tgt := 92) hx hb dX6_thing_36 (by rw [c6]; decide) (by rw [c6]; decide) (by rw [c6]; rfl) (by decide) ?_
          refine lv_aload_n hx hb dX6_thing_92 rfl (lv_at hl 0 rfl) ?_
          refine va_get (D := g.1) (ci := 6) (v := .ref (hd 0 0)) (C := RX6) (T := TX6) (N := 8) hx hb hts (fun w h => List.mem_cons_of_mem _ (List.mem_append_left _ (List.mem_append_right _ h))) hown hK hP 0 rfl rfl 0 (by decide) (hts (.fieldLink RX6 10 "PauseRegions" "heap" "LPauseRegions$Heap;") (List.mem_of_getElem? (i := 1) rfl)) (fun _ h9 => h9) rfl dX6_thing_93 ?_
          refine va_get (D := g.1) (ci := 1) (v := .ref (hd 0 7)) (C := RX1) (T := TX1) (N := 18) hx hb hts (fun w h => List.mem_cons_of_mem _ (List.mem_append_right _ h)) hown hK hP 14 rfl rfl 6 (by decide) (hts (.fieldLink RX6 144 "PauseRegions$Heap" "cell" "[I") (List.mem_of_getElem? (i := 4) rfl)) (fun _ h9 => h9) rfl dX6_thing_96 ?_
          refine lv_iload_n hx hb dX6_thing_99 rfl (lv_at hl 1 rfl) ?_
          obtain ⟨h3, hsem⟩ := ck_some hsem
          refine va_iald (D := g.1) hx hb hK hP 21 0 rfl rfl h3 dX6_thing_100 ?_
          have eo := (Option.some.inj hsem).symm.symm
          subst eo
          exact W.iret (v := ((HA 0) 6) p0.toNatClampNeg) hx hb hr (fun t ht hW => ⟨⟨_, (), rfl, rfl, ⟨by rw [ht]; exact hP, hD⟩⟩, hS.F ht⟩) hS.2.2 dX6_thing_101
        rw [if_neg c6] at hsem
        by_cases c7 : p1 = 3
        · rw [if_pos c7] at hsem
          refine lv_tableIn (off := 66) (tgt := 102) hx hb dX6_thing_36 (by rw [c7]; decide) (by rw [c7]; decide) (by rw [c7]; rfl) (by decide) ?_
          refine lv_aload_n hx hb dX6_thing_102 rfl (lv_at hl 0 rfl) ?_
          refine va_get (D := g.1) (ci := 6) (v := .ref (hd 0 0)) (C := RX6) (T := TX6) (N := 8) hx hb hts (fun w h => List.mem_cons_of_mem _ (List.mem_append_left _ (List.mem_append_right _ h))) hown hK hP 0 rfl rfl 0 (by decide) (hts (.fieldLink RX6 10 "PauseRegions" "heap" "LPauseRegions$Heap;") (List.mem_of_getElem? (i := 1) rfl)) (fun _ h9 => h9) rfl dX6_thing_103 ?_
          refine lv_iload_n hx hb dX6_thing_106 rfl (lv_at hl 1 rfl) ?_
          refine lv_iconst (v := 0) hx hb dX6_thing_107 (by decide) ?_
          obtain ⟨x4, hc4, hsem⟩ := bn_some hsem
          refine pcV (C := RX1) (As := [.int p0, .int 0]) (rest := []) ⟨hx, hb, hml, hown, hts⟩ hKK (cwV 2 hts gX6_thing_X1_fieldOf rfl rfl rfl hdX1_fieldOf ⟨Nat.le_of_ble_eq_true rfl, Nat.le_of_ble_eq_true rfl⟩) (kX1_fieldOf (l := l) (g := g) (hP.sub (ws' := wH g (hd 0) (HA 0) (HF 0)) [14, 15, 16, 17, 18, 19, 20, 21, 22, 23, 24, 25, 26, 27, 28] rfl) hc4) (va_recv hK hP (ci := 1) (q0 := 14) rfl rfl) rfl hl.1 rfl (Nat.le_of_ble_eq_true rfl) dX6_thing_108 ⟨Nat.zero_le _, Nat.zero_le _⟩ ?_
          have eo := (Option.some.inj hsem).symm.symm
          subst eo
          exact W.iret (v := x4) hx hb hr (fun t ht hW => ⟨⟨_, (), rfl, rfl, ⟨by rw [ht]; exact hP, hD⟩⟩, hS.F ht⟩) hS.2.2 dX6_thing_111
        rw [if_neg c7] at hsem
        by_cases c8 : p1 = 4
        · rw [if_pos c8] at hsem
          refine lv_tableIn (off := 76) (tgt := 112) hx hb dX6_thing_36 (by rw [c8]; decide) (by rw [c8]; decide) (by rw [c8]; rfl) (by decide) ?_
          refine lv_aload_n hx hb dX6_thing_112 rfl (lv_at hl 0 rfl) ?_
          refine va_get (D := g.1) (ci := 6) (v := .ref (hd 0 0)) (C := RX6) (T := TX6) (N := 8) hx hb hts (fun w h => List.mem_cons_of_mem _ (List.mem_append_left _ (List.mem_append_right _ h))) hown hK hP 0 rfl rfl 0 (by decide) (hts (.fieldLink RX6 10 "PauseRegions" "heap" "LPauseRegions$Heap;") (List.mem_of_getElem? (i := 1) rfl)) (fun _ h9 => h9) rfl dX6_thing_113 ?_
          refine lv_iload_n hx hb dX6_thing_116 rfl (lv_at hl 1 rfl) ?_
          refine lv_iconst (v := 1) hx hb dX6_thing_117 (by decide) ?_
          obtain ⟨x5, hc5, hsem⟩ := bn_some hsem
          refine pcV (C := RX1) (As := [.int p0, .int 1]) (rest := []) ⟨hx, hb, hml, hown, hts⟩ hKK (cwV 2 hts gX6_thing_X1_fieldOf rfl rfl rfl hdX1_fieldOf ⟨Nat.le_of_ble_eq_true rfl, Nat.le_of_ble_eq_true rfl⟩) (kX1_fieldOf (l := l) (g := g) (hP.sub (ws' := wH g (hd 0) (HA 0) (HF 0)) [14, 15, 16, 17, 18, 19, 20, 21, 22, 23, 24, 25, 26, 27, 28] rfl) hc5) (va_recv hK hP (ci := 1) (q0 := 14) rfl rfl) rfl hl.1 rfl (Nat.le_of_ble_eq_true rfl) dX6_thing_118 ⟨Nat.zero_le _, Nat.zero_le _⟩ ?_
          have eo := (Option.some.inj hsem).symm.symm
          subst eo
          exact W.iret (v := x5) hx hb hr (fun t ht hW => ⟨⟨_, (), rfl, rfl, ⟨by rw [ht]; exact hP, hD⟩⟩, hS.F ht⟩) hS.2.2 dX6_thing_121
        rw [if_neg c8] at hsem
        refine lv_tableOut (tgt := 122) hx hb dX6_thing_36 (sw_out 4 rfl (fun n hn => by
          match n, hn with
          | 0, _ => exact sw_ne c4 rfl
          | 1, _ => exact sw_ne c5 rfl
          | 2, _ => exact sw_ne c6 rfl
          | 3, _ => exact sw_ne c7 rfl
          | 4, _ => exact sw_ne c8 rfl
          | n + 5, h => omega)) (by decide) ?_
        refine lv_aload_n hx hb dX6_thing_122 rfl (lv_at hl 0 rfl) ?_
        refine va_get (D := g.1) (ci := 6) (v := .ref (hd 0 0)) (C := RX6) (T := TX6) (N := 8) hx hb hts (fun w h => List.mem_cons_of_mem _ (List.mem_append_left _ (List.mem_append_right _ h))) hown hK hP 0 rfl rfl 0 (by decide) (hts (.fieldLink RX6 10 "PauseRegions" "heap" "LPauseRegions$Heap;") (List.mem_of_getElem? (i := 1) rfl)) (fun _ h9 => h9) rfl dX6_thing_123 ?_
        refine va_get (D := g.1) (ci := 1) (v := .int (((HA 0) 12 0))) (C := RX1) (T := TX1) (N := 18) hx hb hts (fun w h => List.mem_cons_of_mem _ (List.mem_append_right _ h)) hown hK hP 14 rfl rfl 12 (by decide) (hts (.fieldLink RX6 109 "PauseRegions$Heap" "marking" "Z") (List.mem_of_getElem? (i := 5) rfl)) (fun _ h9 => h9) rfl dX6_thing_126 ?_
        refine lv_if_eq (tgt := 144) hx hb dX6_thing_129 (by decide) (fun c9 => ?_) (fun c9 => ?_)
        · rw [if_pos c9] at hsem
          refine lv_bipush (v := (-9)) hx hb dX6_thing_144 (by decide) ?_
          have eo := (Option.some.inj hsem).symm.symm
          subst eo
          exact W.iret (v := (-9)) hx hb hr (fun t ht hW => ⟨⟨_, (), rfl, rfl, ⟨by rw [ht]; exact hP, hD⟩⟩, hS.F ht⟩) hS.2.2 dX6_thing_146
        · rw [if_neg c9] at hsem
          refine lv_aload_n hx hb dX6_thing_132 rfl (lv_at hl 0 rfl) ?_
          refine va_get (D := g.1) (ci := 6) (v := .ref (hd 0 0)) (C := RX6) (T := TX6) (N := 8) hx hb hts (fun w h => List.mem_cons_of_mem _ (List.mem_append_left _ (List.mem_append_right _ h))) hown hK hP 0 rfl rfl 0 (by decide) (hts (.fieldLink RX6 10 "PauseRegions" "heap" "LPauseRegions$Heap;") (List.mem_of_getElem? (i := 1) rfl)) (fun _ h9 => h9) rfl dX6_thing_133 ?_
          refine va_get (D := g.1) (ci := 1) (v := .ref (hd 0 9)) (C := RX1) (T := TX1) (N := 18) hx hb hts (fun w h => List.mem_cons_of_mem _ (List.mem_append_right _ h)) hown hK hP 14 rfl rfl 8 (by decide) (hts (.fieldLink RX6 147 "PauseRegions$Heap" "colour" "[I") (List.mem_of_getElem? (i := 6) rfl)) (fun _ h9 => h9) rfl dX6_thing_136 ?_
          refine lv_iload_n hx hb dX6_thing_139 rfl (lv_at hl 1 rfl) ?_
          obtain ⟨h4, hsem⟩ := ck_some hsem
          refine va_iald (D := g.1) hx hb hK hP 23 0 rfl rfl h4 dX6_thing_140 ?_
          refine lv_goto (tgt := 146) hx hb dX6_thing_141 (by decide) ?_
          have eo := (Option.some.inj hsem).symm.symm
          subst eo
          exact W.iret (v := ((HA 0) 8) p0.toNatClampNeg) hx hb hr (fun t ht hW => ⟨⟨_, (), rfl, rfl, ⟨by rw [ht]; exact hP, hD⟩⟩, hS.F ht⟩) hS.2.2 dX6_thing_146
      · rw [if_pos c3] at hsem
        refine lv_bipush (v := (-9)) hx hb dX6_thing_32 (by decide) ?_
        have eo := (Option.some.inj hsem).symm.symm
        subst eo
        exact W.iret (v := (-9)) hx hb hr (fun t ht hW => ⟨⟨_, (), rfl, rfl, ⟨by rw [ht]; exact hP, hD⟩⟩, hS.F ht⟩) hS.2.2 dX6_thing_34
    · rw [if_pos c2] at hsem
      refine lv_iconst (v := (-1)) hx hb dX6_thing_19 (by decide) ?_
      have eo := (Option.some.inj hsem).symm.symm
      subst eo
      exact W.iret (v := (-1)) hx hb hr (fun t ht hW => ⟨⟨_, (), rfl, rfl, ⟨by rw [ht]; exact hP, hD⟩⟩, hS.F ht⟩) hS.2.2 dX6_thing_20
def sX6_undo (nxi : Int32) (kni : Int32) (HA : Nat → IA) (HFc : Nat → FA) : Option (Int32 × Int32 × Int32 × (Nat → IA) × (Nat → FA)) :=
  if kni = 0 then (some (((-2), nxi, kni, HA, HFc))) else ((sX2_pop nxi kni HA HFc).bind fun z1 => some (z1.2.1, z1.1, z1.2.1, z1.2.2.1, z1.2.2.2))
abbrev rmX6_undo : Room := { frames := 4, cells := 0, slots := 0, locals := 103 }
theorem hdX6_undo : yX6_undo.cls = RX6 ∧ yX6_undo.cls ≠ "java/lang/invoke/MethodHandle" ∧ yX6_undo.cls ≠ "java/lang/invoke/VarHandle" ∧ (parseMethodDescriptor yX6_undo.desc).map (fun d => d.parameters.length) = some 0 := by decide +kernel
set_option maxHeartbeats 8000000 in
set_option maxRecDepth 100000 in
theorem kX6_undo {l : Launch} {g : GG} {sz : Nat} {a0 a1 a2 : Nat} {im : Nat → Option Nat} {kf : Nat → Int32} {a0t : Nat} {rgt : Int32} {yct : Int32} {fct : UInt32} {adp : Nat → Nat} {Ap : IA} {Fp : FA} {adr : Nat → Nat} {Ar : IA} {a0i a1i : Nat} {pf : Nat → Option Nat} {nxi kni : Int32} {hd : Nat → Nat → Nat} {HA : Nat → IA} {HF : Nat → FA} (hpf : ∀ k, k < 6 → pf k = some (hd (2 + k) 0)) {fctc : UInt32} (hfct : alike32 fct fctc = true) {Fpc : FA} (hALp : AL Fp Fpc) {HFc : Nat → FA} (hALH : ALH HF HFc) {b : Int32 × Int32 × Int32 × (Nat → IA) × (Nat → FA)} (hsem : sX6_undo nxi kni HA HFc = some b) : MetDI l yX6_undo wsX6_undo rmX6_undo g [.ref a0] (wTp g a0 a1 a2 a0t (adp 0) (adr 0) a0i (hd 0 0) (hd 1 0) im kf ++ (wC g a0t rgt yct fct ++ (wPa g adp Ap Fp ++ (wRe g adr Ar ++ (wHi g a0i a1i pf nxi kni ++ (wH g (hd 0) (HA 0) (HF 0) ++ (wH g (hd 1) (HA 1) (HF 1) ++ (wH g (hd 2) (HA 2) (HF 2) ++ (wH g (hd 3) (HA 3) (HF 3) ++ (wH g (hd 4) (HA 4) (HF 4) ++ (wH g (hd 5) (HA 5) (HF 5) ++ (wH g (hd 6) (HA 6) (HF 6) ++ (wH g (hd 7) (HA 7) (HF 7) ++ (wH g (hd 8) (HA 8) (HF 8) ++ (wH g (hd 9) (HA 9) (HF 9) ++ ([])))))))))))))))) sz b.1 (φ := (Nat → FA)) (fun u => ALH u b.2.2.2.2) (fun u => wTp g a0 a1 a2 a0t (adp 0) (adr 0) a0i (hd 0 0) (hd 1 0) im kf ++ (wC g a0t rgt yct fct ++ (wPa g adp Ap Fp ++ (wRe g adr Ar ++ (wHi g a0i a1i pf b.2.1 b.2.2.1 ++ (wH g (hd 0) (b.2.2.2.1 0) (u 0) ++ (wH g (hd 1) (b.2.2.2.1 1) (u 1) ++ (wH g (hd 2) (b.2.2.2.1 2) (u 2) ++ (wH g (hd 3) (b.2.2.2.1 3) (u 3) ++ (wH g (hd 4) (b.2.2.2.1 4) (u 4) ++ (wH g (hd 5) (b.2.2.2.1 5) (u 5) ++ (wH g (hd 6) (b.2.2.2.1 6) (u 6) ++ (wH g (hd 7) (b.2.2.2.1 7) (u 7) ++ (wH g (hd 8) (b.2.2.2.1 8) (u 8) ++ (wH g (hd 9) (b.2.2.2.1 9) (u 9) ++ ([])))))))))))))))) := by
  refine MetD.ofW (cc := cX6_undo) (maxL := 1) (ret := (some .int)) (by decide) rfl ?_
  intro p e s m args below meth c s₁ B hml hv hd0
  obtain ⟨rfl, hsz, hP, hD0, hKK⟩ := hv
  subst hsz
  have hx := B.exec
  have hb := B.bytes
  have hr := B.returns
  have hts := atoms_spec (ws := wsX6_undo) B.pre
  have hown : ∀ d, (s.setDrawn d).vm.findClass RX6 = some m.cls := fun _ => findClass_of_methodNamed B.named
  have hlocks := B.notSynchronized
  have hK : ∀ d, va_K g.1 vwCl (KT g) (s.setDrawn d) := fun d => (hKK.drawn d).1
  have hD := hD0.self (sz := s.heap.size)
  generalize hZe : va_A (wTp g a0 a1 a2 a0t (adp 0) (adr 0) a0i (hd 0 0) (hd 1 0) im kf ++ (wC g a0t rgt yct fct ++ (wPa g adp Ap Fp ++ (wRe g adr Ar ++ (wHi g a0i a1i pf nxi kni ++ (wH g (hd 0) (HA 0) (HF 0) ++ (wH g (hd 1) (HA 1) (HF 1) ++ (wH g (hd 2) (HA 2) (HF 2) ++ (wH g (hd 3) (HA 3) (HF 3) ++ (wH g (hd 4) (HA 4) (HF 4) ++ (wH g (hd 5) (HA 5) (HF 5) ++ (wH g (hd 6) (HA 6) (HF 6) ++ (wH g (hd 7) (HA 7) (HF 7) ++ (wH g (hd 8) (HA 8) (HF 8) ++ (wH g (hd 9) (HA 9) (HF 9) ++ ([])))))))))))))))) s.heap.size = Z at hD ⊢
  have hZ : ∀ q : Nat, s.heap.size ≤ q → Z q := fun q h => by rw [← hZe]; exact Or.inr h
  have hS : va_S Z s.heap s.heap [] := va_S.rf
  have hP : va_P g.1 vwCl (wTp g a0 a1 a2 a0t (adp 0) (adr 0) a0i (hd 0 0) (hd 1 0) im kf ++ (wC g a0t rgt yct fct ++ (wPa g adp Ap Fp ++ (wRe g adr Ar ++ (wHi g a0i a1i pf nxi kni ++ (wH g (hd 0) (HA 0) (HF 0) ++ (wH g (hd 1) (HA 1) (HF 1) ++ (wH g (hd 2) (HA 2) (HF 2) ++ (wH g (hd 3) (HA 3) (HF 3) ++ (wH g (hd 4) (HA 4) (HF 4) ++ (wH g (hd 5) (HA 5) (HF 5) ++ (wH g (hd 6) (HA 6) (HF 6) ++ (wH g (hd 7) (HA 7) (HF 7) ++ (wH g (hd 8) (HA 8) (HF 8) ++ (wH g (hd 9) (HA 9) (HF 9) ++ ([])))))))))))))))) s.heap := hP
  have hD : va_D Z (wTp g a0 a1 a2 a0t (adp 0) (adr 0) a0i (hd 0 0) (hd 1 0) im kf ++ (wC g a0t rgt yct fct ++ (wPa g adp Ap Fp ++ (wRe g adr Ar ++ (wHi g a0i a1i pf nxi kni ++ (wH g (hd 0) (HA 0) (HF 0) ++ (wH g (hd 1) (HA 1) (HF 1) ++ (wH g (hd 2) (HA 2) (HF 2) ++ (wH g (hd 3) (HA 3) (HF 3) ++ (wH g (hd 4) (HA 4) (HF 4) ++ (wH g (hd 5) (HA 5) (HF 5) ++ (wH g (hd 6) (HA 6) (HF 6) ++ (wH g (hd 7) (HA 7) (HF 7) ++ (wH g (hd 8) (HA 8) (HF 8) ++ (wH g (hd 9) (HA 9) (HF 9) ++ ([])))))))))))))))) := hD
  obtain ⟨d, hdr, hdd⟩ : ∃ d, s.drawn.sameBut d lw_cs ∧ s.drawn = d := ⟨_, hd0, rfl⟩
  rw [hdd]
  have hl := lv_entry ([.ref a0]) (n := 1) (Nat.le_of_ble_eq_true rfl)
  rw [lg_entry_eq]
  generalize (lg_sl ([.ref a0]) ++ List.replicate (1 - (lg_sl ([.ref a0])).length) Slot.unset).toArray = ls at hl ⊢
  have hl : lv_has ls 1 [(0, .ref a0)] := hl
  unfold sX6_undo at hsem
  refine lv_aload_n hx hb dX6_undo_0 rfl (lv_at hl 0 rfl) ?_
  refine va_get (D := g.1) (ci := 6) (v := .ref a0i) (C := RX6) (T := TX6) (N := 8) hx hb (dr_words hts d) (fun w h => List.mem_cons_of_mem _ (List.mem_append_left _ (List.mem_append_left _ (List.mem_append_left _ (List.mem_append_right _ h))))) (hown d) (hK d) hP 0 rfl rfl 2 (by decide) ((dr_words hts d) (.fieldLink RX6 22 "PauseRegions" "history" "LPauseRegions$History;") (List.mem_of_getElem? (i := 1) rfl)) (fun _ h9 => h9) rfl dX6_undo_1 ?_
  refine va_get (D := g.1) (ci := 2) (v := .int kni) (C := RX2) (T := TX2) (N := 3) hx hb (dr_words hts d) (fun w h => List.mem_cons_of_mem _ (List.mem_append_left _ (List.mem_append_left _ (List.mem_append_right _ h)))) (hown d) (hK d) hP 12 rfl rfl 2 (by decide) ((dr_words hts d) (.fieldLink RX6 129 "PauseRegions$History" "known" "I") (List.mem_of_getElem? (i := 2) rfl)) (fun _ h9 => h9) rfl dX6_undo_4 ?_
  refine lv_if_ne (tgt := 13) hx hb dX6_undo_7 (by decide) (fun c1 => ?_) (fun c1 => ?_)
  · rw [if_neg c1] at hsem
    refine lv_aload_n hx hb dX6_undo_13 rfl (lv_at hl 0 rfl) ?_
    refine va_get (D := g.1) (ci := 6) (v := .ref a0i) (C := RX6) (T := TX6) (N := 8) hx hb (dr_words hts d) (fun w h => List.mem_cons_of_mem _ (List.mem_append_left _ (List.mem_append_left _ (List.mem_append_left _ (List.mem_append_right _ h))))) (hown d) (hK d) hP 0 rfl rfl 2 (by decide) ((dr_words hts d) (.fieldLink RX6 22 "PauseRegions" "history" "LPauseRegions$History;") (List.mem_of_getElem? (i := 1) rfl)) (fun _ h9 => h9) rfl dX6_undo_14 ?_
    refine lv_aload_n hx hb dX6_undo_17 rfl (lv_at hl 0 rfl) ?_
    refine va_get (D := g.1) (ci := 6) (v := .ref (hd 0 0)) (C := RX6) (T := TX6) (N := 8) hx hb (dr_words hts d) (fun w h => List.mem_cons_of_mem _ (List.mem_append_left _ (List.mem_append_left _ (List.mem_append_left _ (List.mem_append_right _ h))))) (hown d) (hK d) hP 0 rfl rfl 0 (by decide) ((dr_words hts d) (.fieldLink RX6 10 "PauseRegions" "heap" "LPauseRegions$Heap;") (List.mem_of_getElem? (i := 3) rfl)) (fun _ h9 => h9) rfl dX6_undo_18 ?_
    obtain ⟨z1, hc1, hsem⟩ := bn_some hsem
    refine tdV (C := RX2) (As := [.ref (hd 0 0)]) (rest := []) hP hD hS hZ (pF1 (wTp g a0 a1 a2 a0t (adp 0) (adr 0) a0i (hd 0 0) (hd 1 0) im kf ++ (wC g a0t rgt yct fct ++ (wPa g adp Ap Fp ++ (wRe g adr Ar ++ ([]))))) (wHi g a0i a1i pf nxi kni ++ (wH g (hd 0) (HA 0) (HF 0) ++ (wH g (hd 1) (HA 1) (HF 1) ++ (wH g (hd 2) (HA 2) (HF 2) ++ (wH g (hd 3) (HA 3) (HF 3) ++ (wH g (hd 4) (HA 4) (HF 4) ++ (wH g (hd 5) (HA 5) (HF 5) ++ (wH g (hd 6) (HA 6) (HF 6) ++ (wH g (hd 7) (HA 7) (HF 7) ++ (wH g (hd 8) (HA 8) (HF 8) ++ (wH g (hd 9) (HA 9) (HF 9) ++ ([])))))))))))) ([])) hdr ⟨hx, hb, hml, (hown d), (dr_words hts d)⟩ (hKK.drawn d) (cwV 1 (dr_words hts d) gX6_undo_X2_pop rfl rfl rfl hdX2_pop ⟨Nat.le_of_ble_eq_true rfl, Nat.le_of_ble_eq_true rfl⟩) (kX2_pop (l := l) (g := g) (a0i := a0i) (a1i := a1i) (hd := hd) (pf := pf) (nxi := nxi) (kni := kni) (HA := HA) (HF := HF) (HFc := HFc) hpf hALH hc1) (va_recv (hK d) hP (ci := 2) (q0 := 12) rfl rfl) rfl hl.1 rfl (Nat.le_of_ble_eq_true rfl) dX6_undo_21 ⟨Nat.zero_le _, Nat.zero_le _⟩ (fun u1 H locs d hpo hP hD hS hdr => ?_)
    have hq1 := hpo
    have hP : va_P g.1 vwCl (wTp g a0 a1 a2 a0t (adp 0) (adr 0) a0i (hd 0 0) (hd 1 0) im kf ++ (wC g a0t rgt yct fct ++ (wPa g adp Ap Fp ++ (wRe g adr Ar ++ (wHi g a0i a1i pf z1.1 z1.2.1 ++ (wH g (hd 0) (z1.2.2.1 0) (u1 0) ++ (wH g (hd 1) (z1.2.2.1 1) (u1 1) ++ (wH g (hd 2) (z1.2.2.1 2) (u1 2) ++ (wH g (hd 3) (z1.2.2.1 3) (u1 3) ++ (wH g (hd 4) (z1.2.2.1 4) (u1 4) ++ (wH g (hd 5) (z1.2.2.1 5) (u1 5) ++ (wH g (hd 6) (z1.2.2.1 6) (u1 6) ++ (wH g (hd 7) (z1.2.2.1 7) (u1 7) ++ (wH g (hd 8) (z1.2.2.1 8) (u1 8) ++ (wH g (hd 9) (z1.2.2.1 9) (u1 9) ++ ([])))))))))))))))) H := vaP_perm (pF1 (wTp g a0 a1 a2 a0t (adp 0) (adr 0) a0i (hd 0 0) (hd 1 0) im kf ++ (wC g a0t rgt yct fct ++ (wPa g adp Ap Fp ++ (wRe g adr Ar ++ ([]))))) (wHi g a0i a1i pf z1.1 z1.2.1 ++ (wH g (hd 0) (z1.2.2.1 0) (u1 0) ++ (wH g (hd 1) (z1.2.2.1 1) (u1 1) ++ (wH g (hd 2) (z1.2.2.1 2) (u1 2) ++ (wH g (hd 3) (z1.2.2.1 3) (u1 3) ++ (wH g (hd 4) (z1.2.2.1 4) (u1 4) ++ (wH g (hd 5) (z1.2.2.1 5) (u1 5) ++ (wH g (hd 6) (z1.2.2.1 6) (u1 6) ++ (wH g (hd 7) (z1.2.2.1 7) (u1 7) ++ (wH g (hd 8) (z1.2.2.1 8) (u1 8) ++ (wH g (hd 9) (z1.2.2.1 9) (u1 9) ++ ([])))))))))))) ([])).symm (by exact hP)
    have hD : va_D Z (wTp g a0 a1 a2 a0t (adp 0) (adr 0) a0i (hd 0 0) (hd 1 0) im kf ++ (wC g a0t rgt yct fct ++ (wPa g adp Ap Fp ++ (wRe g adr Ar ++ (wHi g a0i a1i pf z1.1 z1.2.1 ++ (wH g (hd 0) (z1.2.2.1 0) (u1 0) ++ (wH g (hd 1) (z1.2.2.1 1) (u1 1) ++ (wH g (hd 2) (z1.2.2.1 2) (u1 2) ++ (wH g (hd 3) (z1.2.2.1 3) (u1 3) ++ (wH g (hd 4) (z1.2.2.1 4) (u1 4) ++ (wH g (hd 5) (z1.2.2.1 5) (u1 5) ++ (wH g (hd 6) (z1.2.2.1 6) (u1 6) ++ (wH g (hd 7) (z1.2.2.1 7) (u1 7) ++ (wH g (hd 8) (z1.2.2.1 8) (u1 8) ++ (wH g (hd 9) (z1.2.2.1 9) (u1 9) ++ ([])))))))))))))))) := vaD_perm (pF1 (wTp g a0 a1 a2 a0t (adp 0) (adr 0) a0i (hd 0 0) (hd 1 0) im kf ++ (wC g a0t rgt yct fct ++ (wPa g adp Ap Fp ++ (wRe g adr Ar ++ ([]))))) (wHi g a0i a1i pf z1.1 z1.2.1 ++ (wH g (hd 0) (z1.2.2.1 0) (u1 0) ++ (wH g (hd 1) (z1.2.2.1 1) (u1 1) ++ (wH g (hd 2) (z1.2.2.1 2) (u1 2) ++ (wH g (hd 3) (z1.2.2.1 3) (u1 3) ++ (wH g (hd 4) (z1.2.2.1 4) (u1 4) ++ (wH g (hd 5) (z1.2.2.1 5) (u1 5) ++ (wH g (hd 6) (z1.2.2.1 6) (u1 6) ++ (wH g (hd 7) (z1.2.2.1 7) (u1 7) ++ (wH g (hd 8) (z1.2.2.1 8) (u1 8) ++ (wH g (hd 9) (z1.2.2.1 9) (u1 9) ++ ([])))))))))))) ([])).symm (by exact hD)
    refine lv_aload_n hx hb dX6_undo_24 rfl (lv_at hl 0 rfl) ?_
    refine va_get (D := g.1) (ci := 6) (v := .ref a0i) (C := RX6) (T := TX6) (N := 8) hx hb (dr_words hts d) (fun w h => List.mem_cons_of_mem _ (List.mem_append_left _ (List.mem_append_left _ (List.mem_append_left _ (List.mem_append_right _ h))))) (hown d) (hK d) hP 0 rfl rfl 2 (by decide) ((dr_words hts d) (.fieldLink RX6 22 "PauseRegions" "history" "LPauseRegions$History;") (List.mem_of_getElem? (i := 1) rfl)) (fun _ h9 => h9) rfl dX6_undo_25 ?_
    refine va_get (D := g.1) (ci := 2) (v := .int z1.2.1) (C := RX2) (T := TX2) (N := 3) hx hb (dr_words hts d) (fun w h => List.mem_cons_of_mem _ (List.mem_append_left _ (List.mem_append_left _ (List.mem_append_right _ h)))) (hown d) (hK d) hP 12 rfl rfl 2 (by decide) ((dr_words hts d) (.fieldLink RX6 129 "PauseRegions$History" "known" "I") (List.mem_of_getElem? (i := 2) rfl)) (fun _ h9 => h9) rfl dX6_undo_28 ?_
    have eo := (Option.some.inj hsem).symm.symm
    refine W.endD hdr ?_
    subst eo
    exact W.iret (v := z1.2.1) hx hb hr (fun t ht hW => ⟨⟨_, u1, rfl, ⟨rfl, hq1⟩, ⟨by rw [ht]; exact hP, hD⟩⟩, hS.F ht⟩) hS.2.2 dX6_undo_31
  · rw [if_pos c1] at hsem
    refine lv_bipush (v := (-2)) hx hb dX6_undo_10 (by decide) ?_
    have eo := (Option.some.inj hsem).symm.symm
    refine W.endD hdr ?_
    subst eo
    exact W.iret (v := (-2)) hx hb hr (fun t ht hW => ⟨⟨_, HF, rfl, ⟨rfl, hALH⟩, ⟨by rw [ht]; exact hP, hD⟩⟩, hS.F ht⟩) hS.2.2 dX6_undo_12
def sX6_way (Ar : IA) (HA : Nat → IA) (p0 : Int32) (p1 : Int32) : Option (Int32 × IA) :=
  (sX6_within p0 0 31).bind fun x1 => if x1 = 0 then (some (((-1), Ar))) else ((sX1_isThere (HA 0) p0).bind fun x2 => if x2 = 0 then (some (((-1), Ar))) else (if (-1) ≤ p1 then ((sX4_measureTo Ar (HA 0) p0).bind fun z1 => (sX4_nearestRoot z1 (HA 0)).bind fun x3 => if x3 = (-9) then (some (((-9), z1))) else (ck x3 32 (bd ((z1 1) x3.toNatClampNeg) fun x4 => if p1 = (-1) then (some (x4, z1)) else (if x4 ≤ p1 then (some (((-9), z1))) else ((sX4_walk z1 (HA 0) x3 p1).bind fun x5 => some (x5, z1)))))) else (some (((-1), Ar)))))
abbrev rmX6_way : Room := { frames := 3, cells := 0, slots := 0, locals := 74 }
theorem hdX6_way : yX6_way.cls = RX6 ∧ yX6_way.cls ≠ "java/lang/invoke/MethodHandle" ∧ yX6_way.cls ≠ "java/lang/invoke/VarHandle" ∧ (parseMethodDescriptor yX6_way.desc).map (fun d => d.parameters.length) = some 2 := by decide +kernel
set_option maxHeartbeats 8000000 in
set_option maxRecDepth 100000 in
theorem kX6_way {l : Launch} {g : GG} {sz : Nat} {a0 a1 a2 : Nat} {im : Nat → Option Nat} {kf : Nat → Int32} {a0t : Nat} {rgt : Int32} {yct : Int32} {fct : UInt32} {adp : Nat → Nat} {Ap : IA} {Fp : FA} {adr : Nat → Nat} {Ar : IA} {a0i a1i : Nat} {pf : Nat → Option Nat} {nxi kni : Int32} {hd : Nat → Nat → Nat} {HA : Nat → IA} {HF : Nat → FA} {p0 p1 : Int32} {b : Int32 × IA} (hsem : sX6_way Ar HA p0 p1 = some b) : MetI l yX6_way wsX6_way rmX6_way g [.ref a0, .int p0, .int p1] (wTp g a0 a1 a2 a0t (adp 0) (adr 0) a0i (hd 0 0) (hd 1 0) im kf ++ (wC g a0t rgt yct fct ++ (wPa g adp Ap Fp ++ (wRe g adr Ar ++ (wHi g a0i a1i pf nxi kni ++ (wH g (hd 0) (HA 0) (HF 0) ++ (wH g (hd 1) (HA 1) (HF 1) ++ (wH g (hd 2) (HA 2) (HF 2) ++ (wH g (hd 3) (HA 3) (HF 3) ++ (wH g (hd 4) (HA 4) (HF 4) ++ (wH g (hd 5) (HA 5) (HF 5) ++ (wH g (hd 6) (HA 6) (HF 6) ++ (wH g (hd 7) (HA 7) (HF 7) ++ (wH g (hd 8) (HA 8) (HF 8) ++ (wH g (hd 9) (HA 9) (HF 9) ++ ([])))))))))))))))) sz b.1 (wTp g a0 a1 a2 a0t (adp 0) (adr 0) a0i (hd 0 0) (hd 1 0) im kf ++ (wC g a0t rgt yct fct ++ (wPa g adp Ap Fp ++ (wRe g adr b.2 ++ (wHi g a0i a1i pf nxi kni ++ (wH g (hd 0) (HA 0) (HF 0) ++ (wH g (hd 1) (HA 1) (HF 1) ++ (wH g (hd 2) (HA 2) (HF 2) ++ (wH g (hd 3) (HA 3) (HF 3) ++ (wH g (hd 4) (HA 4) (HF 4) ++ (wH g (hd 5) (HA 5) (HF 5) ++ (wH g (hd 6) (HA 6) (HF 6) ++ (wH g (hd 7) (HA 7) (HF 7) ++ (wH g (hd 8) (HA 8) (HF 8) ++ (wH g (hd 9) (HA 9) (HF 9) ++ ([])))))))))))))))) := by
  refine Met.ofW (cc := cX6_way) (maxL := 5) (ret := (some .int)) (by decide) rfl ?_
  intro p e s m args below meth c s₁ B hml hv
  obtain ⟨rfl, hsz, hP, hD0, hKK⟩ := hv
  subst hsz
  have hx := B.exec
  have hb := B.bytes
  have hr := B.returns
  have hts := atoms_spec (ws := wsX6_way) B.pre
  have hown : s.vm.findClass RX6 = some m.cls := findClass_of_methodNamed B.named
  have hlocks := B.notSynchronized
  have hK := hKK.1
  have hD := hD0.self (sz := s.heap.size)
  generalize hZe : va_A (wTp g a0 a1 a2 a0t (adp 0) (adr 0) a0i (hd 0 0) (hd 1 0) im kf ++ (wC g a0t rgt yct fct ++ (wPa g adp Ap Fp ++ (wRe g adr Ar ++ (wHi g a0i a1i pf nxi kni ++ (wH g (hd 0) (HA 0) (HF 0) ++ (wH g (hd 1) (HA 1) (HF 1) ++ (wH g (hd 2) (HA 2) (HF 2) ++ (wH g (hd 3) (HA 3) (HF 3) ++ (wH g (hd 4) (HA 4) (HF 4) ++ (wH g (hd 5) (HA 5) (HF 5) ++ (wH g (hd 6) (HA 6) (HF 6) ++ (wH g (hd 7) (HA 7) (HF 7) ++ (wH g (hd 8) (HA 8) (HF 8) ++ (wH g (hd 9) (HA 9) (HF 9) ++ ([])))))))))))))))) s.heap.size = Z at hD ⊢
  have hZ : ∀ q : Nat, s.heap.size ≤ q → Z q := fun q h => by rw [← hZe]; exact Or.inr h
  have hS : va_S Z s.heap s.heap [] := va_S.rf
  have hP : va_P g.1 vwCl (wTp g a0 a1 a2 a0t (adp 0) (adr 0) a0i (hd 0 0) (hd 1 0) im kf ++ (wC g a0t rgt yct fct ++ (wPa g adp Ap Fp ++ (wRe g adr Ar ++ (wHi g a0i a1i pf nxi kni ++ (wH g (hd 0) (HA 0) (HF 0) ++ (wH g (hd 1) (HA 1) (HF 1) ++ (wH g (hd 2) (HA 2) (HF 2) ++ (wH g (hd 3) (HA 3) (HF 3) ++ (wH g (hd 4) (HA 4) (HF 4) ++ (wH g (hd 5) (HA 5) (HF 5) ++ (wH g (hd 6) (HA 6) (HF 6) ++ (wH g (hd 7) (HA 7) (HF 7) ++ (wH g (hd 8) (HA 8) (HF 8) ++ (wH g (hd 9) (HA 9) (HF 9) ++ ([])))))))))))))))) s.heap := hP
  have hD : va_D Z (wTp g a0 a1 a2 a0t (adp 0) (adr 0) a0i (hd 0 0) (hd 1 0) im kf ++ (wC g a0t rgt yct fct ++ (wPa g adp Ap Fp ++ (wRe g adr Ar ++ (wHi g a0i a1i pf nxi kni ++ (wH g (hd 0) (HA 0) (HF 0) ++ (wH g (hd 1) (HA 1) (HF 1) ++ (wH g (hd 2) (HA 2) (HF 2) ++ (wH g (hd 3) (HA 3) (HF 3) ++ (wH g (hd 4) (HA 4) (HF 4) ++ (wH g (hd 5) (HA 5) (HF 5) ++ (wH g (hd 6) (HA 6) (HF 6) ++ (wH g (hd 7) (HA 7) (HF 7) ++ (wH g (hd 8) (HA 8) (HF 8) ++ (wH g (hd 9) (HA 9) (HF 9) ++ ([])))))))))))))))) := hD
  have hl := lv_entry ([.ref a0, .int p0, .int p1]) (n := 5) (Nat.le_of_ble_eq_true rfl)
  rw [lg_entry_eq]
  generalize (lg_sl ([.ref a0, .int p0, .int p1]) ++ List.replicate (5 - (lg_sl ([.ref a0, .int p0, .int p1])).length) Slot.unset).toArray = ls at hl ⊢
  have hl : lv_has ls 5 [(0, .ref a0), (1, .int p0), (2, .int p1)] := hl
  unfold sX6_way at hsem
  refine lv_iload_n hx hb dX6_way_0 rfl (lv_at hl 1 rfl) ?_
  refine lv_iconst (v := 0) hx hb dX6_way_1 (by decide) ?_
  refine lv_bipush (v := 31) hx hb dX6_way_2 (by decide) ?_
  obtain ⟨x1, hc1, hsem⟩ := bn_some hsem
  refine pcS (As := [.int p0, .int 0, .int 31]) (rest := []) ⟨hx, hb, hml, hown, hts⟩ hKK (va_cwS 3 hts gX6_way_X6_within rfl rfl rfl hdX6_within ⟨Nat.le_of_ble_eq_true rfl, Nat.le_of_ble_eq_true rfl⟩) (kX6_within (l := l) (g := g) hc1) rfl hl.1 rfl (Nat.le_of_ble_eq_true rfl) dX6_way_4 ⟨Nat.zero_le _, Nat.zero_le _⟩ ?_
  refine lv_if_eq (tgt := 26) hx hb dX6_way_7 (by decide) (fun c1 => ?_) (fun c1 => ?_)
  · rw [if_pos c1] at hsem
    refine lv_iconst (v := (-1)) hx hb dX6_way_26 (by decide) ?_
    have eo := (Option.some.inj hsem).symm.symm
    subst eo
    exact W.iret (v := (-1)) hx hb hr (fun t ht hW => ⟨⟨_, (), rfl, rfl, ⟨by rw [ht]; exact hP, hD⟩⟩, hS.F ht⟩) hS.2.2 dX6_way_27
  · rw [if_neg c1] at hsem
    refine lv_aload_n hx hb dX6_way_10 rfl (lv_at hl 0 rfl) ?_
    refine va_get (D := g.1) (ci := 6) (v := .ref (hd 0 0)) (C := RX6) (T := TX6) (N := 8) hx hb hts (fun w h => List.mem_cons_of_mem _ (List.mem_append_left _ (List.mem_append_left _ (List.mem_append_right _ h)))) hown hK hP 0 rfl rfl 0 (by decide) (hts (.fieldLink RX6 10 "PauseRegions" "heap" "LPauseRegions$Heap;") (List.mem_of_getElem? (i := 1) rfl)) (fun _ h9 => h9) rfl dX6_way_11 ?_
    refine lv_iload_n hx hb dX6_way_14 rfl (lv_at hl 1 rfl) ?_
    obtain ⟨x2, hc2, hsem⟩ := bn_some hsem
    refine pcV (C := RX1) (As := [.int p0]) (rest := []) ⟨hx, hb, hml, hown, hts⟩ hKK (cwV 1 hts gX6_way_X1_isThere rfl rfl rfl hdX1_isThere ⟨Nat.le_of_ble_eq_true rfl, Nat.le_of_ble_eq_true rfl⟩) (kX1_isThere (l := l) (g := g) (hP.sub (ws' := wH g (hd 0) (HA 0) (HF 0)) [14, 15, 16, 17, 18, 19, 20, 21, 22, 23, 24, 25, 26, 27, 28] rfl) hc2) (va_recv hK hP (ci := 1) (q0 := 14) rfl rfl) rfl hl.1 rfl (Nat.le_of_ble_eq_true rfl) dX6_way_15 ⟨Nat.zero_le _, Nat.zero_le _⟩ ?_
    refine lv_if_eq (tgt := 26) hx hb dX6_way_18 (by decide) (fun c2 => ?_) (fun c2 => ?_)
    · rw [if_pos c2] at hsem
      refine lv_iconst (v := (-1)) hx hb dX6_way_26 (by decide) ?_
      have eo := (Option.some.inj hsem).symm.symm
      subst eo
      exact W.iret (v := (-1)) hx hb hr (fun t ht hW => ⟨⟨_, (), rfl, rfl, ⟨by rw [ht]; exact hP, hD⟩⟩, hS.F ht⟩) hS.2.2 dX6_way_27
    · rw [if_neg c2] at hsem
      refine lv_iload_n hx hb dX6_way_21 rfl (lv_at hl 2 rfl) ?_
      refine lv_iconst (v := (-1)) hx hb dX6_way_22 (by decide) ?_
      refine lv_icmp_ge (tgt := 28) hx hb dX6_way_23 (by decide) (fun c3 => ?_) (fun c3 => ?_)
      · rw [if_pos c3] at hsem
        refine lv_aload_n hx hb dX6_way_28 rfl (lv_at hl 0 rfl) ?_
        refine va_get (D := g.1) (ci := 6) (v := .ref (adr 0)) (C := RX6) (T := TX6) (N := 8) hx hb hts (fun w h => List.mem_cons_of_mem _ (List.mem_append_left _ (List.mem_append_left _ (List.mem_append_right _ h)))) hown hK hP 0 rfl rfl 7 (by decide) (hts (.fieldLink RX6 51 "PauseRegions" "reach" "LPauseRegions$Reach;") (List.mem_of_getElem? (i := 2) rfl)) (fun _ h9 => h9) rfl dX6_way_29 ?_
        refine lv_aload_n hx hb dX6_way_32 rfl (lv_at hl 0 rfl) ?_
        refine va_get (D := g.1) (ci := 6) (v := .ref (hd 0 0)) (C := RX6) (T := TX6) (N := 8) hx hb hts (fun w h => List.mem_cons_of_mem _ (List.mem_append_left _ (List.mem_append_left _ (List.mem_append_right _ h)))) hown hK hP 0 rfl rfl 0 (by decide) (hts (.fieldLink RX6 10 "PauseRegions" "heap" "LPauseRegions$Heap;") (List.mem_of_getElem? (i := 1) rfl)) (fun _ h9 => h9) rfl dX6_way_33 ?_
        refine lv_iload_n hx hb dX6_way_36 rfl (lv_at hl 1 rfl) ?_
        obtain ⟨z1, hc3, hsem⟩ := bn_some hsem
        refine tcV (C := RX4) (As := [.ref (hd 0 0), .int p0]) (rest := []) hP hD hS hZ (pF2 (wTp g a0 a1 a2 a0t (adp 0) (adr 0) a0i (hd 0 0) (hd 1 0) im kf ++ (wC g a0t rgt yct fct ++ (wPa g adp Ap Fp ++ ([])))) (wRe g adr Ar) (wHi g a0i a1i pf nxi kni ++ ([])) (wH g (hd 0) (HA 0) (HF 0)) (wH g (hd 1) (HA 1) (HF 1) ++ (wH g (hd 2) (HA 2) (HF 2) ++ (wH g (hd 3) (HA 3) (HF 3) ++ (wH g (hd 4) (HA 4) (HF 4) ++ (wH g (hd 5) (HA 5) (HF 5) ++ (wH g (hd 6) (HA 6) (HF 6) ++ (wH g (hd 7) (HA 7) (HF 7) ++ (wH g (hd 8) (HA 8) (HF 8) ++ (wH g (hd 9) (HA 9) (HF 9) ++ ([]))))))))))) ⟨hx, hb, hml, hown, hts⟩ hKK (cwV 2 hts gX6_way_X4_measureTo rfl rfl rfl hdX4_measureTo ⟨Nat.le_of_ble_eq_true rfl, Nat.le_of_ble_eq_true rfl⟩) (kX4_measureTo (l := l) (g := g) (ad := adr) (A := Ar) (adh := hd 0) (Ah := (HA 0)) (Fh := (HF 0))  hc3) (va_recv hK hP (ci := 4) (q0 := 8) rfl rfl) rfl hl.1 rfl (Nat.le_of_ble_eq_true rfl) dX6_way_37 ⟨Nat.zero_le _, Nat.zero_le _⟩ (fun H locs hP hD hS => ?_)
        have hP : va_P g.1 vwCl (wTp g a0 a1 a2 a0t (adp 0) (adr 0) a0i (hd 0 0) (hd 1 0) im kf ++ (wC g a0t rgt yct fct ++ (wPa g adp Ap Fp ++ (wRe g adr z1 ++ (wHi g a0i a1i pf nxi kni ++ (wH g (hd 0) (HA 0) (HF 0) ++ (wH g (hd 1) (HA 1) (HF 1) ++ (wH g (hd 2) (HA 2) (HF 2) ++ (wH g (hd 3) (HA 3) (HF 3) ++ (wH g (hd 4) (HA 4) (HF 4) ++ (wH g (hd 5) (HA 5) (HF 5) ++ (wH g (hd 6) (HA 6) (HF 6) ++ (wH g (hd 7) (HA 7) (HF 7) ++ (wH g (hd 8) (HA 8) (HF 8) ++ (wH g (hd 9) (HA 9) (HF 9) ++ ([])))))))))))))))) H := vaP_perm (pF2 (wTp g a0 a1 a2 a0t (adp 0) (adr 0) a0i (hd 0 0) (hd 1 0) im kf ++ (wC g a0t rgt yct fct ++ (wPa g adp Ap Fp ++ ([])))) (wRe g adr z1) (wHi g a0i a1i pf nxi kni ++ ([])) (wH g (hd 0) (HA 0) (HF 0)) (wH g (hd 1) (HA 1) (HF 1) ++ (wH g (hd 2) (HA 2) (HF 2) ++ (wH g (hd 3) (HA 3) (HF 3) ++ (wH g (hd 4) (HA 4) (HF 4) ++ (wH g (hd 5) (HA 5) (HF 5) ++ (wH g (hd 6) (HA 6) (HF 6) ++ (wH g (hd 7) (HA 7) (HF 7) ++ (wH g (hd 8) (HA 8) (HF 8) ++ (wH g (hd 9) (HA 9) (HF 9) ++ ([]))))))))))).symm (by exact hP)
        have hD : va_D Z (wTp g a0 a1 a2 a0t (adp 0) (adr 0) a0i (hd 0 0) (hd 1 0) im kf ++ (wC g a0t rgt yct fct ++ (wPa g adp Ap Fp ++ (wRe g adr z1 ++ (wHi g a0i a1i pf nxi kni ++ (wH g (hd 0) (HA 0) (HF 0) ++ (wH g (hd 1) (HA 1) (HF 1) ++ (wH g (hd 2) (HA 2) (HF 2) ++ (wH g (hd 3) (HA 3) (HF 3) ++ (wH g (hd 4) (HA 4) (HF 4) ++ (wH g (hd 5) (HA 5) (HF 5) ++ (wH g (hd 6) (HA 6) (HF 6) ++ (wH g (hd 7) (HA 7) (HF 7) ++ (wH g (hd 8) (HA 8) (HF 8) ++ (wH g (hd 9) (HA 9) (HF 9) ++ ([])))))))))))))))) := vaD_perm (pF2 (wTp g a0 a1 a2 a0t (adp 0) (adr 0) a0i (hd 0 0) (hd 1 0) im kf ++ (wC g a0t rgt yct fct ++ (wPa g adp Ap Fp ++ ([])))) (wRe g adr z1) (wHi g a0i a1i pf nxi kni ++ ([])) (wH g (hd 0) (HA 0) (HF 0)) (wH g (hd 1) (HA 1) (HF 1) ++ (wH g (hd 2) (HA 2) (HF 2) ++ (wH g (hd 3) (HA 3) (HF 3) ++ (wH g (hd 4) (HA 4) (HF 4) ++ (wH g (hd 5) (HA 5) (HF 5) ++ (wH g (hd 6) (HA 6) (HF 6) ++ (wH g (hd 7) (HA 7) (HF 7) ++ (wH g (hd 8) (HA 8) (HF 8) ++ (wH g (hd 9) (HA 9) (HF 9) ++ ([]))))))))))).symm (by exact hD)
        refine lv_aload_n hx hb dX6_way_40 rfl (lv_at hl 0 rfl) ?_
        refine va_get (D := g.1) (ci := 6) (v := .ref (adr 0)) (C := RX6) (T := TX6) (N := 8) hx hb hts (fun w h => List.mem_cons_of_mem _ (List.mem_append_left _ (List.mem_append_left _ (List.mem_append_right _ h)))) hown hK hP 0 rfl rfl 7 (by decide) (hts (.fieldLink RX6 51 "PauseRegions" "reach" "LPauseRegions$Reach;") (List.mem_of_getElem? (i := 2) rfl)) (fun _ h9 => h9) rfl dX6_way_41 ?_
        refine lv_aload_n hx hb dX6_way_44 rfl (lv_at hl 0 rfl) ?_
        refine va_get (D := g.1) (ci := 6) (v := .ref (hd 0 0)) (C := RX6) (T := TX6) (N := 8) hx hb hts (fun w h => List.mem_cons_of_mem _ (List.mem_append_left _ (List.mem_append_left _ (List.mem_append_right _ h)))) hown hK hP 0 rfl rfl 0 (by decide) (hts (.fieldLink RX6 10 "PauseRegions" "heap" "LPauseRegions$Heap;") (List.mem_of_getElem? (i := 1) rfl)) (fun _ h9 => h9) rfl dX6_way_45 ?_
        obtain ⟨x3, hc4, hsem⟩ := bn_some hsem
        refine pcV (C := RX4) (As := [.ref (hd 0 0)]) (rest := []) ⟨hx, hb, hml, hown, hts⟩ hKK (cwV 1 hts gX6_way_X4_nearestRoot rfl rfl rfl hdX4_nearestRoot ⟨Nat.le_of_ble_eq_true rfl, Nat.le_of_ble_eq_true rfl⟩) (kX4_nearestRoot (l := l) (g := g) (hP.sub (ws' := (wRe g adr z1) ++ (wH g (hd 0) (HA 0) (HF 0))) [8, 9, 10, 11, 14, 15, 16, 17, 18, 19, 20, 21, 22, 23, 24, 25, 26, 27, 28] rfl) hc4) (va_recv hK hP (ci := 4) (q0 := 8) rfl rfl) rfl hl.1 rfl (Nat.le_of_ble_eq_true rfl) dX6_way_48 ⟨Nat.zero_le _, Nat.zero_le _⟩ ?_
        refine lv_istore_n (lv' := [(3, .int x3), (0, .ref a0), (1, .int p0), (2, .int p1)]) hx hb dX6_way_51 rfl hl (by decide) rfl (fun ls hl => ?_)
        refine lv_iload_n hx hb dX6_way_52 rfl (lv_at hl 0 rfl) ?_
        refine lv_bipush (v := (-9)) hx hb dX6_way_53 (by decide) ?_
        refine lv_icmp_ne (tgt := 61) hx hb dX6_way_55 (by decide) (fun c4 => ?_) (fun c4 => ?_)
        · rw [if_neg c4] at hsem
          refine lv_aload_n hx hb dX6_way_61 rfl (lv_at hl 1 rfl) ?_
          refine va_get (D := g.1) (ci := 6) (v := .ref (adr 0)) (C := RX6) (T := TX6) (N := 8) hx hb hts (fun w h => List.mem_cons_of_mem _ (List.mem_append_left _ (List.mem_append_left _ (List.mem_append_right _ h)))) hown hK hP 0 rfl rfl 7 (by decide) (hts (.fieldLink RX6 51 "PauseRegions" "reach" "LPauseRegions$Reach;") (List.mem_of_getElem? (i := 2) rfl)) (fun _ h9 => h9) rfl dX6_way_62 ?_
          refine va_get (D := g.1) (ci := 4) (v := .ref (adr 1)) (C := RX4) (T := TX4) (N := 3) hx hb hts (fun w h => List.mem_cons_of_mem _ (List.mem_append_left _ (List.mem_append_right _ h))) hown hK hP 8 rfl rfl 1 (by decide) (hts (.fieldLink RX6 214 "PauseRegions$Reach" "far" "[I") (List.mem_of_getElem? (i := 3) rfl)) (fun _ h9 => h9) rfl dX6_way_65 ?_
          refine lv_iload_n hx hb dX6_way_68 rfl (lv_at hl 0 rfl) ?_
          obtain ⟨h1, hsem⟩ := ck_some hsem
          refine va_iald (D := g.1) hx hb hK hP 9 0 rfl rfl h1 dX6_way_69 ?_
          obtain ⟨x4, ex4, hsem⟩ := bd_some hsem
          rw [← ex4]
          refine lv_istore (lv' := [(4, .int x4), (3, .int x3), (0, .ref a0), (1, .int p0), (2, .int p1)]) hx hb dX6_way_70 hl (by decide) rfl (fun ls hl => ?_)
          refine lv_iload_n hx hb dX6_way_72 rfl (lv_at hl 4 rfl) ?_
          refine lv_iconst (v := (-1)) hx hb dX6_way_73 (by decide) ?_
          refine lv_icmp_ne (tgt := 80) hx hb dX6_way_74 (by decide) (fun c5 => ?_) (fun c5 => ?_)
          · rw [if_neg c5] at hsem
            refine lv_iload_n hx hb dX6_way_80 rfl (lv_at hl 4 rfl) ?_
            refine lv_iload hx hb dX6_way_81 (lv_at hl 0 rfl) ?_
            refine lv_icmp_ge (tgt := 102) hx hb dX6_way_83 (by decide) (fun c6 => ?_) (fun c6 => ?_)
            · rw [if_pos c6] at hsem
              refine lv_bipush (v := (-9)) hx hb dX6_way_102 (by decide) ?_
              have eo := (Option.some.inj hsem).symm.symm
              subst eo
              exact W.iret (v := (-9)) hx hb hr (fun t ht hW => ⟨⟨_, (), rfl, rfl, ⟨by rw [ht]; exact hP, hD⟩⟩, hS.F ht⟩) hS.2.2 dX6_way_104
            · rw [if_neg c6] at hsem
              refine lv_aload_n hx hb dX6_way_86 rfl (lv_at hl 2 rfl) ?_
              refine va_get (D := g.1) (ci := 6) (v := .ref (adr 0)) (C := RX6) (T := TX6) (N := 8) hx hb hts (fun w h => List.mem_cons_of_mem _ (List.mem_append_left _ (List.mem_append_left _ (List.mem_append_right _ h)))) hown hK hP 0 rfl rfl 7 (by decide) (hts (.fieldLink RX6 51 "PauseRegions" "reach" "LPauseRegions$Reach;") (List.mem_of_getElem? (i := 2) rfl)) (fun _ h9 => h9) rfl dX6_way_87 ?_
              refine lv_aload_n hx hb dX6_way_90 rfl (lv_at hl 2 rfl) ?_
              refine va_get (D := g.1) (ci := 6) (v := .ref (hd 0 0)) (C := RX6) (T := TX6) (N := 8) hx hb hts (fun w h => List.mem_cons_of_mem _ (List.mem_append_left _ (List.mem_append_left _ (List.mem_append_right _ h)))) hown hK hP 0 rfl rfl 0 (by decide) (hts (.fieldLink RX6 10 "PauseRegions" "heap" "LPauseRegions$Heap;") (List.mem_of_getElem? (i := 1) rfl)) (fun _ h9 => h9) rfl dX6_way_91 ?_
              refine lv_iload_n hx hb dX6_way_94 rfl (lv_at hl 1 rfl) ?_
              refine lv_iload_n hx hb dX6_way_95 rfl (lv_at hl 4 rfl) ?_
              obtain ⟨x5, hc5, hsem⟩ := bn_some hsem
              refine pcV (C := RX4) (As := [.ref (hd 0 0), .int x3, .int p1]) (rest := []) ⟨hx, hb, hml, hown, hts⟩ hKK (cwV 3 hts gX6_way_X4_walk rfl rfl rfl hdX4_walk ⟨Nat.le_of_ble_eq_true rfl, Nat.le_of_ble_eq_true rfl⟩) (kX4_walk (l := l) (g := g) (hP.sub (ws' := (wRe g adr z1) ++ (wH g (hd 0) (HA 0) (HF 0))) [8, 9, 10, 11, 14, 15, 16, 17, 18, 19, 20, 21, 22, 23, 24, 25, 26, 27, 28] rfl) hc5) (va_recv hK hP (ci := 4) (q0 := 8) rfl rfl) rfl hl.1 rfl (Nat.le_of_ble_eq_true rfl) dX6_way_96 ⟨Nat.zero_le _, Nat.zero_le _⟩ ?_
              refine lv_goto (tgt := 104) hx hb dX6_way_99 (by decide) ?_
              have eo := (Option.some.inj hsem).symm.symm
              subst eo
              exact W.iret (v := x5) hx hb hr (fun t ht hW => ⟨⟨_, (), rfl, rfl, ⟨by rw [ht]; exact hP, hD⟩⟩, hS.F ht⟩) hS.2.2 dX6_way_104
          · rw [if_pos c5] at hsem
            refine lv_iload hx hb dX6_way_77 (lv_at hl 0 rfl) ?_
            have eo := (Option.some.inj hsem).symm.symm
            subst eo
            exact W.iret (v := x4) hx hb hr (fun t ht hW => ⟨⟨_, (), rfl, rfl, ⟨by rw [ht]; exact hP, hD⟩⟩, hS.F ht⟩) hS.2.2 dX6_way_79
        · rw [if_pos c4] at hsem
          refine lv_bipush (v := (-9)) hx hb dX6_way_58 (by decide) ?_
          have eo := (Option.some.inj hsem).symm.symm
          subst eo
          exact W.iret (v := (-9)) hx hb hr (fun t ht hW => ⟨⟨_, (), rfl, rfl, ⟨by rw [ht]; exact hP, hD⟩⟩, hS.F ht⟩) hS.2.2 dX6_way_60
      · rw [if_neg c3] at hsem
        refine lv_iconst (v := (-1)) hx hb dX6_way_26 (by decide) ?_
        have eo := (Option.some.inj hsem).symm.symm
        subst eo
        exact W.iret (v := (-1)) hx hb hr (fun t ht hW => ⟨⟨_, (), rfl, rfl, ⟨by rw [ht]; exact hP, hD⟩⟩, hS.F ht⟩) hS.2.2 dX6_way_27
def sX6_would (Ap : IA) (Fpc : FA) (HA : Nat → IA) (HFc : Nat → FA) (p0 : Int32) : Option (Int32 × IA × (Nat → IA) × FA × (Nat → FA)) :=
  (sX6_isGoal p0).bind fun x1 => if x1 = 0 then (some (((-1), Ap, HA, Fpc, HFc))) else ((sX1_becomeLike (HA 1) (HFc 1) (HA 0) (HFc 0)).bind fun z1 => bd (upH HA 1 (z1.1)) fun HA1 => bd (upF HFc 1 z1.2) fun HF1c => (sX3_run Ap Fpc (HA1 1) (HF1c 1) p0).bind fun z2 => bd (upH HA1 1 (z2.2.2.1)) fun HA2 => bd (upF HF1c 1 z2.2.2.2.2) fun HF2c => some (z2.1, z2.2.1, HA2, z2.2.2.2.1, HF2c))
abbrev rmX6_would : Room := { frames := 6, cells := 0, slots := 0, locals := 135 }
theorem hdX6_would : yX6_would.cls = RX6 ∧ yX6_would.cls ≠ "java/lang/invoke/MethodHandle" ∧ yX6_would.cls ≠ "java/lang/invoke/VarHandle" ∧ (parseMethodDescriptor yX6_would.desc).map (fun d => d.parameters.length) = some 1 := by decide +kernel
set_option maxHeartbeats 8000000 in
set_option maxRecDepth 100000 in
theorem kX6_would {l : Launch} {g : GG} {sz : Nat} {a0 a1 a2 : Nat} {im : Nat → Option Nat} {kf : Nat → Int32} {a0t : Nat} {rgt : Int32} {yct : Int32} {fct : UInt32} {adp : Nat → Nat} {Ap : IA} {Fp : FA} {adr : Nat → Nat} {Ar : IA} {a0i a1i : Nat} {pf : Nat → Option Nat} {nxi kni : Int32} {hd : Nat → Nat → Nat} {HA : Nat → IA} {HF : Nat → FA} {p0 : Int32} {fctc : UInt32} (hfct : alike32 fct fctc = true) {Fpc : FA} (hALp : AL Fp Fpc) {HFc : Nat → FA} (hALH : ALH HF HFc) {b : Int32 × IA × (Nat → IA) × FA × (Nat → FA)} (hsem : sX6_would Ap Fpc HA HFc p0 = some b) : MetDI l yX6_would wsX6_would rmX6_would g [.ref a0, .int p0] (wTp g a0 a1 a2 a0t (adp 0) (adr 0) a0i (hd 0 0) (hd 1 0) im kf ++ (wC g a0t rgt yct fct ++ (wPa g adp Ap Fp ++ (wRe g adr Ar ++ (wHi g a0i a1i pf nxi kni ++ (wH g (hd 0) (HA 0) (HF 0) ++ (wH g (hd 1) (HA 1) (HF 1) ++ (wH g (hd 2) (HA 2) (HF 2) ++ (wH g (hd 3) (HA 3) (HF 3) ++ (wH g (hd 4) (HA 4) (HF 4) ++ (wH g (hd 5) (HA 5) (HF 5) ++ (wH g (hd 6) (HA 6) (HF 6) ++ (wH g (hd 7) (HA 7) (HF 7) ++ (wH g (hd 8) (HA 8) (HF 8) ++ (wH g (hd 9) (HA 9) (HF 9) ++ ([])))))))))))))))) sz b.1 (φ := FA × (Nat → FA)) (fun u => AL u.1 b.2.2.2.1 ∧ ALH u.2 b.2.2.2.2) (fun u => wTp g a0 a1 a2 a0t (adp 0) (adr 0) a0i (hd 0 0) (hd 1 0) im kf ++ (wC g a0t rgt yct fct ++ (wPa g adp b.2.1 u.1 ++ (wRe g adr Ar ++ (wHi g a0i a1i pf nxi kni ++ (wH g (hd 0) (b.2.2.1 0) (u.2 0) ++ (wH g (hd 1) (b.2.2.1 1) (u.2 1) ++ (wH g (hd 2) (b.2.2.1 2) (u.2 2) ++ (wH g (hd 3) (b.2.2.1 3) (u.2 3) ++ (wH g (hd 4) (b.2.2.1 4) (u.2 4) ++ (wH g (hd 5) (b.2.2.1 5) (u.2 5) ++ (wH g (hd 6) (b.2.2.1 6) (u.2 6) ++ (wH g (hd 7) (b.2.2.1 7) (u.2 7) ++ (wH g (hd 8) (b.2.2.1 8) (u.2 8) ++ (wH g (hd 9) (b.2.2.1 9) (u.2 9) ++ ([])))))))))))))))) := by
  refine MetD.ofW (cc := cX6_would) (maxL := 2) (ret := (some .int)) (by decide) rfl ?_
  intro p e s m args below meth c s₁ B hml hv hd0
  obtain ⟨rfl, hsz, hP, hD0, hKK⟩ := hv
  subst hsz
  have hx := B.exec
  have hb := B.bytes
  have hr := B.returns
  have hts := atoms_spec (ws := wsX6_would) B.pre
  have hown : ∀ d, (s.setDrawn d).vm.findClass RX6 = some m.cls := fun _ => findClass_of_methodNamed B.named
  have hlocks := B.notSynchronized
  have hK : ∀ d, va_K g.1 vwCl (KT g) (s.setDrawn d) := fun d => (hKK.drawn d).1
  have hD := hD0.self (sz := s.heap.size)
  generalize hZe : va_A (wTp g a0 a1 a2 a0t (adp 0) (adr 0) a0i (hd 0 0) (hd 1 0) im kf ++ (wC g a0t rgt yct fct ++ (wPa g adp Ap Fp ++ (wRe g adr Ar ++ (wHi g a0i a1i pf nxi kni ++ (wH g (hd 0) (HA 0) (HF 0) ++ (wH g (hd 1) (HA 1) (HF 1) ++ (wH g (hd 2) (HA 2) (HF 2) ++ (wH g (hd 3) (HA 3) (HF 3) ++ (wH g (hd 4) (HA 4) (HF 4) ++ (wH g (hd 5) (HA 5) (HF 5) ++ (wH g (hd 6) (HA 6) (HF 6) ++ (wH g (hd 7) (HA 7) (HF 7) ++ (wH g (hd 8) (HA 8) (HF 8) ++ (wH g (hd 9) (HA 9) (HF 9) ++ ([])))))))))))))))) s.heap.size = Z at hD ⊢
  have hZ : ∀ q : Nat, s.heap.size ≤ q → Z q := fun q h => by rw [← hZe]; exact Or.inr h
  have hS : va_S Z s.heap s.heap [] := va_S.rf
  have hP : va_P g.1 vwCl (wTp g a0 a1 a2 a0t (adp 0) (adr 0) a0i (hd 0 0) (hd 1 0) im kf ++ (wC g a0t rgt yct fct ++ (wPa g adp Ap Fp ++ (wRe g adr Ar ++ (wHi g a0i a1i pf nxi kni ++ (wH g (hd 0) (HA 0) (HF 0) ++ (wH g (hd 1) (HA 1) (HF 1) ++ (wH g (hd 2) (HA 2) (HF 2) ++ (wH g (hd 3) (HA 3) (HF 3) ++ (wH g (hd 4) (HA 4) (HF 4) ++ (wH g (hd 5) (HA 5) (HF 5) ++ (wH g (hd 6) (HA 6) (HF 6) ++ (wH g (hd 7) (HA 7) (HF 7) ++ (wH g (hd 8) (HA 8) (HF 8) ++ (wH g (hd 9) (HA 9) (HF 9) ++ ([])))))))))))))))) s.heap := hP
  have hD : va_D Z (wTp g a0 a1 a2 a0t (adp 0) (adr 0) a0i (hd 0 0) (hd 1 0) im kf ++ (wC g a0t rgt yct fct ++ (wPa g adp Ap Fp ++ (wRe g adr Ar ++ (wHi g a0i a1i pf nxi kni ++ (wH g (hd 0) (HA 0) (HF 0) ++ (wH g (hd 1) (HA 1) (HF 1) ++ (wH g (hd 2) (HA 2) (HF 2) ++ (wH g (hd 3) (HA 3) (HF 3) ++ (wH g (hd 4) (HA 4) (HF 4) ++ (wH g (hd 5) (HA 5) (HF 5) ++ (wH g (hd 6) (HA 6) (HF 6) ++ (wH g (hd 7) (HA 7) (HF 7) ++ (wH g (hd 8) (HA 8) (HF 8) ++ (wH g (hd 9) (HA 9) (HF 9) ++ ([])))))))))))))))) := hD
  obtain ⟨d, hdr, hdd⟩ : ∃ d, s.drawn.sameBut d lw_cs ∧ s.drawn = d := ⟨_, hd0, rfl⟩
  rw [hdd]
  have hl := lv_entry ([.ref a0, .int p0]) (n := 2) (Nat.le_of_ble_eq_true rfl)
  rw [lg_entry_eq]
  generalize (lg_sl ([.ref a0, .int p0]) ++ List.replicate (2 - (lg_sl ([.ref a0, .int p0])).length) Slot.unset).toArray = ls at hl ⊢
  have hl : lv_has ls 2 [(0, .ref a0), (1, .int p0)] := hl
  unfold sX6_would at hsem
  refine lv_iload_n hx hb dX6_would_0 rfl (lv_at hl 1 rfl) ?_
  obtain ⟨x1, hc1, hsem⟩ := bn_some hsem
  refine pcS (As := [.int p0]) (rest := []) ⟨hx, hb, hml, (hown d), (dr_words hts d)⟩ (hKK.drawn d) (va_cwS 1 (dr_words hts d) gX6_would_X6_isGoal rfl rfl rfl hdX6_isGoal ⟨Nat.le_of_ble_eq_true rfl, Nat.le_of_ble_eq_true rfl⟩) (kX6_isGoal (l := l) (g := g) hc1) rfl hl.1 rfl (Nat.le_of_ble_eq_true rfl) dX6_would_1 ⟨Nat.zero_le _, Nat.zero_le _⟩ ?_
  refine lv_if_ne (tgt := 9) hx hb dX6_would_4 (by decide) (fun c1 => ?_) (fun c1 => ?_)
  · rw [if_neg c1] at hsem
    refine lv_aload_n hx hb dX6_would_9 rfl (lv_at hl 0 rfl) ?_
    refine va_get (D := g.1) (ci := 6) (v := .ref (hd 1 0)) (C := RX6) (T := TX6) (N := 8) hx hb (dr_words hts d) (fun w h => List.mem_cons_of_mem _ (List.mem_append_left _ (List.mem_append_left _ (List.mem_append_left _ (List.mem_append_left _ (List.mem_append_right _ h)))))) (hown d) (hK d) hP 0 rfl rfl 1 (by decide) ((dr_words hts d) (.fieldLink RX6 16 "PauseRegions" "trial" "LPauseRegions$Heap;") (List.mem_of_getElem? (i := 1) rfl)) (fun _ h9 => h9) rfl dX6_would_10 ?_
    refine lv_aload_n hx hb dX6_would_13 rfl (lv_at hl 0 rfl) ?_
    refine va_get (D := g.1) (ci := 6) (v := .ref (hd 0 0)) (C := RX6) (T := TX6) (N := 8) hx hb (dr_words hts d) (fun w h => List.mem_cons_of_mem _ (List.mem_append_left _ (List.mem_append_left _ (List.mem_append_left _ (List.mem_append_left _ (List.mem_append_right _ h)))))) (hown d) (hK d) hP 0 rfl rfl 0 (by decide) ((dr_words hts d) (.fieldLink RX6 10 "PauseRegions" "heap" "LPauseRegions$Heap;") (List.mem_of_getElem? (i := 2) rfl)) (fun _ h9 => h9) rfl dX6_would_14 ?_
    obtain ⟨z1, hc2, hsem⟩ := bn_some hsem
    refine tdV (C := RX1) (As := [.ref (hd 0 0)]) (rest := []) hP hD hS hZ (pF3 (wTp g a0 a1 a2 a0t (adp 0) (adr 0) a0i (hd 0 0) (hd 1 0) im kf ++ (wC g a0t rgt yct fct ++ (wPa g adp Ap Fp ++ (wRe g adr Ar ++ (wHi g a0i a1i pf nxi kni ++ ([])))))) (wH g (hd 0) (HA 0) (HF 0)) ([]) (wH g (hd 1) (HA 1) (HF 1)) (wH g (hd 2) (HA 2) (HF 2) ++ (wH g (hd 3) (HA 3) (HF 3) ++ (wH g (hd 4) (HA 4) (HF 4) ++ (wH g (hd 5) (HA 5) (HF 5) ++ (wH g (hd 6) (HA 6) (HF 6) ++ (wH g (hd 7) (HA 7) (HF 7) ++ (wH g (hd 8) (HA 8) (HF 8) ++ (wH g (hd 9) (HA 9) (HF 9) ++ ([])))))))))) hdr ⟨hx, hb, hml, (hown d), (dr_words hts d)⟩ (hKK.drawn d) (cwV 1 (dr_words hts d) gX6_would_X1_becomeLike rfl rfl rfl hdX1_becomeLike ⟨Nat.le_of_ble_eq_true rfl, Nat.le_of_ble_eq_true rfl⟩) (kX1_becomeLike (l := l) (g := g) (ad := hd 1) (A := (HA 1)) (F := (HF 1)) (Fc := (HFc 1)) (adh := hd 0) (Ah := (HA 0)) (Fh := (HF 0)) (Fhc := (HFc 0)) (hALH 1) (hALH 0) hc2) (va_recv (hK d) hP (ci := 1) (q0 := 29) rfl rfl) rfl hl.1 rfl (Nat.le_of_ble_eq_true rfl) dX6_would_17 ⟨Nat.zero_le _, Nat.zero_le _⟩ (fun u1 H locs d hpo hP hD hS hdr => ?_)
    obtain ⟨HA1, eHA1, hsem⟩ := bd_some hsem
    obtain ⟨HF1, eHF1⟩ : ∃ z, z = upF HF 1 u1 := ⟨_, rfl⟩
    obtain ⟨HF1c, eHF1c, hsem⟩ := bd_some hsem
    have haHF1 : ALH HF1 HF1c := by rw [eHF1, eHF1c]; exact ALH.up hALH hpo
    have hP : va_P g.1 vwCl (wTp g a0 a1 a2 a0t (adp 0) (adr 0) a0i (hd 0 0) (hd 1 0) im kf ++ (wC g a0t rgt yct fct ++ (wPa g adp Ap Fp ++ (wRe g adr Ar ++ (wHi g a0i a1i pf nxi kni ++ (wH g (hd 0) (HA1 0) (HF1 0) ++ (wH g (hd 1) (HA1 1) (HF1 1) ++ (wH g (hd 2) (HA1 2) (HF1 2) ++ (wH g (hd 3) (HA1 3) (HF1 3) ++ (wH g (hd 4) (HA1 4) (HF1 4) ++ (wH g (hd 5) (HA1 5) (HF1 5) ++ (wH g (hd 6) (HA1 6) (HF1 6) ++ (wH g (hd 7) (HA1 7) (HF1 7) ++ (wH g (hd 8) (HA1 8) (HF1 8) ++ (wH g (hd 9) (HA1 9) (HF1 9) ++ ([])))))))))))))))) H := vaP_perm (pF3 (wTp g a0 a1 a2 a0t (adp 0) (adr 0) a0i (hd 0 0) (hd 1 0) im kf ++ (wC g a0t rgt yct fct ++ (wPa g adp Ap Fp ++ (wRe g adr Ar ++ (wHi g a0i a1i pf nxi kni ++ ([])))))) (wH g (hd 0) (HA1 0) (HF1 0)) ([]) (wH g (hd 1) (HA1 1) (HF1 1)) (wH g (hd 2) (HA1 2) (HF1 2) ++ (wH g (hd 3) (HA1 3) (HF1 3) ++ (wH g (hd 4) (HA1 4) (HF1 4) ++ (wH g (hd 5) (HA1 5) (HF1 5) ++ (wH g (hd 6) (HA1 6) (HF1 6) ++ (wH g (hd 7) (HA1 7) (HF1 7) ++ (wH g (hd 8) (HA1 8) (HF1 8) ++ (wH g (hd 9) (HA1 9) (HF1 9) ++ ([])))))))))).symm (by rw [eHA1, eHF1]; exact hP)
    have hD : va_D Z (wTp g a0 a1 a2 a0t (adp 0) (adr 0) a0i (hd 0 0) (hd 1 0) im kf ++ (wC g a0t rgt yct fct ++ (wPa g adp Ap Fp ++ (wRe g adr Ar ++ (wHi g a0i a1i pf nxi kni ++ (wH g (hd 0) (HA1 0) (HF1 0) ++ (wH g (hd 1) (HA1 1) (HF1 1) ++ (wH g (hd 2) (HA1 2) (HF1 2) ++ (wH g (hd 3) (HA1 3) (HF1 3) ++ (wH g (hd 4) (HA1 4) (HF1 4) ++ (wH g (hd 5) (HA1 5) (HF1 5) ++ (wH g (hd 6) (HA1 6) (HF1 6) ++ (wH g (hd 7) (HA1 7) (HF1 7) ++ (wH g (hd 8) (HA1 8) (HF1 8) ++ (wH g (hd 9) (HA1 9) (HF1 9) ++ ([])))))))))))))))) := vaD_perm (pF3 (wTp g a0 a1 a2 a0t (adp 0) (adr 0) a0i (hd 0 0) (hd 1 0) im kf ++ (wC g a0t rgt yct fct ++ (wPa g adp Ap Fp ++ (wRe g adr Ar ++ (wHi g a0i a1i pf nxi kni ++ ([])))))) (wH g (hd 0) (HA1 0) (HF1 0)) ([]) (wH g (hd 1) (HA1 1) (HF1 1)) (wH g (hd 2) (HA1 2) (HF1 2) ++ (wH g (hd 3) (HA1 3) (HF1 3) ++ (wH g (hd 4) (HA1 4) (HF1 4) ++ (wH g (hd 5) (HA1 5) (HF1 5) ++ (wH g (hd 6) (HA1 6) (HF1 6) ++ (wH g (hd 7) (HA1 7) (HF1 7) ++ (wH g (hd 8) (HA1 8) (HF1 8) ++ (wH g (hd 9) (HA1 9) (HF1 9) ++ ([])))))))))).symm (by rw [eHA1, eHF1]; exact hD)
    refine lv_aload_n hx hb dX6_would_20 rfl (lv_at hl 0 rfl) ?_
    refine va_get (D := g.1) (ci := 6) (v := .ref (adp 0)) (C := RX6) (T := TX6) (N := 8) hx hb (dr_words hts d) (fun w h => List.mem_cons_of_mem _ (List.mem_append_left _ (List.mem_append_left _ (List.mem_append_left _ (List.mem_append_left _ (List.mem_append_right _ h)))))) (hown d) (hK d) hP 0 rfl rfl 6 (by decide) ((dr_words hts d) (.fieldLink RX6 44 "PauseRegions" "pause" "LPauseRegions$Pause;") (List.mem_of_getElem? (i := 3) rfl)) (fun _ h9 => h9) rfl dX6_would_21 ?_
    refine lv_aload_n hx hb dX6_would_24 rfl (lv_at hl 0 rfl) ?_
    refine va_get (D := g.1) (ci := 6) (v := .ref (hd 1 0)) (C := RX6) (T := TX6) (N := 8) hx hb (dr_words hts d) (fun w h => List.mem_cons_of_mem _ (List.mem_append_left _ (List.mem_append_left _ (List.mem_append_left _ (List.mem_append_left _ (List.mem_append_right _ h)))))) (hown d) (hK d) hP 0 rfl rfl 1 (by decide) ((dr_words hts d) (.fieldLink RX6 16 "PauseRegions" "trial" "LPauseRegions$Heap;") (List.mem_of_getElem? (i := 1) rfl)) (fun _ h9 => h9) rfl dX6_would_25 ?_
    refine lv_iload_n hx hb dX6_would_28 rfl (lv_at hl 1 rfl) ?_
    obtain ⟨z2, hc3, hsem⟩ := bn_some hsem
    refine tdI (C := RX3) (As := [.ref (hd 1 0), .int p0]) (rest := []) hP hD hS hZ (pF2 (wTp g a0 a1 a2 a0t (adp 0) (adr 0) a0i (hd 0 0) (hd 1 0) im kf ++ (wC g a0t rgt yct fct ++ ([]))) (wPa g adp Ap Fp) (wRe g adr Ar ++ (wHi g a0i a1i pf nxi kni ++ (wH g (hd 0) (HA1 0) (HF1 0) ++ ([])))) (wH g (hd 1) (HA1 1) (HF1 1)) (wH g (hd 2) (HA1 2) (HF1 2) ++ (wH g (hd 3) (HA1 3) (HF1 3) ++ (wH g (hd 4) (HA1 4) (HF1 4) ++ (wH g (hd 5) (HA1 5) (HF1 5) ++ (wH g (hd 6) (HA1 6) (HF1 6) ++ (wH g (hd 7) (HA1 7) (HF1 7) ++ (wH g (hd 8) (HA1 8) (HF1 8) ++ (wH g (hd 9) (HA1 9) (HF1 9) ++ ([])))))))))) hdr ⟨hx, hb, hml, (hown d), (dr_words hts d)⟩ (hKK.drawn d) (cwV 2 (dr_words hts d) gX6_would_X3_run rfl rfl rfl hdX3_run ⟨Nat.le_of_ble_eq_true rfl, Nat.le_of_ble_eq_true rfl⟩) (kX3_run (l := l) (g := g) (ad := adp) (A := Ap) (F := Fp) (Fc := Fpc) (adh := hd 1) (Ah := (HA1 1)) (Fh := (HF1 1)) (Fhc := (HF1c 1)) hALp (haHF1 1) hc3) (va_recv (hK d) hP (ci := 3) (q0 := 4) rfl rfl) rfl hl.1 rfl (Nat.le_of_ble_eq_true rfl) dX6_would_29 ⟨Nat.zero_le _, Nat.zero_le _⟩ (fun u2 H locs d hpo hP hD hS hdr => ?_)
    obtain ⟨HA2, eHA2, hsem⟩ := bd_some hsem
    have hq1 := hpo.1
    obtain ⟨HF2, eHF2⟩ : ∃ z, z = upF HF1 1 u2.2 := ⟨_, rfl⟩
    obtain ⟨HF2c, eHF2c, hsem⟩ := bd_some hsem
    have haHF2 : ALH HF2 HF2c := by rw [eHF2, eHF2c]; exact ALH.up haHF1 hpo.2
    have hP : va_P g.1 vwCl (wTp g a0 a1 a2 a0t (adp 0) (adr 0) a0i (hd 0 0) (hd 1 0) im kf ++ (wC g a0t rgt yct fct ++ (wPa g adp z2.2.1 u2.1 ++ (wRe g adr Ar ++ (wHi g a0i a1i pf nxi kni ++ (wH g (hd 0) (HA2 0) (HF2 0) ++ (wH g (hd 1) (HA2 1) (HF2 1) ++ (wH g (hd 2) (HA2 2) (HF2 2) ++ (wH g (hd 3) (HA2 3) (HF2 3) ++ (wH g (hd 4) (HA2 4) (HF2 4) ++ (wH g (hd 5) (HA2 5) (HF2 5) ++ (wH g (hd 6) (HA2 6) (HF2 6) ++ (wH g (hd 7) (HA2 7) (HF2 7) ++ (wH g (hd 8) (HA2 8) (HF2 8) ++ (wH g (hd 9) (HA2 9) (HF2 9) ++ ([])))))))))))))))) H := vaP_perm (pF2 (wTp g a0 a1 a2 a0t (adp 0) (adr 0) a0i (hd 0 0) (hd 1 0) im kf ++ (wC g a0t rgt yct fct ++ ([]))) (wPa g adp z2.2.1 u2.1) (wRe g adr Ar ++ (wHi g a0i a1i pf nxi kni ++ (wH g (hd 0) (HA2 0) (HF2 0) ++ ([])))) (wH g (hd 1) (HA2 1) (HF2 1)) (wH g (hd 2) (HA2 2) (HF2 2) ++ (wH g (hd 3) (HA2 3) (HF2 3) ++ (wH g (hd 4) (HA2 4) (HF2 4) ++ (wH g (hd 5) (HA2 5) (HF2 5) ++ (wH g (hd 6) (HA2 6) (HF2 6) ++ (wH g (hd 7) (HA2 7) (HF2 7) ++ (wH g (hd 8) (HA2 8) (HF2 8) ++ (wH g (hd 9) (HA2 9) (HF2 9) ++ ([])))))))))).symm (by rw [eHA2, eHF2]; exact hP)
    have hD : va_D Z (wTp g a0 a1 a2 a0t (adp 0) (adr 0) a0i (hd 0 0) (hd 1 0) im kf ++ (wC g a0t rgt yct fct ++ (wPa g adp z2.2.1 u2.1 ++ (wRe g adr Ar ++ (wHi g a0i a1i pf nxi kni ++ (wH g (hd 0) (HA2 0) (HF2 0) ++ (wH g (hd 1) (HA2 1) (HF2 1) ++ (wH g (hd 2) (HA2 2) (HF2 2) ++ (wH g (hd 3) (HA2 3) (HF2 3) ++ (wH g (hd 4) (HA2 4) (HF2 4) ++ (wH g (hd 5) (HA2 5) (HF2 5) ++ (wH g (hd 6) (HA2 6) (HF2 6) ++ (wH g (hd 7) (HA2 7) (HF2 7) ++ (wH g (hd 8) (HA2 8) (HF2 8) ++ (wH g (hd 9) (HA2 9) (HF2 9) ++ ([])))))))))))))))) := vaD_perm (pF2 (wTp g a0 a1 a2 a0t (adp 0) (adr 0) a0i (hd 0 0) (hd 1 0) im kf ++ (wC g a0t rgt yct fct ++ ([]))) (wPa g adp z2.2.1 u2.1) (wRe g adr Ar ++ (wHi g a0i a1i pf nxi kni ++ (wH g (hd 0) (HA2 0) (HF2 0) ++ ([])))) (wH g (hd 1) (HA2 1) (HF2 1)) (wH g (hd 2) (HA2 2) (HF2 2) ++ (wH g (hd 3) (HA2 3) (HF2 3) ++ (wH g (hd 4) (HA2 4) (HF2 4) ++ (wH g (hd 5) (HA2 5) (HF2 5) ++ (wH g (hd 6) (HA2 6) (HF2 6) ++ (wH g (hd 7) (HA2 7) (HF2 7) ++ (wH g (hd 8) (HA2 8) (HF2 8) ++ (wH g (hd 9) (HA2 9) (HF2 9) ++ ([])))))))))).symm (by rw [eHA2, eHF2]; exact hD)
    have eo := (Option.some.inj hsem).symm.symm
    refine W.endD hdr ?_
    subst eo
    exact W.iret (v := z2.1) hx hb hr (fun t ht hW => ⟨⟨_, (u2.1, HF2), rfl, ⟨rfl, hq1, haHF2⟩, ⟨by rw [ht]; exact hP, hD⟩⟩, hS.F ht⟩) hS.2.2 dX6_would_32
  · rw [if_pos c1] at hsem
    refine lv_iconst (v := (-1)) hx hb dX6_would_7 (by decide) ?_
    have eo := (Option.some.inj hsem).symm.symm
    refine W.endD hdr ?_
    subst eo
    exact W.iret (v := (-1)) hx hb hr (fun t ht hW => ⟨⟨_, (Fp, HF), rfl, ⟨rfl, hALp, hALH⟩, ⟨by rw [ht]; exact hP, hD⟩⟩, hS.F ht⟩) hS.2.2 dX6_would_8
def sX6_writes (nxi : Int32) (kni : Int32) (HA : Nat → IA) (HFc : Nat → FA) (p0 : Int32) (p1 : Int32) (p2 : Int32) : Option (Int32 × Int32 × Int32 × (Nat → IA) × (Nat → FA)) :=
  (sX6_isRoot p0).bind fun x1 => if x1 = 0 then (some (((-1), nxi, kni, HA, HFc))) else ((sX6_within p1 0 1).bind fun x2 => if x2 = 0 then (some (((-1), nxi, kni, HA, HFc))) else ((sX6_isRootOrNil p2).bind fun x3 => if x3 = 0 then (some (((-1), nxi, kni, HA, HFc))) else (ck p0 6 (if (((HA 0) 9) p0.toNatClampNeg) = (-5) then (some (((-2), nxi, kni, HA, HFc))) else ((sX2_push nxi kni HA HFc).bind fun z1 => ck p0 6 ((sX1_ofRoot (z1.2.2.1 0) p2).bind fun x4 => (sX1_writeField (z1.2.2.1 0) (((z1.2.2.1 0) 9) p0.toNatClampNeg) p1 x4).bind fun z2 => bd (upH z1.2.2.1 0 (z2.2)) fun HA1 => if z2.1 = 0 then (some (0, z1.1, z1.2.1, HA1, z1.2.2.2)) else (some (1, z1.1, z1.2.1, HA1, z1.2.2.2))))))))
abbrev rmX6_writes : Room := { frames := 4, cells := 0, slots := 0, locals := 103 }
theorem hdX6_writes : yX6_writes.cls = RX6 ∧ yX6_writes.cls ≠ "java/lang/invoke/MethodHandle" ∧ yX6_writes.cls ≠ "java/lang/invoke/VarHandle" ∧ (parseMethodDescriptor yX6_writes.desc).map (fun d => d.parameters.length) = some 3 := by decide +kernel
set_option maxHeartbeats 8000000 in
set_option maxRecDepth 100000 in
theorem kX6_writes {l : Launch} {g : GG} {sz : Nat} {a0 a1 a2 : Nat} {im : Nat → Option Nat} {kf : Nat → Int32} {a0t : Nat} {rgt : Int32} {yct : Int32} {fct : UInt32} {adp : Nat → Nat} {Ap : IA} {Fp : FA} {adr : Nat → Nat} {Ar : IA} {a0i a1i : Nat} {pf : Nat → Option Nat} {nxi kni : Int32} {hd : Nat → Nat → Nat} {HA : Nat → IA} {HF : Nat → FA} {p0 p1 p2 : Int32} (hpf : ∀ k, k < 6 → pf k = some (hd (2 + k) 0)) {fctc : UInt32} (hfct : alike32 fct fctc = true) {Fpc : FA} (hALp : AL Fp Fpc) {HFc : Nat → FA} (hALH : ALH HF HFc) {b : Int32 × Int32 × Int32 × (Nat → IA) × (Nat → FA)} (hsem : sX6_writes nxi kni HA HFc p0 p1 p2 = some b) : MetDI l yX6_writes wsX6_writes rmX6_writes g [.ref a0, .int p0, .int p1, .int p2] (wTp g a0 a1 a2 a0t (adp 0) (adr 0) a0i (hd 0 0) (hd 1 0) im kf ++ (wC g a0t rgt yct fct ++ (wPa g adp Ap Fp ++ (wRe g adr Ar ++ (wHi g a0i a1i pf nxi kni ++ (wH g (hd 0) (HA 0) (HF 0) ++ (wH g (hd 1) (HA 1) (HF 1) ++ (wH g (hd 2) (HA 2) (HF 2) ++ (wH g (hd 3) (HA 3) (HF 3) ++ (wH g (hd 4) (HA 4) (HF 4) ++ (wH g (hd 5) (HA 5) (HF 5) ++ (wH g (hd 6) (HA 6) (HF 6) ++ (wH g (hd 7) (HA 7) (HF 7) ++ (wH g (hd 8) (HA 8) (HF 8) ++ (wH g (hd 9) (HA 9) (HF 9) ++ ([])))))))))))))))) sz b.1 (φ := (Nat → FA)) (fun u => ALH u b.2.2.2.2) (fun u => wTp g a0 a1 a2 a0t (adp 0) (adr 0) a0i (hd 0 0) (hd 1 0) im kf ++ (wC g a0t rgt yct fct ++ (wPa g adp Ap Fp ++ (wRe g adr Ar ++ (wHi g a0i a1i pf b.2.1 b.2.2.1 ++ (wH g (hd 0) (b.2.2.2.1 0) (u 0) ++ (wH g (hd 1) (b.2.2.2.1 1) (u 1) ++ (wH g (hd 2) (b.2.2.2.1 2) (u 2) ++ (wH g (hd 3) (b.2.2.2.1 3) (u 3) ++ (wH g (hd 4) (b.2.2.2.1 4) (u 4) ++ (wH g (hd 5) (b.2.2.2.1 5) (u 5) ++ (wH g (hd 6) (b.2.2.2.1 6) (u 6) ++ (wH g (hd 7) (b.2.2.2.1 7) (u 7) ++ (wH g (hd 8) (b.2.2.2.1 8) (u 8) ++ (wH g (hd 9) (b.2.2.2.1 9) (u 9) ++ ([])))))))))))))))) := by
  refine MetD.ofW (cc := cX6_writes) (maxL := 4) (ret := (some .int)) (by decide) rfl ?_
  intro p e s m args below meth c s₁ B hml hv hd0
  obtain ⟨rfl, hsz, hP, hD0, hKK⟩ := hv
  subst hsz
  have hx := B.exec
  have hb := B.bytes
  have hr := B.returns
  have hts := atoms_spec (ws := wsX6_writes) B.pre
  have hown : ∀ d, (s.setDrawn d).vm.findClass RX6 = some m.cls := fun _ => findClass_of_methodNamed B.named
  have hlocks := B.notSynchronized
  have hK : ∀ d, va_K g.1 vwCl (KT g) (s.setDrawn d) := fun d => (hKK.drawn d).1
  have hD := hD0.self (sz := s.heap.size)
  generalize hZe : va_A (wTp g a0 a1 a2 a0t (adp 0) (adr 0) a0i (hd 0 0) (hd 1 0) im kf ++ (wC g a0t rgt yct fct ++ (wPa g adp Ap Fp ++ (wRe g adr Ar ++ (wHi g a0i a1i pf nxi kni ++ (wH g (hd 0) (HA 0) (HF 0) ++ (wH g (hd 1) (HA 1) (HF 1) ++ (wH g (hd 2) (HA 2) (HF 2) ++ (wH g (hd 3) (HA 3) (HF 3) ++ (wH g (hd 4) (HA 4) (HF 4) ++ (wH g (hd 5) (HA 5) (HF 5) ++ (wH g (hd 6) (HA 6) (HF 6) ++ (wH g (hd 7) (HA 7) (HF 7) ++ (wH g (hd 8) (HA 8) (HF 8) ++ (wH g (hd 9) (HA 9) (HF 9) ++ ([])))))))))))))))) s.heap.size = Z at hD ⊢
  have hZ : ∀ q : Nat, s.heap.size ≤ q → Z q := fun q h => by rw [← hZe]; exact Or.inr h
  have hS : va_S Z s.heap s.heap [] := va_S.rf
  have hP : va_P g.1 vwCl (wTp g a0 a1 a2 a0t (adp 0) (adr 0) a0i (hd 0 0) (hd 1 0) im kf ++ (wC g a0t rgt yct fct ++ (wPa g adp Ap Fp ++ (wRe g adr Ar ++ (wHi g a0i a1i pf nxi kni ++ (wH g (hd 0) (HA 0) (HF 0) ++ (wH g (hd 1) (HA 1) (HF 1) ++ (wH g (hd 2) (HA 2) (HF 2) ++ (wH g (hd 3) (HA 3) (HF 3) ++ (wH g (hd 4) (HA 4) (HF 4) ++ (wH g (hd 5) (HA 5) (HF 5) ++ (wH g (hd 6) (HA 6) (HF 6) ++ (wH g (hd 7) (HA 7) (HF 7) ++ (wH g (hd 8) (HA 8) (HF 8) ++ (wH g (hd 9) (HA 9) (HF 9) ++ ([])))))))))))))))) s.heap := hP
  have hD : va_D Z (wTp g a0 a1 a2 a0t (adp 0) (adr 0) a0i (hd 0 0) (hd 1 0) im kf ++ (wC g a0t rgt yct fct ++ (wPa g adp Ap Fp ++ (wRe g adr Ar ++ (wHi g a0i a1i pf nxi kni ++ (wH g (hd 0) (HA 0) (HF 0) ++ (wH g (hd 1) (HA 1) (HF 1) ++ (wH g (hd 2) (HA 2) (HF 2) ++ (wH g (hd 3) (HA 3) (HF 3) ++ (wH g (hd 4) (HA 4) (HF 4) ++ (wH g (hd 5) (HA 5) (HF 5) ++ (wH g (hd 6) (HA 6) (HF 6) ++ (wH g (hd 7) (HA 7) (HF 7) ++ (wH g (hd 8) (HA 8) (HF 8) ++ (wH g (hd 9) (HA 9) (HF 9) ++ ([])))))))))))))))) := hD
  obtain ⟨d, hdr, hdd⟩ : ∃ d, s.drawn.sameBut d lw_cs ∧ s.drawn = d := ⟨_, hd0, rfl⟩
  rw [hdd]
  have hl := lv_entry ([.ref a0, .int p0, .int p1, .int p2]) (n := 4) (Nat.le_of_ble_eq_true rfl)
  rw [lg_entry_eq]
  generalize (lg_sl ([.ref a0, .int p0, .int p1, .int p2]) ++ List.replicate (4 - (lg_sl ([.ref a0, .int p0, .int p1, .int p2])).length) Slot.unset).toArray = ls at hl ⊢
  have hl : lv_has ls 4 [(0, .ref a0), (1, .int p0), (2, .int p1), (3, .int p2)] := hl
  unfold sX6_writes at hsem
  refine lv_iload_n hx hb dX6_writes_0 rfl (lv_at hl 1 rfl) ?_
  obtain ⟨x1, hc1, hsem⟩ := bn_some hsem
  refine pcS (As := [.int p0]) (rest := []) ⟨hx, hb, hml, (hown d), (dr_words hts d)⟩ (hKK.drawn d) (va_cwS 1 (dr_words hts d) gX6_writes_X6_isRoot rfl rfl rfl hdX6_isRoot ⟨Nat.le_of_ble_eq_true rfl, Nat.le_of_ble_eq_true rfl⟩) (kX6_isRoot (l := l) (g := g) hc1) rfl hl.1 rfl (Nat.le_of_ble_eq_true rfl) dX6_writes_1 ⟨Nat.zero_le _, Nat.zero_le _⟩ ?_
  refine lv_if_eq (tgt := 23) hx hb dX6_writes_4 (by decide) (fun c1 => ?_) (fun c1 => ?_)
  · rw [if_pos c1] at hsem
    refine lv_iconst (v := (-1)) hx hb dX6_writes_23 (by decide) ?_
    have eo := (Option.some.inj hsem).symm.symm
    refine W.endD hdr ?_
    subst eo
    exact W.iret (v := (-1)) hx hb hr (fun t ht hW => ⟨⟨_, HF, rfl, ⟨rfl, hALH⟩, ⟨by rw [ht]; exact hP, hD⟩⟩, hS.F ht⟩) hS.2.2 dX6_writes_24
  · rw [if_neg c1] at hsem
    refine lv_iload_n hx hb dX6_writes_7 rfl (lv_at hl 2 rfl) ?_
    refine lv_iconst (v := 0) hx hb dX6_writes_8 (by decide) ?_
    refine lv_iconst (v := 1) hx hb dX6_writes_9 (by decide) ?_
    obtain ⟨x2, hc2, hsem⟩ := bn_some hsem
    refine pcS (As := [.int p1, .int 0, .int 1]) (rest := []) ⟨hx, hb, hml, (hown d), (dr_words hts d)⟩ (hKK.drawn d) (va_cwS 3 (dr_words hts d) gX6_writes_X6_within rfl rfl rfl hdX6_within ⟨Nat.le_of_ble_eq_true rfl, Nat.le_of_ble_eq_true rfl⟩) (kX6_within (l := l) (g := g) hc2) rfl hl.1 rfl (Nat.le_of_ble_eq_true rfl) dX6_writes_10 ⟨Nat.zero_le _, Nat.zero_le _⟩ ?_
    refine lv_if_eq (tgt := 23) hx hb dX6_writes_13 (by decide) (fun c2 => ?_) (fun c2 => ?_)
    · rw [if_pos c2] at hsem
      refine lv_iconst (v := (-1)) hx hb dX6_writes_23 (by decide) ?_
      have eo := (Option.some.inj hsem).symm.symm
      refine W.endD hdr ?_
      subst eo
      exact W.iret (v := (-1)) hx hb hr (fun t ht hW => ⟨⟨_, HF, rfl, ⟨rfl, hALH⟩, ⟨by rw [ht]; exact hP, hD⟩⟩, hS.F ht⟩) hS.2.2 dX6_writes_24
    · rw [if_neg c2] at hsem
      refine lv_iload_n hx hb dX6_writes_16 rfl (lv_at hl 3 rfl) ?_
      obtain ⟨x3, hc3, hsem⟩ := bn_some hsem
      refine pcS (As := [.int p2]) (rest := []) ⟨hx, hb, hml, (hown d), (dr_words hts d)⟩ (hKK.drawn d) (va_cwS 1 (dr_words hts d) gX6_writes_X6_isRootOrNil rfl rfl rfl hdX6_isRootOrNil ⟨Nat.le_of_ble_eq_true rfl, Nat.le_of_ble_eq_true rfl⟩) (kX6_isRootOrNil (l := l) (g := g) hc3) rfl hl.1 rfl (Nat.le_of_ble_eq_true rfl) dX6_writes_17 ⟨Nat.zero_le _, Nat.zero_le _⟩ ?_
      refine lv_if_ne (tgt := 25) hx hb dX6_writes_20 (by decide) (fun c3 => ?_) (fun c3 => ?_)
      · rw [if_neg c3] at hsem
        refine lv_aload_n hx hb dX6_writes_25 rfl (lv_at hl 0 rfl) ?_
        refine va_get (D := g.1) (ci := 6) (v := .ref (hd 0 0)) (C := RX6) (T := TX6) (N := 8) hx hb (dr_words hts d) (fun w h => List.mem_cons_of_mem _ (List.mem_append_left _ (List.mem_append_left _ (List.mem_append_left _ (List.mem_append_right _ h))))) (hown d) (hK d) hP 0 rfl rfl 0 (by decide) ((dr_words hts d) (.fieldLink RX6 10 "PauseRegions" "heap" "LPauseRegions$Heap;") (List.mem_of_getElem? (i := 1) rfl)) (fun _ h9 => h9) rfl dX6_writes_26 ?_
        refine va_get (D := g.1) (ci := 1) (v := .ref (hd 0 10)) (C := RX1) (T := TX1) (N := 18) hx hb (dr_words hts d) (fun w h => List.mem_cons_of_mem _ (List.mem_append_left _ (List.mem_append_left _ (List.mem_append_right _ h)))) (hown d) (hK d) hP 14 rfl rfl 9 (by decide) ((dr_words hts d) (.fieldLink RX6 79 "PauseRegions$Heap" "roots" "[I") (List.mem_of_getElem? (i := 2) rfl)) (fun _ h9 => h9) rfl dX6_writes_29 ?_
        refine lv_iload_n hx hb dX6_writes_32 rfl (lv_at hl 1 rfl) ?_
        obtain ⟨h1, hsem⟩ := ck_some hsem
        refine va_iald (D := g.1) hx hb (hK d) hP 24 0 rfl rfl h1 dX6_writes_33 ?_
        refine lv_bipush (v := (-5)) hx hb dX6_writes_34 (by decide) ?_
        refine lv_icmp_ne (tgt := 42) hx hb dX6_writes_36 (by decide) (fun c4 => ?_) (fun c4 => ?_)
        · rw [if_neg c4] at hsem
          refine lv_aload_n hx hb dX6_writes_42 rfl (lv_at hl 0 rfl) ?_
          refine va_get (D := g.1) (ci := 6) (v := .ref a0i) (C := RX6) (T := TX6) (N := 8) hx hb (dr_words hts d) (fun w h => List.mem_cons_of_mem _ (List.mem_append_left _ (List.mem_append_left _ (List.mem_append_left _ (List.mem_append_right _ h))))) (hown d) (hK d) hP 0 rfl rfl 2 (by decide) ((dr_words hts d) (.fieldLink RX6 22 "PauseRegions" "history" "LPauseRegions$History;") (List.mem_of_getElem? (i := 3) rfl)) (fun _ h9 => h9) rfl dX6_writes_43 ?_
          refine lv_aload_n hx hb dX6_writes_46 rfl (lv_at hl 0 rfl) ?_
          refine va_get (D := g.1) (ci := 6) (v := .ref (hd 0 0)) (C := RX6) (T := TX6) (N := 8) hx hb (dr_words hts d) (fun w h => List.mem_cons_of_mem _ (List.mem_append_left _ (List.mem_append_left _ (List.mem_append_left _ (List.mem_append_right _ h))))) (hown d) (hK d) hP 0 rfl rfl 0 (by decide) ((dr_words hts d) (.fieldLink RX6 10 "PauseRegions" "heap" "LPauseRegions$Heap;") (List.mem_of_getElem? (i := 1) rfl)) (fun _ h9 => h9) rfl dX6_writes_47 ?_
          obtain ⟨z1, hc4, hsem⟩ := bn_some hsem
          refine tdV (C := RX2) (As := [.ref (hd 0 0)]) (rest := []) hP hD hS hZ (pF1 (wTp g a0 a1 a2 a0t (adp 0) (adr 0) a0i (hd 0 0) (hd 1 0) im kf ++ (wC g a0t rgt yct fct ++ (wPa g adp Ap Fp ++ (wRe g adr Ar ++ ([]))))) (wHi g a0i a1i pf nxi kni ++ (wH g (hd 0) (HA 0) (HF 0) ++ (wH g (hd 1) (HA 1) (HF 1) ++ (wH g (hd 2) (HA 2) (HF 2) ++ (wH g (hd 3) (HA 3) (HF 3) ++ (wH g (hd 4) (HA 4) (HF 4) ++ (wH g (hd 5) (HA 5) (HF 5) ++ (wH g (hd 6) (HA 6) (HF 6) ++ (wH g (hd 7) (HA 7) (HF 7) ++ (wH g (hd 8) (HA 8) (HF 8) ++ (wH g (hd 9) (HA 9) (HF 9) ++ ([])))))))))))) ([])) hdr ⟨hx, hb, hml, (hown d), (dr_words hts d)⟩ (hKK.drawn d) (cwV 1 (dr_words hts d) gX6_writes_X2_push rfl rfl rfl hdX2_push ⟨Nat.le_of_ble_eq_true rfl, Nat.le_of_ble_eq_true rfl⟩) (kX2_push (l := l) (g := g) (a0i := a0i) (a1i := a1i) (hd := hd) (pf := pf) (nxi := nxi) (kni := kni) (HA := HA) (HF := HF) (HFc := HFc) hpf hALH hc4) (va_recv (hK d) hP (ci := 2) (q0 := 12) rfl rfl) rfl hl.1 rfl (Nat.le_of_ble_eq_true rfl) dX6_writes_50 ⟨Nat.zero_le _, Nat.zero_le _⟩ (fun u1 H locs d hpo hP hD hS hdr => ?_)
          have hq1 := hpo
          have hP : va_P g.1 vwCl (wTp g a0 a1 a2 a0t (adp 0) (adr 0) a0i (hd 0 0) (hd 1 0) im kf ++ (wC g a0t rgt yct fct ++ (wPa g adp Ap Fp ++ (wRe g adr Ar ++ (wHi g a0i a1i pf z1.1 z1.2.1 ++ (wH g (hd 0) (z1.2.2.1 0) (u1 0) ++ (wH g (hd 1) (z1.2.2.1 1) (u1 1) ++ (wH g (hd 2) (z1.2.2.1 2) (u1 2) ++ (wH g (hd 3) (z1.2.2.1 3) (u1 3) ++ (wH g (hd 4) (z1.2.2.1 4) (u1 4) ++ (wH g (hd 5) (z1.2.2.1 5) (u1 5) ++ (wH g (hd 6) (z1.2.2.1 6) (u1 6) ++ (wH g (hd 7) (z1.2.2.1 7) (u1 7) ++ (wH g (hd 8) (z1.2.2.1 8) (u1 8) ++ (wH g (hd 9) (z1.2.2.1 9) (u1 9) ++ ([])))))))))))))))) H := vaP_perm (pF1 (wTp g a0 a1 a2 a0t (adp 0) (adr 0) a0i (hd 0 0) (hd 1 0) im kf ++ (wC g a0t rgt yct fct ++ (wPa g adp Ap Fp ++ (wRe g adr Ar ++ ([]))))) (wHi g a0i a1i pf z1.1 z1.2.1 ++ (wH g (hd 0) (z1.2.2.1 0) (u1 0) ++ (wH g (hd 1) (z1.2.2.1 1) (u1 1) ++ (wH g (hd 2) (z1.2.2.1 2) (u1 2) ++ (wH g (hd 3) (z1.2.2.1 3) (u1 3) ++ (wH g (hd 4) (z1.2.2.1 4) (u1 4) ++ (wH g (hd 5) (z1.2.2.1 5) (u1 5) ++ (wH g (hd 6) (z1.2.2.1 6) (u1 6) ++ (wH g (hd 7) (z1.2.2.1 7) (u1 7) ++ (wH g (hd 8) (z1.2.2.1 8) (u1 8) ++ (wH g (hd 9) (z1.2.2.1 9) (u1 9) ++ ([])))))))))))) ([])).symm (by exact hP)
          have hD : va_D Z (wTp g a0 a1 a2 a0t (adp 0) (adr 0) a0i (hd 0 0) (hd 1 0) im kf ++ (wC g a0t rgt yct fct ++ (wPa g adp Ap Fp ++ (wRe g adr Ar ++ (wHi g a0i a1i pf z1.1 z1.2.1 ++ (wH g (hd 0) (z1.2.2.1 0) (u1 0) ++ (wH g (hd 1) (z1.2.2.1 1) (u1 1) ++ (wH g (hd 2) (z1.2.2.1 2) (u1 2) ++ (wH g (hd 3) (z1.2.2.1 3) (u1 3) ++ (wH g (hd 4) (z1.2.2.1 4) (u1 4) ++ (wH g (hd 5) (z1.2.2.1 5) (u1 5) ++ (wH g (hd 6) (z1.2.2.1 6) (u1 6) ++ (wH g (hd 7) (z1.2.2.1 7) (u1 7) ++ (wH g (hd 8) (z1.2.2.1 8) (u1 8) ++ (wH g (hd 9) (z1.2.2.1 9) (u1 9) ++ ([])))))))))))))))) := vaD_perm (pF1 (wTp g a0 a1 a2 a0t (adp 0) (adr 0) a0i (hd 0 0) (hd 1 0) im kf ++ (wC g a0t rgt yct fct ++ (wPa g adp Ap Fp ++ (wRe g adr Ar ++ ([]))))) (wHi g a0i a1i pf z1.1 z1.2.1 ++ (wH g (hd 0) (z1.2.2.1 0) (u1 0) ++ (wH g (hd 1) (z1.2.2.1 1) (u1 1) ++ (wH g (hd 2) (z1.2.2.1 2) (u1 2) ++ (wH g (hd 3) (z1.2.2.1 3) (u1 3) ++ (wH g (hd 4) (z1.2.2.1 4) (u1 4) ++ (wH g (hd 5) (z1.2.2.1 5) (u1 5) ++ (wH g (hd 6) (z1.2.2.1 6) (u1 6) ++ (wH g (hd 7) (z1.2.2.1 7) (u1 7) ++ (wH g (hd 8) (z1.2.2.1 8) (u1 8) ++ (wH g (hd 9) (z1.2.2.1 9) (u1 9) ++ ([])))))))))))) ([])).symm (by exact hD)
          refine lv_aload_n hx hb dX6_writes_53 rfl (lv_at hl 0 rfl) ?_
          refine va_get (D := g.1) (ci := 6) (v := .ref (hd 0 0)) (C := RX6) (T := TX6) (N := 8) hx hb (dr_words hts d) (fun w h => List.mem_cons_of_mem _ (List.mem_append_left _ (List.mem_append_left _ (List.mem_append_left _ (List.mem_append_right _ h))))) (hown d) (hK d) hP 0 rfl rfl 0 (by decide) ((dr_words hts d) (.fieldLink RX6 10 "PauseRegions" "heap" "LPauseRegions$Heap;") (List.mem_of_getElem? (i := 1) rfl)) (fun _ h9 => h9) rfl dX6_writes_54 ?_
          refine lv_aload_n hx hb dX6_writes_57 rfl (lv_at hl 0 rfl) ?_
          refine va_get (D := g.1) (ci := 6) (v := .ref (hd 0 0)) (C := RX6) (T := TX6) (N := 8) hx hb (dr_words hts d) (fun w h => List.mem_cons_of_mem _ (List.mem_append_left _ (List.mem_append_left _ (List.mem_append_left _ (List.mem_append_right _ h))))) (hown d) (hK d) hP 0 rfl rfl 0 (by decide) ((dr_words hts d) (.fieldLink RX6 10 "PauseRegions" "heap" "LPauseRegions$Heap;") (List.mem_of_getElem? (i := 1) rfl)) (fun _ h9 => h9) rfl dX6_writes_58 ?_
          refine va_get (D := g.1) (ci := 1) (v := .ref (hd 0 10)) (C := RX1) (T := TX1) (N := 18) hx hb (dr_words hts d) (fun w h => List.mem_cons_of_mem _ (List.mem_append_left _ (List.mem_append_left _ (List.mem_append_right _ h)))) (hown d) (hK d) hP 14 rfl rfl 9 (by decide) ((dr_words hts d) (.fieldLink RX6 79 "PauseRegions$Heap" "roots" "[I") (List.mem_of_getElem? (i := 2) rfl)) (fun _ h9 => h9) rfl dX6_writes_61 ?_
          refine lv_iload_n hx hb dX6_writes_64 rfl (lv_at hl 1 rfl) ?_
          obtain ⟨h2, hsem⟩ := ck_some hsem
          refine va_iald (D := g.1) hx hb (hK d) hP 24 0 rfl rfl h2 dX6_writes_65 ?_
          refine lv_iload_n hx hb dX6_writes_66 rfl (lv_at hl 2 rfl) ?_
          refine lv_aload_n hx hb dX6_writes_67 rfl (lv_at hl 0 rfl) ?_
          refine va_get (D := g.1) (ci := 6) (v := .ref (hd 0 0)) (C := RX6) (T := TX6) (N := 8) hx hb (dr_words hts d) (fun w h => List.mem_cons_of_mem _ (List.mem_append_left _ (List.mem_append_left _ (List.mem_append_left _ (List.mem_append_right _ h))))) (hown d) (hK d) hP 0 rfl rfl 0 (by decide) ((dr_words hts d) (.fieldLink RX6 10 "PauseRegions" "heap" "LPauseRegions$Heap;") (List.mem_of_getElem? (i := 1) rfl)) (fun _ h9 => h9) rfl dX6_writes_68 ?_
          refine lv_iload_n hx hb dX6_writes_71 rfl (lv_at hl 3 rfl) ?_
          obtain ⟨x4, hc5, hsem⟩ := bn_some hsem
          refine pcV (C := RX1) (As := [.int p2]) (rest := [.int p1, .int (((z1.2.2.1 0) 9) p0.toNatClampNeg), .ref (hd 0 0)]) ⟨hx, hb, hml, (hown d), (dr_words hts d)⟩ (hKK.drawn d) (cwV 1 (dr_words hts d) gX6_writes_X1_ofRoot rfl rfl rfl hdX1_ofRoot ⟨Nat.le_of_ble_eq_true rfl, Nat.le_of_ble_eq_true rfl⟩) (kX1_ofRoot (l := l) (g := g) (hP.sub (ws' := wH g (hd 0) (z1.2.2.1 0) (u1 0)) [14, 15, 16, 17, 18, 19, 20, 21, 22, 23, 24, 25, 26, 27, 28] rfl) hc5) (va_recv (hK d) hP (ci := 1) (q0 := 14) rfl rfl) rfl hl.1 rfl (Nat.le_of_ble_eq_true rfl) dX6_writes_72 ⟨Nat.zero_le _, Nat.zero_le _⟩ ?_
          obtain ⟨z2, hc6, hsem⟩ := bn_some hsem
          refine tcI (C := RX1) (As := [.int (((z1.2.2.1 0) 9) p0.toNatClampNeg), .int p1, .int x4]) (rest := []) hP hD hS hZ (pF1 (wTp g a0 a1 a2 a0t (adp 0) (adr 0) a0i (hd 0 0) (hd 1 0) im kf ++ (wC g a0t rgt yct fct ++ (wPa g adp Ap Fp ++ (wRe g adr Ar ++ (wHi g a0i a1i pf z1.1 z1.2.1 ++ ([])))))) (wH g (hd 0) (z1.2.2.1 0) (u1 0)) (wH g (hd 1) (z1.2.2.1 1) (u1 1) ++ (wH g (hd 2) (z1.2.2.1 2) (u1 2) ++ (wH g (hd 3) (z1.2.2.1 3) (u1 3) ++ (wH g (hd 4) (z1.2.2.1 4) (u1 4) ++ (wH g (hd 5) (z1.2.2.1 5) (u1 5) ++ (wH g (hd 6) (z1.2.2.1 6) (u1 6) ++ (wH g (hd 7) (z1.2.2.1 7) (u1 7) ++ (wH g (hd 8) (z1.2.2.1 8) (u1 8) ++ (wH g (hd 9) (z1.2.2.1 9) (u1 9) ++ ([]))))))))))) ⟨hx, hb, hml, (hown d), (dr_words hts d)⟩ (hKK.drawn d) (cwV 3 (dr_words hts d) gX6_writes_X1_writeField rfl rfl rfl hdX1_writeField ⟨Nat.le_of_ble_eq_true rfl, Nat.le_of_ble_eq_true rfl⟩) (kX1_writeField (l := l) (g := g) (ad := hd 0) (A := (z1.2.2.1 0)) (F := (u1 0))  hc6) (va_recv (hK d) hP (ci := 1) (q0 := 14) rfl rfl) rfl hl.1 rfl (Nat.le_of_ble_eq_true rfl) dX6_writes_75 ⟨Nat.zero_le _, Nat.zero_le _⟩ (fun H locs hP hD hS => ?_)
          obtain ⟨HA1, eHA1, hsem⟩ := bd_some hsem
          have hP : va_P g.1 vwCl (wTp g a0 a1 a2 a0t (adp 0) (adr 0) a0i (hd 0 0) (hd 1 0) im kf ++ (wC g a0t rgt yct fct ++ (wPa g adp Ap Fp ++ (wRe g adr Ar ++ (wHi g a0i a1i pf z1.1 z1.2.1 ++ (wH g (hd 0) (HA1 0) (u1 0) ++ (wH g (hd 1) (HA1 1) (u1 1) ++ (wH g (hd 2) (HA1 2) (u1 2) ++ (wH g (hd 3) (HA1 3) (u1 3) ++ (wH g (hd 4) (HA1 4) (u1 4) ++ (wH g (hd 5) (HA1 5) (u1 5) ++ (wH g (hd 6) (HA1 6) (u1 6) ++ (wH g (hd 7) (HA1 7) (u1 7) ++ (wH g (hd 8) (HA1 8) (u1 8) ++ (wH g (hd 9) (HA1 9) (u1 9) ++ ([])))))))))))))))) H := vaP_perm (pF1 (wTp g a0 a1 a2 a0t (adp 0) (adr 0) a0i (hd 0 0) (hd 1 0) im kf ++ (wC g a0t rgt yct fct ++ (wPa g adp Ap Fp ++ (wRe g adr Ar ++ (wHi g a0i a1i pf z1.1 z1.2.1 ++ ([])))))) (wH g (hd 0) (HA1 0) (u1 0)) (wH g (hd 1) (HA1 1) (u1 1) ++ (wH g (hd 2) (HA1 2) (u1 2) ++ (wH g (hd 3) (HA1 3) (u1 3) ++ (wH g (hd 4) (HA1 4) (u1 4) ++ (wH g (hd 5) (HA1 5) (u1 5) ++ (wH g (hd 6) (HA1 6) (u1 6) ++ (wH g (hd 7) (HA1 7) (u1 7) ++ (wH g (hd 8) (HA1 8) (u1 8) ++ (wH g (hd 9) (HA1 9) (u1 9) ++ ([]))))))))))).symm (by rw [eHA1]; exact hP)
          have hD : va_D Z (wTp g a0 a1 a2 a0t (adp 0) (adr 0) a0i (hd 0 0) (hd 1 0) im kf ++ (wC g a0t rgt yct fct ++ (wPa g adp Ap Fp ++ (wRe g adr Ar ++ (wHi g a0i a1i pf z1.1 z1.2.1 ++ (wH g (hd 0) (HA1 0) (u1 0) ++ (wH g (hd 1) (HA1 1) (u1 1) ++ (wH g (hd 2) (HA1 2) (u1 2) ++ (wH g (hd 3) (HA1 3) (u1 3) ++ (wH g (hd 4) (HA1 4) (u1 4) ++ (wH g (hd 5) (HA1 5) (u1 5) ++ (wH g (hd 6) (HA1 6) (u1 6) ++ (wH g (hd 7) (HA1 7) (u1 7) ++ (wH g (hd 8) (HA1 8) (u1 8) ++ (wH g (hd 9) (HA1 9) (u1 9) ++ ([])))))))))))))))) := vaD_perm (pF1 (wTp g a0 a1 a2 a0t (adp 0) (adr 0) a0i (hd 0 0) (hd 1 0) im kf ++ (wC g a0t rgt yct fct ++ (wPa g adp Ap Fp ++ (wRe g adr Ar ++ (wHi g a0i a1i pf z1.1 z1.2.1 ++ ([])))))) (wH g (hd 0) (HA1 0) (u1 0)) (wH g (hd 1) (HA1 1) (u1 1) ++ (wH g (hd 2) (HA1 2) (u1 2) ++ (wH g (hd 3) (HA1 3) (u1 3) ++ (wH g (hd 4) (HA1 4) (u1 4) ++ (wH g (hd 5) (HA1 5) (u1 5) ++ (wH g (hd 6) (HA1 6) (u1 6) ++ (wH g (hd 7) (HA1 7) (u1 7) ++ (wH g (hd 8) (HA1 8) (u1 8) ++ (wH g (hd 9) (HA1 9) (u1 9) ++ ([]))))))))))).symm (by rw [eHA1]; exact hD)
          refine lv_if_eq (tgt := 85) hx hb dX6_writes_78 (by decide) (fun c5 => ?_) (fun c5 => ?_)
          · rw [if_pos c5] at hsem
            refine lv_iconst (v := 0) hx hb dX6_writes_85 (by decide) ?_
            have eo := (Option.some.inj hsem).symm.symm
            refine W.endD hdr ?_
            subst eo
            exact W.iret (v := 0) hx hb hr (fun t ht hW => ⟨⟨_, u1, rfl, ⟨rfl, hq1⟩, ⟨by rw [ht]; exact hP, hD⟩⟩, hS.F ht⟩) hS.2.2 dX6_writes_86
          · rw [if_neg c5] at hsem
            refine lv_iconst (v := 1) hx hb dX6_writes_81 (by decide) ?_
            refine lv_goto (tgt := 86) hx hb dX6_writes_82 (by decide) ?_
            have eo := (Option.some.inj hsem).symm.symm
            refine W.endD hdr ?_
            subst eo
            exact W.iret (v := 1) hx hb hr (fun t ht hW => ⟨⟨_, u1, rfl, ⟨rfl, hq1⟩, ⟨by rw [ht]; exact hP, hD⟩⟩, hS.F ht⟩) hS.2.2 dX6_writes_86
        · rw [if_pos c4] at hsem
          refine lv_bipush (v := (-2)) hx hb dX6_writes_39 (by decide) ?_
          have eo := (Option.some.inj hsem).symm.symm
          refine W.endD hdr ?_
          subst eo
          exact W.iret (v := (-2)) hx hb hr (fun t ht hW => ⟨⟨_, HF, rfl, ⟨rfl, hALH⟩, ⟨by rw [ht]; exact hP, hD⟩⟩, hS.F ht⟩) hS.2.2 dX6_writes_41
      · rw [if_pos c3] at hsem
        refine lv_iconst (v := (-1)) hx hb dX6_writes_23 (by decide) ?_
        have eo := (Option.some.inj hsem).symm.symm
        refine W.endD hdr ?_
        subst eo
        exact W.iret (v := (-1)) hx hb hr (fun t ht hW => ⟨⟨_, HF, rfl, ⟨rfl, hALH⟩, ⟨by rw [ht]; exact hP, hD⟩⟩, hS.F ht⟩) hS.2.2 dX6_writes_24
