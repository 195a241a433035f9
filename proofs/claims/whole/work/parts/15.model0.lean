def sX7_in (p0 : Int32) (p1 : Int32) (p2 : Int32) : Option (Int32) :=
  if p0 < p1 then (some 0) else (if p2 < p0 then (some 0) else (some 1))
abbrev rmX7_in : Room := { frames := 0, cells := 0, slots := 0, locals := 0 }
theorem hdX7_in : yX7_in.cls ≠ "java/lang/invoke/MethodHandle" ∧ yX7_in.cls ≠ "java/lang/invoke/VarHandle" ∧ (parseMethodDescriptor yX7_in.desc).map (fun d => d.parameters.length) = some 3 := by decide +kernel
set_option maxHeartbeats 4000000 in
set_option maxRecDepth 100000 in
theorem kX7_in {l : Launch} {g : GG} {H0 : Heap}  {p0 p1 p2 : Int32} {b : Int32} (hsem : sX7_in p0 p1 p2 = some b) : MetP l yX7_in wsX7_in rmX7_in g H0 [.int p0, .int p1, .int p2] b := by
  refine Met.ofW (cc := cX7_in) (maxL := 3) (ret := (some .boolean)) (by decide) rfl ?_
  intro p e s m args below meth c s₁ B hml hv
  obtain ⟨rfl, hH, hKK⟩ := hv
  subst hH
  have hx := B.exec
  have hb := B.bytes
  have hr := B.returns
  have hts := atoms_spec (ws := wsX7_in) B.pre
  have hown : s.vm.findClass RX7 = some m.cls := findClass_of_methodNamed B.named
  have hlocks := B.notSynchronized
  have hK := hKK.1
  have hl := lv_entry ([.int p0, .int p1, .int p2]) (n := 3) (Nat.le_of_ble_eq_true rfl)
  rw [lg_entry_eq]
  generalize (lg_sl ([.int p0, .int p1, .int p2]) ++ List.replicate (3 - (lg_sl ([.int p0, .int p1, .int p2])).length) Slot.unset).toArray = ls at hl ⊢
  have hl : lv_has ls 3 [(0, .int p0), (1, .int p1), (2, .int p2)] := hl
  unfold sX7_in at hsem
  refine lv_iload_n hx hb dX7_in_0 rfl (lv_at hl 0 rfl) ?_
  refine lv_iload_n hx hb dX7_in_1 rfl (lv_at hl 1 rfl) ?_
  refine lv_icmp_lt (tgt := 14) hx hb dX7_in_2 (by decide) (fun c1 => ?_) (fun c1 => ?_)
  · rw [if_pos c1] at hsem
    refine lv_iconst (v := 0) hx hb dX7_in_14 (by decide) ?_
    have eo := (Option.some.inj hsem).symm.symm
    exact W.zret (v := 0) hx hb hr rfl (fun t ht hW => ⟨⟨_, (), rfl, eo, ht⟩, (va_S.rf (A := fun _ => False) (H0 := s.heap)).F ht⟩) (fun q hq => absurd hq List.not_mem_nil) dX7_in_15
  · rw [if_neg c1] at hsem
    refine lv_iload_n hx hb dX7_in_5 rfl (lv_at hl 0 rfl) ?_
    refine lv_iload_n hx hb dX7_in_6 rfl (lv_at hl 2 rfl) ?_
    refine lv_icmp_gt (tgt := 14) hx hb dX7_in_7 (by decide) (fun c2 => ?_) (fun c2 => ?_)
    · rw [if_pos c2] at hsem
      refine lv_iconst (v := 0) hx hb dX7_in_14 (by decide) ?_
      have eo := (Option.some.inj hsem).symm.symm
      exact W.zret (v := 0) hx hb hr rfl (fun t ht hW => ⟨⟨_, (), rfl, eo, ht⟩, (va_S.rf (A := fun _ => False) (H0 := s.heap)).F ht⟩) (fun q hq => absurd hq List.not_mem_nil) dX7_in_15
    · rw [if_neg c2] at hsem
      refine lv_iconst (v := 1) hx hb dX7_in_10 (by decide) ?_
      refine lv_goto (tgt := 15) hx hb dX7_in_11 (by decide) ?_
      have eo := (Option.some.inj hsem).symm.symm
      exact W.zret (v := 1) hx hb hr rfl (fun t ht hW => ⟨⟨_, (), rfl, eo, ht⟩, (va_S.rf (A := fun _ => False) (H0 := s.heap)).F ht⟩) (fun q hq => absurd hq List.not_mem_nil) dX7_in_15
def sX7_isThing (A : IA) (p0 : Int32) : Option (Int32) :=
  (sX7_in p0 0 31).bind fun x1 => if x1 = 0 then (some 0) else (ck ((6 * p0) + 0) 296 (if ((A 1) ((6 * p0) + 0).toNatClampNeg) ≤ 0 then (some 0) else (some 1)))
abbrev rmX7_isThing : Room := { frames := 1, cells := 0, slots := 0, locals := 22 }
theorem hdX7_isThing : yX7_isThing.cls = RX7 ∧ yX7_isThing.cls ≠ "java/lang/invoke/MethodHandle" ∧ yX7_isThing.cls ≠ "java/lang/invoke/VarHandle" ∧ (parseMethodDescriptor yX7_isThing.desc).map (fun d => d.parameters.length) = some 1 := by decide +kernel
set_option maxHeartbeats 4000000 in
set_option maxRecDepth 100000 in
theorem kX7_isThing {l : Launch} {g : GG} {H0 : Heap} {ad : Nat → Nat} {A : IA} {F : FA} {p0 : Int32} {b : Int32} (hP : va_P g.1 vwCl (wM g ad A F) H0) (hsem : sX7_isThing A p0 = some b) : MetP l yX7_isThing wsX7_isThing rmX7_isThing g H0 [.ref (ad 0), .int p0] b := by
  refine Met.ofW (cc := cX7_isThing) (maxL := 2) (ret := (some .boolean)) (by decide) rfl ?_
  intro p e s m args below meth c s₁ B hml hv
  obtain ⟨rfl, hH, hKK⟩ := hv
  subst hH
  have hx := B.exec
  have hb := B.bytes
  have hr := B.returns
  have hts := atoms_spec (ws := wsX7_isThing) B.pre
  have hown : s.vm.findClass RX7 = some m.cls := findClass_of_methodNamed B.named
  have hlocks := B.notSynchronized
  have hK := hKK.1
  have hl := lv_entry ([.ref (ad 0), .int p0]) (n := 2) (Nat.le_of_ble_eq_true rfl)
  rw [lg_entry_eq]
  generalize (lg_sl ([.ref (ad 0), .int p0]) ++ List.replicate (2 - (lg_sl ([.ref (ad 0), .int p0])).length) Slot.unset).toArray = ls at hl ⊢
  have hl : lv_has ls 2 [(0, .ref (ad 0)), (1, .int p0)] := hl
  unfold sX7_isThing at hsem
  refine lv_iload_n hx hb dX7_isThing_0 rfl (lv_at hl 1 rfl) ?_
  refine lv_iconst (v := 0) hx hb dX7_isThing_1 (by decide) ?_
  refine lv_bipush (v := 31) hx hb dX7_isThing_2 (by decide) ?_
  obtain ⟨x1, hc1, hsem⟩ := bn_some hsem
  refine pcS (As := [.int p0, .int 0, .int 31]) (rest := []) ⟨hx, hb, hml, hown, hts⟩ hKK (va_cwS 3 hts gX7_isThing_X7_in rfl rfl rfl hdX7_in ⟨Nat.le_of_ble_eq_true rfl, Nat.le_of_ble_eq_true rfl⟩) (kX7_in (l := l) (g := g) hc1) rfl hl.1 rfl (Nat.le_of_ble_eq_true rfl) dX7_isThing_4 ⟨Nat.zero_le _, Nat.zero_le _⟩ ?_
  refine lv_if_eq (tgt := 28) hx hb dX7_isThing_7 (by decide) (fun c1 => ?_) (fun c1 => ?_)
  · rw [if_pos c1] at hsem
    refine lv_iconst (v := 0) hx hb dX7_isThing_28 (by decide) ?_
    have eo := (Option.some.inj hsem).symm.symm
    exact W.zret (v := 0) hx hb hr rfl (fun t ht hW => ⟨⟨_, (), rfl, eo, ht⟩, (va_S.rf (A := fun _ => False) (H0 := s.heap)).F ht⟩) (fun q hq => absurd hq List.not_mem_nil) dX7_isThing_29
  · rw [if_neg c1] at hsem
    refine lv_aload_n hx hb dX7_isThing_10 rfl (lv_at hl 0 rfl) ?_
    refine va_get (D := g.1) (ci := 7) (v := .ref (ad 1)) (C := RX7) (T := TX7) (N := 26) hx hb hts (fun w h => List.mem_cons_of_mem _ (List.mem_append_right _ h)) hown hK hP 0 rfl rfl 1 (by decide) (hts (.fieldLink RX7 7 "PauseRegionsModel" "s" "[I") (List.mem_of_getElem? (i := 1) rfl)) (fun _ h9 => h9) rfl dX7_isThing_11 ?_
    refine lv_bipush (v := 6) hx hb dX7_isThing_14 (by decide) ?_
    refine lv_iload_n hx hb dX7_isThing_16 rfl (lv_at hl 1 rfl) ?_
    refine lv_imul hx hb dX7_isThing_17 ?_
    refine lv_iconst (v := 0) hx hb dX7_isThing_18 (by decide) ?_
    refine lv_iadd hx hb dX7_isThing_19 ?_
    obtain ⟨h1, hsem⟩ := ck_some hsem
    refine va_iald (D := g.1) hx hb hK hP 1 0 rfl rfl h1 dX7_isThing_20 ?_
    refine lv_if_le (tgt := 28) hx hb dX7_isThing_21 (by decide) (fun c2 => ?_) (fun c2 => ?_)
    · rw [if_pos c2] at hsem
      refine lv_iconst (v := 0) hx hb dX7_isThing_28 (by decide) ?_
      have eo := (Option.some.inj hsem).symm.symm
      exact W.zret (v := 0) hx hb hr rfl (fun t ht hW => ⟨⟨_, (), rfl, eo, ht⟩, (va_S.rf (A := fun _ => False) (H0 := s.heap)).F ht⟩) (fun q hq => absurd hq List.not_mem_nil) dX7_isThing_29
    · rw [if_neg c2] at hsem
      refine lv_iconst (v := 1) hx hb dX7_isThing_24 (by decide) ?_
      refine lv_goto (tgt := 29) hx hb dX7_isThing_25 (by decide) ?_
      have eo := (Option.some.inj hsem).symm.symm
      exact W.zret (v := 1) hx hb hr rfl (fun t ht hW => ⟨⟨_, (), rfl, eo, ht⟩, (va_S.rf (A := fun _ => False) (H0 := s.heap)).F ht⟩) (fun q hq => absurd hq List.not_mem_nil) dX7_isThing_29
def sX7_things_L4 (A : IA) (q1 : Int32 × Int32) : Option ((Int32 × Int32) ⊕ (Int32)) :=
  if 32 ≤ q1.2 then (some (.inr q1.1)) else ((sX7_isThing A q1.2).bind fun x1 => if x1 = 0 then (bd (q1.1 + 0) fun x2 => some (.inl (x2, q1.2 + 1))) else (bd (q1.1 + 1) fun x3 => some (.inl (x3, q1.2 + 1))))
def sX7_things (A : IA) : Option (Int32) :=
  (loopN (sX7_things_L4 A) 2000 (0, 0)).bind fun q2 => some q2
abbrev rmX7_things : Room := { frames := 2, cells := 0, slots := 0, locals := 43 }
theorem hdX7_things : yX7_things.cls = RX7 ∧ yX7_things.cls ≠ "java/lang/invoke/MethodHandle" ∧ yX7_things.cls ≠ "java/lang/invoke/VarHandle" ∧ (parseMethodDescriptor yX7_things.desc).map (fun d => d.parameters.length) = some 0 := by decide +kernel
set_option maxHeartbeats 4000000 in
set_option maxRecDepth 100000 in
theorem kX7_things {l : Launch} {g : GG} {H0 : Heap} {ad : Nat → Nat} {A : IA} {F : FA} {b : Int32} (hP : va_P g.1 vwCl (wM g ad A F) H0) (hsem : sX7_things A = some b) : MetP l yX7_things wsX7_things rmX7_things g H0 [.ref (ad 0)] b := by
  refine Met.ofW (cc := cX7_things) (maxL := 3) (ret := (some .int)) (by decide) rfl ?_
  intro p e s m args below meth c s₁ B hml hv
  obtain ⟨rfl, hH, hKK⟩ := hv
  subst hH
  have hx := B.exec
  have hb := B.bytes
  have hr := B.returns
  have hts := atoms_spec (ws := wsX7_things) B.pre
  have hown : s.vm.findClass RX7 = some m.cls := findClass_of_methodNamed B.named
  have hlocks := B.notSynchronized
  have hK := hKK.1
  have hl := lv_entry ([.ref (ad 0)]) (n := 3) (Nat.le_of_ble_eq_true rfl)
  rw [lg_entry_eq]
  generalize (lg_sl ([.ref (ad 0)]) ++ List.replicate (3 - (lg_sl ([.ref (ad 0)])).length) Slot.unset).toArray = ls at hl ⊢
  have hl : lv_has ls 3 [(0, .ref (ad 0))] := hl
  unfold sX7_things at hsem
  refine lv_iconst (v := 0) hx hb dX7_things_0 (by decide) ?_
  refine lv_istore_n (lv' := [(1, .int 0), (0, .ref (ad 0))]) hx hb dX7_things_1 rfl hl (by decide) rfl (fun ls hl => ?_)
  refine lv_iconst (v := 0) hx hb dX7_things_2 (by decide) ?_
  refine lv_istore_n (lv' := [(2, .int 0), (1, .int 0), (0, .ref (ad 0))]) hx hb dX7_things_3 rfl hl (by decide) rfl (fun ls hl => ?_)
  obtain ⟨q2, hc2, hsem⟩ := bn_some hsem
  refine loopP hc2 (fun (q1 : Int32 × Int32) => [(2, .int q1.2), (1, .int q1.1), (0, .ref (ad 0))]) (fun (q1 : Int32) => [(1, .int q1)]) (exit := 32) (lv_sub hl [0, 1, 2] rfl) (fun ls hl => ?_) (fun q1 r hst1 hin1 hout1 ls hl => ?_)
  · skip
    refine lv_iload_n hx hb dX7_things_32 rfl (lv_at hl 0 rfl) ?_
    have eo := (Option.some.inj hsem).symm.symm
    exact W.iret (v := q2) hx hb hr (fun t ht hW => ⟨⟨_, (), rfl, eo, ht⟩, (va_S.rf (A := fun _ => False) (H0 := s.heap)).F ht⟩) (fun q hq => absurd hq List.not_mem_nil) dX7_things_33
  · unfold sX7_things_L4 at hst1
    refine lv_iload_n hx hb dX7_things_4 rfl (lv_at hl 0 rfl) ?_
    refine lv_bipush (v := 32) hx hb dX7_things_5 (by decide) ?_
    refine lv_icmp_ge (tgt := 32) hx hb dX7_things_7 (by decide) (fun c1 => ?_) (fun c1 => ?_)
    · rw [if_pos c1] at hst1
      exact hout1 ls _ (Option.some.inj hst1).symm (lv_sub hl [1] rfl)
    · rw [if_neg c1] at hst1
      refine lv_iload_n hx hb dX7_things_10 rfl (lv_at hl 1 rfl) ?_
      refine lv_aload_n hx hb dX7_things_11 rfl (lv_at hl 2 rfl) ?_
      refine lv_iload_n hx hb dX7_things_12 rfl (lv_at hl 0 rfl) ?_
      obtain ⟨x1, hc1, hst1⟩ := bn_some hst1
      refine pcV (C := RX7) (As := [.int q1.2]) (rest := [.int q1.1]) ⟨hx, hb, hml, hown, hts⟩ hKK (cwV 1 hts gX7_things_X7_isThing rfl rfl rfl hdX7_isThing ⟨Nat.le_of_ble_eq_true rfl, Nat.le_of_ble_eq_true rfl⟩) (kX7_isThing (l := l) (g := g) hP hc1) (va_recv hK hP (ci := 7) (q0 := 0) rfl rfl) rfl hl.1 rfl (Nat.le_of_ble_eq_true rfl) dX7_things_13 ⟨Nat.zero_le _, Nat.zero_le _⟩ ?_
      refine lv_if_eq (tgt := 23) hx hb dX7_things_16 (by decide) (fun c2 => ?_) (fun c2 => ?_)
      · rw [if_pos c2] at hst1
        refine lv_iconst (v := 0) hx hb dX7_things_23 (by decide) ?_
        refine lv_iadd hx hb dX7_things_24 ?_
        obtain ⟨x2, ex2, hst1⟩ := bd_some hst1
        rw [← ex2]
        refine lv_istore_n (lv' := [(1, .int x2), (2, .int q1.2), (0, .ref (ad 0))]) hx hb dX7_things_25 rfl hl (by decide) rfl (fun ls hl => ?_)
        refine lv_iinc (v := q1.2 + 1) (lv' := [(2, .int (q1.2 + 1)), (1, .int x2), (0, .ref (ad 0))]) hx hb dX7_things_26 hl (k := 1) rfl rfl (by decide) rfl (fun ls hl => ?_)
        refine lv_goto (tgt := 4) hx hb dX7_things_29 (by decide) ?_
        exact hin1 ls _ (Option.some.inj hst1).symm (lv_sub hl [0, 1, 2] rfl)
      · rw [if_neg c2] at hst1
        refine lv_iconst (v := 1) hx hb dX7_things_19 (by decide) ?_
        refine lv_goto (tgt := 24) hx hb dX7_things_20 (by decide) ?_
        refine lv_iadd hx hb dX7_things_24 ?_
        obtain ⟨x3, ex3, hst1⟩ := bd_some hst1
        rw [← ex3]
        refine lv_istore_n (lv' := [(1, .int x3), (2, .int q1.2), (0, .ref (ad 0))]) hx hb dX7_things_25 rfl hl (by decide) rfl (fun ls hl => ?_)
        refine lv_iinc (v := q1.2 + 1) (lv' := [(2, .int (q1.2 + 1)), (1, .int x3), (0, .ref (ad 0))]) hx hb dX7_things_26 hl (k := 1) rfl rfl (by decide) rfl (fun ls hl => ?_)
        refine lv_goto (tgt := 4) hx hb dX7_things_29 (by decide) ?_
        exact hin1 ls _ (Option.some.inj hst1).symm (lv_sub hl [0, 1, 2] rfl)
def sX7_back_L30 (p0 : Int32) (q1 : Int32 × IA) : Option ((Int32 × IA) ⊕ (IA)) :=
  if 296 ≤ q1.1 then (some (.inr q1.2)) else (ck ((296 * p0) + q1.1) 592 (ck q1.1 296 (bd (wr q1.2 1 q1.1.toNatClampNeg ((q1.2 6) ((296 * p0) + q1.1).toNatClampNeg)) fun A2 => some (.inl (q1.1 + 1, A2)))))
def sX7_back (A : IA) (Fc : FA) (p0 : Int32) : Option (Int32 × IA × FA) :=
  bd (sc A 0 0) fun A1 => (sX7_in p0 0 1).bind fun x1 => if x1 = 0 then (some (((-1), A1, Fc))) else (ck p0 2 (if ((A1 8) p0.toNatClampNeg) = 0 then (some (((-2), A1, Fc))) else ((loopN (sX7_back_L30 p0) 2000 (0, A1)).bind fun q2 => ck (2 * p0) 4 (bd (wrF Fc 2 ((Int32.toNatClampNeg 0)) (Fc 7 (2 * p0).toNatClampNeg)) fun F1c => ck ((2 * p0) + 1) 4 (bd (wrF F1c 2 ((Int32.toNatClampNeg 1)) (F1c 7 ((2 * p0) + 1).toNatClampNeg)) fun F2c => bd (sc q2 5 0) fun A3 => (sX7_things A3).bind fun x2 => some (x2, A3, F2c))))))
abbrev rmX7_back : Room := { frames := 3, cells := 0, slots := 0, locals := 65 }
theorem hdX7_back : yX7_back.cls = RX7 ∧ yX7_back.cls ≠ "java/lang/invoke/MethodHandle" ∧ yX7_back.cls ≠ "java/lang/invoke/VarHandle" ∧ (parseMethodDescriptor yX7_back.desc).map (fun d => d.parameters.length) = some 1 := by decide +kernel
set_option maxHeartbeats 4000000 in
set_option maxRecDepth 100000 in
theorem kX7_back {l : Launch} {g : GG} {sz : Nat} {ad : Nat → Nat} {A : IA} {F : FA} {p0 : Int32} {Fc : FA} (hAL : AL F Fc) {b : Int32 × IA × FA} (hsem : sX7_back A Fc p0 = some b) : MetDI l yX7_back wsX7_back rmX7_back g [.ref (ad 0), .int p0] (wM g ad A F) sz b.1 (φ := FA) (fun u => AL u b.2.2) (fun u => wM g ad b.2.1 u) := by
  refine MetD.ofW (cc := cX7_back) (maxL := 3) (ret := (some .int)) (by decide) rfl ?_
  intro p e s m args below meth c s₁ B hml hv hdr
  obtain ⟨rfl, hsz, hP, hD0, hKK⟩ := hv
  subst hsz
  have hx := B.exec
  have hb := B.bytes
  have hr := B.returns
  have hts := atoms_spec (ws := wsX7_back) B.pre
  have hown : ∀ d, (s.setDrawn d).vm.findClass RX7 = some m.cls := fun _ => findClass_of_methodNamed B.named
  have hlocks := B.notSynchronized
  have hK : ∀ d, va_K g.1 vwCl (KT g) (s.setDrawn d) := fun d => (hKK.drawn d).1
  have hD := hD0.self (sz := s.heap.size)
  generalize hZe : va_A (wM g ad A F) s.heap.size = Z at hD ⊢
  have hZ : ∀ q : Nat, s.heap.size ≤ q → Z q := fun q h => by rw [← hZe]; exact Or.inr h
  have hS : va_S Z s.heap s.heap [] := va_S.rf
  have hP : va_P g.1 vwCl (wM g ad A F) s.heap := hP
  have hD : va_D Z (wM g ad A F) := hD
  obtain ⟨d, hdr, hdd⟩ : ∃ d, s.drawn.sameBut d lw_cs ∧ s.drawn = d := ⟨_, hdr, rfl⟩
  rw [hdd]
  have hl := lv_entry ([.ref (ad 0), .int p0]) (n := 3) (Nat.le_of_ble_eq_true rfl)
  rw [lg_entry_eq]
  generalize (lg_sl ([.ref (ad 0), .int p0]) ++ List.replicate (3 - (lg_sl ([.ref (ad 0), .int p0])).length) Slot.unset).toArray = ls at hl ⊢
  have hl : lv_has ls 3 [(0, .ref (ad 0)), (1, .int p0)] := hl
  unfold sX7_back at hsem
  refine lv_aload_n hx hb dX7_back_0 rfl (lv_at hl 0 rfl) ?_
  refine lv_iconst (v := 0) hx hb dX7_back_1 (by decide) ?_
  refine va_put (D := g.1) (ci := 7) (v := .int 0) (ty := .int) (C := RX7) (T := TX7) (N := 26) hx hb (dr_words hts d) (fun w h => List.mem_cons_of_mem _ (List.mem_append_right _ h)) tyX7 tyX7_ok nmX7 (hown d) (hK d) hP hD hS 0 rfl rfl 0 (by decide) ((dr_words hts d) (.fieldLink RX7 55 "PauseRegionsModel" "thrown" "I") (List.mem_of_getElem? (i := 1) rfl)) (fun _ h9 => h9) rfl (by decide +kernel) rfl rfl (Nat.le_of_ble_eq_true rfl) dX7_back_2 (fun H locs hP hD hS => ?_)
  obtain ⟨A1, eA1, hsem⟩ := bd_some hsem
  have hP : va_P g.1 vwCl (wM g ad A1 F) H := by rw [eA1]; exact hP
  have hD : va_D Z (wM g ad A1 F) := by rw [eA1]; exact hD
  refine lv_iload_n hx hb dX7_back_5 rfl (lv_at hl 1 rfl) ?_
  refine lv_iconst (v := 0) hx hb dX7_back_6 (by decide) ?_
  refine lv_iconst (v := 1) hx hb dX7_back_7 (by decide) ?_
  obtain ⟨x1, hc1, hsem⟩ := bn_some hsem
  refine pcS (As := [.int p0, .int 0, .int 1]) (rest := []) ⟨hx, hb, hml, (hown d), (dr_words hts d)⟩ (hKK.drawn d) (va_cwS 3 (dr_words hts d) gX7_back_X7_in rfl rfl rfl hdX7_in ⟨Nat.le_of_ble_eq_true rfl, Nat.le_of_ble_eq_true rfl⟩) (kX7_in (l := l) (g := g) hc1) rfl hl.1 rfl (Nat.le_of_ble_eq_true rfl) dX7_back_8 ⟨Nat.zero_le _, Nat.zero_le _⟩ ?_
  refine lv_if_ne (tgt := 16) hx hb dX7_back_11 (by decide) (fun c1 => ?_) (fun c1 => ?_)
  · rw [if_neg c1] at hsem
    refine lv_aload_n hx hb dX7_back_16 rfl (lv_at hl 0 rfl) ?_
    refine va_get (D := g.1) (ci := 7) (v := .ref (ad 7)) (C := RX7) (T := TX7) (N := 26) hx hb (dr_words hts d) (fun w h => List.mem_cons_of_mem _ (List.mem_append_right _ h)) (hown d) (hK d) hP 0 rfl rfl 8 (by decide) ((dr_words hts d) (.fieldLink RX7 29 "PauseRegionsModel" "isKept" "[Z") (List.mem_of_getElem? (i := 2) rfl)) (fun _ h9 => h9) rfl dX7_back_17 ?_
    refine lv_iload_n hx hb dX7_back_20 rfl (lv_at hl 1 rfl) ?_
    obtain ⟨h1, hsem⟩ := ck_some hsem
    refine va_zald (D := g.1) hx hb (hK d) hP 7 1 rfl rfl h1 dX7_back_21 ?_
    refine lv_if_ne (tgt := 28) hx hb dX7_back_22 (by decide) (fun c2 => ?_) (fun c2 => ?_)
    · rw [if_neg c2] at hsem
      refine lv_iconst (v := 0) hx hb dX7_back_28 (by decide) ?_
      refine lv_istore_n (lv' := [(2, .int 0), (0, .ref (ad 0)), (1, .int p0)]) hx hb dX7_back_29 rfl hl (by decide) rfl (fun ls hl => ?_)
      obtain ⟨q2, hc2, hsem⟩ := bn_some hsem
      refine loopMD (g := g) hdr hc2 (fun (q1 : Int32 × IA) => [(2, .int q1.1), (0, .ref (ad 0)), (1, .int p0)]) (fun (q1 : IA) => [(0, .ref (ad 0)), (1, .int p0)]) (exit := 61) (fun (q1 : Int32 × IA) (fz1 : Unit) => wM g ad q1.2 F) (fun (q1 : IA) (fz1 : Unit) => wM g ad q1 F) (fun (_ : Int32 × IA) (_ : Unit) => True) (fun (_ : IA) (_ : Unit) => True) () trivial hP hD hS (lv_sub hl [0, 1, 2] rfl) (fun d H locs ls fz1 hdr hrfz1 hP hD hS hl => ?_) (fun q1 r hst1 hin1 hout1 d H locs ls fz1 hdr hrfz1 hP hD hS hl => ?_)
      · have hP : va_P g.1 vwCl (wM g ad q2 F) H := hP
        have hD : va_D Z (wM g ad q2 F) := hD
        refine lv_aload_n hx hb dX7_back_61 rfl (lv_at hl 0 rfl) ?_
        refine va_get (D := g.1) (ci := 7) (v := .ref (ad 2)) (C := RX7) (T := TX7) (N := 26) hx hb (dr_words hts d) (fun w h => List.mem_cons_of_mem _ (List.mem_append_right _ h)) (hown d) (hK d) hP 0 rfl rfl 2 (by decide) ((dr_words hts d) (.fieldLink RX7 13 "PauseRegionsModel" "learnt" "[F") (List.mem_of_getElem? (i := 5) rfl)) (fun _ h9 => h9) rfl dX7_back_62 ?_
        refine lv_iconst (v := 0) hx hb dX7_back_65 (by decide) ?_
        refine lv_aload_n hx hb dX7_back_66 rfl (lv_at hl 0 rfl) ?_
        refine va_get (D := g.1) (ci := 7) (v := .ref (ad 6)) (C := RX7) (T := TX7) (N := 26) hx hb (dr_words hts d) (fun w h => List.mem_cons_of_mem _ (List.mem_append_right _ h)) (hown d) (hK d) hP 0 rfl rfl 7 (by decide) ((dr_words hts d) (.fieldLink RX7 26 "PauseRegionsModel" "keptLearnt" "[F") (List.mem_of_getElem? (i := 6) rfl)) (fun _ h9 => h9) rfl dX7_back_67 ?_
        refine lv_iconst (v := 2) hx hb dX7_back_70 (by decide) ?_
        refine lv_iload_n hx hb dX7_back_71 rfl (lv_at hl 1 rfl) ?_
        refine lv_imul hx hb dX7_back_72 ?_
        obtain ⟨h4, hsem⟩ := ck_some hsem
        refine va_fald (D := g.1) hx hb (hK d) hP 6 2 rfl rfl h4 dX7_back_73 ?_
        have h5 : vp_in 0 2 := inb_vp rfl
        refine va_fast (D := g.1) hx hb (hK d) hP hD hS 2 2 rfl rfl h5 dX7_back_74 (fun H locs hP hD hS => ?_)
        obtain ⟨F1, eF1⟩ : ∃ z, z = wrF F 2 ((Int32.toNatClampNeg 0)) ((F 7) (2 * p0).toNatClampNeg) := ⟨_, rfl⟩
        obtain ⟨F1c, eF1c, hsem⟩ := bd_some hsem
        have haF1 : AL F1 F1c := by rw [eF1, eF1c]; exact AL.wr hAL (hAL 7 _)
        have hP : va_P g.1 vwCl (wM g ad q2 F1) H := by rw [eF1]; exact hP
        have hD : va_D Z (wM g ad q2 F1) := by rw [eF1]; exact hD
        refine lv_aload_n hx hb dX7_back_75 rfl (lv_at hl 0 rfl) ?_
        refine va_get (D := g.1) (ci := 7) (v := .ref (ad 2)) (C := RX7) (T := TX7) (N := 26) hx hb (dr_words hts d) (fun w h => List.mem_cons_of_mem _ (List.mem_append_right _ h)) (hown d) (hK d) hP 0 rfl rfl 2 (by decide) ((dr_words hts d) (.fieldLink RX7 13 "PauseRegionsModel" "learnt" "[F") (List.mem_of_getElem? (i := 5) rfl)) (fun _ h9 => h9) rfl dX7_back_76 ?_
        refine lv_iconst (v := 1) hx hb dX7_back_79 (by decide) ?_
        refine lv_aload_n hx hb dX7_back_80 rfl (lv_at hl 0 rfl) ?_
        refine va_get (D := g.1) (ci := 7) (v := .ref (ad 6)) (C := RX7) (T := TX7) (N := 26) hx hb (dr_words hts d) (fun w h => List.mem_cons_of_mem _ (List.mem_append_right _ h)) (hown d) (hK d) hP 0 rfl rfl 7 (by decide) ((dr_words hts d) (.fieldLink RX7 26 "PauseRegionsModel" "keptLearnt" "[F") (List.mem_of_getElem? (i := 6) rfl)) (fun _ h9 => h9) rfl dX7_back_81 ?_
        refine lv_iconst (v := 2) hx hb dX7_back_84 (by decide) ?_
        refine lv_iload_n hx hb dX7_back_85 rfl (lv_at hl 1 rfl) ?_
        refine lv_imul hx hb dX7_back_86 ?_
        refine lv_iconst (v := 1) hx hb dX7_back_87 (by decide) ?_
        refine lv_iadd hx hb dX7_back_88 ?_
        obtain ⟨h6, hsem⟩ := ck_some hsem
        refine va_fald (D := g.1) hx hb (hK d) hP 6 2 rfl rfl h6 dX7_back_89 ?_
        have h7 : vp_in 1 2 := inb_vp rfl
        refine va_fast (D := g.1) hx hb (hK d) hP hD hS 2 2 rfl rfl h7 dX7_back_90 (fun H locs hP hD hS => ?_)
        obtain ⟨F2, eF2⟩ : ∃ z, z = wrF F1 2 ((Int32.toNatClampNeg 1)) ((F1 7) ((2 * p0) + 1).toNatClampNeg) := ⟨_, rfl⟩
        obtain ⟨F2c, eF2c, hsem⟩ := bd_some hsem
        have haF2 : AL F2 F2c := by rw [eF2, eF2c]; exact AL.wr haF1 (haF1 7 _)
        have hP : va_P g.1 vwCl (wM g ad q2 F2) H := by rw [eF2]; exact hP
        have hD : va_D Z (wM g ad q2 F2) := by rw [eF2]; exact hD
        refine lv_aload_n hx hb dX7_back_91 rfl (lv_at hl 0 rfl) ?_
        refine lv_iconst (v := 0) hx hb dX7_back_92 (by decide) ?_
        refine va_put (D := g.1) (ci := 7) (v := .int 0) (ty := .int) (C := RX7) (T := TX7) (N := 26) hx hb (dr_words hts d) (fun w h => List.mem_cons_of_mem _ (List.mem_append_right _ h)) tyX7 tyX7_ok nmX7 (hown d) (hK d) hP hD hS 0 rfl rfl 5 (by decide) ((dr_words hts d) (.fieldLink RX7 70 "PauseRegionsModel" "undos" "I") (List.mem_of_getElem? (i := 7) rfl)) (fun _ h9 => h9) rfl (by decide +kernel) rfl rfl (Nat.le_of_ble_eq_true rfl) dX7_back_93 (fun H locs hP hD hS => ?_)
        obtain ⟨A3, eA3, hsem⟩ := bd_some hsem
        have hP : va_P g.1 vwCl (wM g ad A3 F2) H := by rw [eA3]; exact hP
        have hD : va_D Z (wM g ad A3 F2) := by rw [eA3]; exact hD
        refine lv_aload_n hx hb dX7_back_96 rfl (lv_at hl 0 rfl) ?_
        obtain ⟨x2, hc3, hsem⟩ := bn_some hsem
        refine pcV (C := RX7) (As := []) (rest := []) ⟨hx, hb, hml, (hown d), (dr_words hts d)⟩ (hKK.drawn d) (cwV 0 (dr_words hts d) gX7_back_X7_things rfl rfl rfl hdX7_things ⟨Nat.le_of_ble_eq_true rfl, Nat.le_of_ble_eq_true rfl⟩) (kX7_things (l := l) (g := g) hP hc3) (va_recv (hK d) hP (ci := 7) (q0 := 0) rfl rfl) rfl hl.1 rfl (Nat.le_of_ble_eq_true rfl) dX7_back_97 ⟨Nat.zero_le _, Nat.zero_le _⟩ ?_
        have eo := (Option.some.inj hsem).symm.symm
        refine W.endD hdr ?_
        subst eo
        exact W.iret (v := x2) hx hb hr (fun t ht hW => ⟨⟨_, F2, rfl, ⟨rfl, haF2⟩, ⟨by rw [ht]; exact hP, hD⟩⟩, hS.F ht⟩) hS.2.2 dX7_back_100
      · unfold sX7_back_L30 at hst1
        have hP : va_P g.1 vwCl (wM g ad q1.2 F) H := hP
        have hD : va_D Z (wM g ad q1.2 F) := hD
        refine lv_iload_n hx hb dX7_back_30 rfl (lv_at hl 0 rfl) ?_
        refine lv_sipush (v := 296) hx hb dX7_back_31 (by decide) ?_
        refine lv_icmp_ge (tgt := 61) hx hb dX7_back_34 (by decide) (fun c3 => ?_) (fun c3 => ?_)
        · rw [if_pos c3] at hst1
          exact hout1 _ H locs ls () _ (Option.some.inj hst1).symm hdr trivial hP hD hS (lv_sub hl [1, 2] rfl)
        · rw [if_neg c3] at hst1
          refine lv_aload_n hx hb dX7_back_37 rfl (lv_at hl 1 rfl) ?_
          refine va_get (D := g.1) (ci := 7) (v := .ref (ad 1)) (C := RX7) (T := TX7) (N := 26) hx hb (dr_words hts d) (fun w h => List.mem_cons_of_mem _ (List.mem_append_right _ h)) (hown d) (hK d) hP 0 rfl rfl 1 (by decide) ((dr_words hts d) (.fieldLink RX7 7 "PauseRegionsModel" "s" "[I") (List.mem_of_getElem? (i := 3) rfl)) (fun _ h9 => h9) rfl dX7_back_38 ?_
          refine lv_iload_n hx hb dX7_back_41 rfl (lv_at hl 0 rfl) ?_
          refine lv_aload_n hx hb dX7_back_42 rfl (lv_at hl 1 rfl) ?_
          refine va_get (D := g.1) (ci := 7) (v := .ref (ad 5)) (C := RX7) (T := TX7) (N := 26) hx hb (dr_words hts d) (fun w h => List.mem_cons_of_mem _ (List.mem_append_right _ h)) (hown d) (hK d) hP 0 rfl rfl 6 (by decide) ((dr_words hts d) (.fieldLink RX7 23 "PauseRegionsModel" "kept" "[I") (List.mem_of_getElem? (i := 4) rfl)) (fun _ h9 => h9) rfl dX7_back_43 ?_
          refine lv_sipush (v := 296) hx hb dX7_back_46 (by decide) ?_
          refine lv_iload_n hx hb dX7_back_49 rfl (lv_at hl 2 rfl) ?_
          refine lv_imul hx hb dX7_back_50 ?_
          refine lv_iload_n hx hb dX7_back_51 rfl (lv_at hl 0 rfl) ?_
          refine lv_iadd hx hb dX7_back_52 ?_
          obtain ⟨h2, hst1⟩ := ck_some hst1
          refine va_iald (D := g.1) hx hb (hK d) hP 5 0 rfl rfl h2 dX7_back_53 ?_
          obtain ⟨h3, hst1⟩ := ck_some hst1
          refine va_iast (D := g.1) hx hb (hK d) hP hD hS 1 0 rfl rfl h3 dX7_back_54 (fun H locs hP hD hS => ?_)
          obtain ⟨A2, eA2, hst1⟩ := bd_some hst1
          have hP : va_P g.1 vwCl (wM g ad A2 F) H := by rw [eA2]; exact hP
          have hD : va_D Z (wM g ad A2 F) := by rw [eA2]; exact hD
          refine lv_iinc (v := q1.1 + 1) (lv' := [(2, .int (q1.1 + 1)), (0, .ref (ad 0)), (1, .int p0)]) hx hb dX7_back_55 hl (k := 0) rfl rfl (by decide) rfl (fun ls hl => ?_)
          refine lv_goto (tgt := 30) hx hb dX7_back_58 (by decide) ?_
          exact hin1 _ H locs ls () _ (Option.some.inj hst1).symm hdr trivial hP hD hS (lv_sub hl [0, 1, 2] rfl)
    · rw [if_pos c2] at hsem
      refine lv_bipush (v := (-2)) hx hb dX7_back_25 (by decide) ?_
      have eo := (Option.some.inj hsem).symm.symm
      refine W.endD hdr ?_
      subst eo
      exact W.iret (v := (-2)) hx hb hr (fun t ht hW => ⟨⟨_, F, rfl, ⟨rfl, hAL⟩, ⟨by rw [ht]; exact hP, hD⟩⟩, hS.F ht⟩) hS.2.2 dX7_back_27
  · rw [if_pos c1] at hsem
    refine lv_iconst (v := (-1)) hx hb dX7_back_14 (by decide) ?_
    have eo := (Option.some.inj hsem).symm.symm
    refine W.endD hdr ?_
    subst eo
    exact W.iret (v := (-1)) hx hb hr (fun t ht hW => ⟨⟨_, F, rfl, ⟨rfl, hAL⟩, ⟨by rw [ht]; exact hP, hD⟩⟩, hS.F ht⟩) hS.2.2 dX7_back_15
def sX7_leaves_L13 (p0 : Int32) (p1 : Int32) (q1 : Int32 × IA) : Option ((Int32 × IA) ⊕ (IA)) :=
  ck p1 296 (if ((q1.2 1) p1.toNatClampNeg) ≤ q1.1 then (some (.inr q1.2)) else (ck ((p0 + q1.1) + 1) 296 (ck (p0 + q1.1) 296 (bd (wr q1.2 1 ((p0 + q1.1).toNatClampNeg) ((q1.2 1) ((p0 + q1.1) + 1).toNatClampNeg)) fun A2 => some (.inl (q1.1 + 1, A2))))))
def sX7_leaves (A : IA) (p0 : Int32) (p1 : Int32) (p2 : Int32) : Option (IA) :=
  ck p1 296 (ck p1 296 (bd (wr A 1 p1.toNatClampNeg (((A 1) p1.toNatClampNeg) - 1)) fun A1 => (loopN (sX7_leaves_L13 p0 p1) 2000 (p2, A1)).bind fun q2 => some q2))
abbrev rmX7_leaves : Room := { frames := 0, cells := 0, slots := 0, locals := 0 }
theorem hdX7_leaves : yX7_leaves.cls = RX7 ∧ yX7_leaves.cls ≠ "java/lang/invoke/MethodHandle" ∧ yX7_leaves.cls ≠ "java/lang/invoke/VarHandle" ∧ (parseMethodDescriptor yX7_leaves.desc).map (fun d => d.parameters.length) = some 3 := by decide +kernel
set_option maxHeartbeats 4000000 in
set_option maxRecDepth 100000 in
theorem kX7_leaves {l : Launch} {g : GG} {sz : Nat} {ad : Nat → Nat} {A : IA} {F : FA} {p0 p1 p2 : Int32} {b : IA} (hsem : sX7_leaves A p0 p1 p2 = some b) : MetV l yX7_leaves wsX7_leaves rmX7_leaves g [.ref (ad 0), .int p0, .int p1, .int p2] (wM g ad A F) sz (wM g ad b F) := by
  refine Met.ofW (cc := cX7_leaves) (maxL := 5) (ret := none) (by decide) rfl ?_
  intro p e s m args below meth c s₁ B hml hv
  obtain ⟨rfl, hsz, hP, hD0, hKK⟩ := hv
  subst hsz
  have hx := B.exec
  have hb := B.bytes
  have hr := B.returns
  have hts := atoms_spec (ws := wsX7_leaves) B.pre
  have hown : s.vm.findClass RX7 = some m.cls := findClass_of_methodNamed B.named
  have hlocks := B.notSynchronized
  have hK := hKK.1
  have hD := hD0.self (sz := s.heap.size)
  generalize hZe : va_A (wM g ad A F) s.heap.size = Z at hD ⊢
  have hZ : ∀ q : Nat, s.heap.size ≤ q → Z q := fun q h => by rw [← hZe]; exact Or.inr h
  have hS : va_S Z s.heap s.heap [] := va_S.rf
  have hP : va_P g.1 vwCl (wM g ad A F) s.heap := hP
  have hD : va_D Z (wM g ad A F) := hD
  have hl := lv_entry ([.ref (ad 0), .int p0, .int p1, .int p2]) (n := 5) (Nat.le_of_ble_eq_true rfl)
  rw [lg_entry_eq]
  generalize (lg_sl ([.ref (ad 0), .int p0, .int p1, .int p2]) ++ List.replicate (5 - (lg_sl ([.ref (ad 0), .int p0, .int p1, .int p2])).length) Slot.unset).toArray = ls at hl ⊢
  have hl : lv_has ls 5 [(0, .ref (ad 0)), (1, .int p0), (2, .int p1), (3, .int p2)] := hl
  unfold sX7_leaves at hsem
  refine lv_aload_n hx hb dX7_leaves_0 rfl (lv_at hl 0 rfl) ?_
  refine va_get (D := g.1) (ci := 7) (v := .ref (ad 1)) (C := RX7) (T := TX7) (N := 26) hx hb hts (fun w h => List.mem_cons_of_mem _ (List.mem_append_right _ h)) hown hK hP 0 rfl rfl 1 (by decide) (hts (.fieldLink RX7 7 "PauseRegionsModel" "s" "[I") (List.mem_of_getElem? (i := 1) rfl)) (fun _ h9 => h9) rfl dX7_leaves_1 ?_
  refine lv_iload_n hx hb dX7_leaves_4 rfl (lv_at hl 2 rfl) ?_
  refine lv_dup2_11 hx hb dX7_leaves_5 rfl rfl ?_
  obtain ⟨h1, hsem⟩ := ck_some hsem
  refine va_iald (D := g.1) hx hb hK hP 1 0 rfl rfl h1 dX7_leaves_6 ?_
  refine lv_iconst (v := 1) hx hb dX7_leaves_7 (by decide) ?_
  refine lv_isub hx hb dX7_leaves_8 ?_
  obtain ⟨h2, hsem⟩ := ck_some hsem
  refine va_iast (D := g.1) hx hb hK hP hD hS 1 0 rfl rfl h2 dX7_leaves_9 (fun H locs hP hD hS => ?_)
  obtain ⟨A1, eA1, hsem⟩ := bd_some hsem
  have hP : va_P g.1 vwCl (wM g ad A1 F) H := by rw [eA1]; exact hP
  have hD : va_D Z (wM g ad A1 F) := by rw [eA1]; exact hD
  refine lv_iload_n hx hb dX7_leaves_10 rfl (lv_at hl 3 rfl) ?_
  refine lv_istore (lv' := [(4, .int p2), (0, .ref (ad 0)), (1, .int p0), (2, .int p1), (3, .int p2)]) hx hb dX7_leaves_11 hl (by decide) rfl (fun ls hl => ?_)
  obtain ⟨q2, hc1, hsem⟩ := bn_some hsem
  refine loopM (g := g) hc1 (fun (q1 : Int32 × IA) => [(4, .int q1.1), (0, .ref (ad 0)), (1, .int p0), (2, .int p1)]) (fun (q1 : IA) => []) (exit := 50) (fun (q1 : Int32 × IA) => wM g ad q1.2 F) (fun (q1 : IA) => wM g ad q1 F) hP hD hS (lv_sub hl [0, 1, 2, 3] rfl) (fun H locs ls hP hD hS hl => ?_) (fun q1 r hst1 hin1 hout1 H locs ls hP hD hS hl => ?_)
  · have hP : va_P g.1 vwCl (wM g ad q2 F) H := hP
    have hD : va_D Z (wM g ad q2 F) := hD
    have eo := (Option.some.inj hsem).symm.symm
    subst eo
    exact W.vret hx hb hr (fun t ht hW => ⟨⟨(), rfl, trivial, ⟨by rw [ht]; exact hP, hD⟩⟩, hS.F ht⟩) hS.2.2 dX7_leaves_50
  · unfold sX7_leaves_L13 at hst1
    have hP : va_P g.1 vwCl (wM g ad q1.2 F) H := hP
    have hD : va_D Z (wM g ad q1.2 F) := hD
    refine lv_iload hx hb dX7_leaves_13 (lv_at hl 0 rfl) ?_
    refine lv_aload_n hx hb dX7_leaves_15 rfl (lv_at hl 1 rfl) ?_
    refine va_get (D := g.1) (ci := 7) (v := .ref (ad 1)) (C := RX7) (T := TX7) (N := 26) hx hb hts (fun w h => List.mem_cons_of_mem _ (List.mem_append_right _ h)) hown hK hP 0 rfl rfl 1 (by decide) (hts (.fieldLink RX7 7 "PauseRegionsModel" "s" "[I") (List.mem_of_getElem? (i := 1) rfl)) (fun _ h9 => h9) rfl dX7_leaves_16 ?_
    refine lv_iload_n hx hb dX7_leaves_19 rfl (lv_at hl 3 rfl) ?_
    obtain ⟨h3, hst1⟩ := ck_some hst1
    refine va_iald (D := g.1) hx hb hK hP 1 0 rfl rfl h3 dX7_leaves_20 ?_
    refine lv_icmp_ge (tgt := 50) hx hb dX7_leaves_21 (by decide) (fun c1 => ?_) (fun c1 => ?_)
    · rw [if_pos c1] at hst1
      exact hout1 H locs ls _ (Option.some.inj hst1).symm hP hD hS (lv_sub hl [] rfl)
    · rw [if_neg c1] at hst1
      refine lv_aload_n hx hb dX7_leaves_24 rfl (lv_at hl 1 rfl) ?_
      refine va_get (D := g.1) (ci := 7) (v := .ref (ad 1)) (C := RX7) (T := TX7) (N := 26) hx hb hts (fun w h => List.mem_cons_of_mem _ (List.mem_append_right _ h)) hown hK hP 0 rfl rfl 1 (by decide) (hts (.fieldLink RX7 7 "PauseRegionsModel" "s" "[I") (List.mem_of_getElem? (i := 1) rfl)) (fun _ h9 => h9) rfl dX7_leaves_25 ?_
      refine lv_iload_n hx hb dX7_leaves_28 rfl (lv_at hl 2 rfl) ?_
      refine lv_iload hx hb dX7_leaves_29 (lv_at hl 0 rfl) ?_
      refine lv_iadd hx hb dX7_leaves_31 ?_
      refine lv_aload_n hx hb dX7_leaves_32 rfl (lv_at hl 1 rfl) ?_
      refine va_get (D := g.1) (ci := 7) (v := .ref (ad 1)) (C := RX7) (T := TX7) (N := 26) hx hb hts (fun w h => List.mem_cons_of_mem _ (List.mem_append_right _ h)) hown hK hP 0 rfl rfl 1 (by decide) (hts (.fieldLink RX7 7 "PauseRegionsModel" "s" "[I") (List.mem_of_getElem? (i := 1) rfl)) (fun _ h9 => h9) rfl dX7_leaves_33 ?_
      refine lv_iload_n hx hb dX7_leaves_36 rfl (lv_at hl 2 rfl) ?_
      refine lv_iload hx hb dX7_leaves_37 (lv_at hl 0 rfl) ?_
      refine lv_iadd hx hb dX7_leaves_39 ?_
      refine lv_iconst (v := 1) hx hb dX7_leaves_40 (by decide) ?_
      refine lv_iadd hx hb dX7_leaves_41 ?_
      obtain ⟨h4, hst1⟩ := ck_some hst1
      refine va_iald (D := g.1) hx hb hK hP 1 0 rfl rfl h4 dX7_leaves_42 ?_
      obtain ⟨h5, hst1⟩ := ck_some hst1
      refine va_iast (D := g.1) hx hb hK hP hD hS 1 0 rfl rfl h5 dX7_leaves_43 (fun H locs hP hD hS => ?_)
      obtain ⟨A2, eA2, hst1⟩ := bd_some hst1
      have hP : va_P g.1 vwCl (wM g ad A2 F) H := by rw [eA2]; exact hP
      have hD : va_D Z (wM g ad A2 F) := by rw [eA2]; exact hD
      refine lv_iinc (v := q1.1 + 1) (lv' := [(4, .int (q1.1 + 1)), (0, .ref (ad 0)), (1, .int p0), (2, .int p1)]) hx hb dX7_leaves_44 hl (k := 0) rfl rfl (by decide) rfl (fun ls hl => ?_)
      refine lv_goto (tgt := 13) hx hb dX7_leaves_47 (by decide) ?_
      exact hin1 H locs ls _ (Option.some.inj hst1).symm hP hD hS (lv_sub hl [0, 1, 2, 3] rfl)
def sX7_becomesClean_L11 (p0 : Int32) (q1 : Int32 × IA) : Option ((Int32 × IA) ⊕ (IA)) :=
  if q1.1 < 0 then (some (.inr q1.2)) else (ck (238 + q1.1) 296 (if ((q1.2 1) (238 + q1.1).toNatClampNeg) = p0 then ((sX7_leaves q1.2 238 258 q1.1).bind fun z1 => some (.inl ((q1.1 + (-1), z1)))) else (some (.inl ((q1.1 + (-1), q1.2))))))
def sX7_becomesClean (A : IA) (p0 : Int32) : Option (IA) :=
  bd (((A 1) (Int32.toNatClampNeg 258)) - 1) fun x1 => (loopN (sX7_becomesClean_L11 p0) 2000 (x1, A)).bind fun q2 => some q2
abbrev rmX7_becomesClean : Room := { frames := 1, cells := 0, slots := 0, locals := 24 }
theorem hdX7_becomesClean : yX7_becomesClean.cls = RX7 ∧ yX7_becomesClean.cls ≠ "java/lang/invoke/MethodHandle" ∧ yX7_becomesClean.cls ≠ "java/lang/invoke/VarHandle" ∧ (parseMethodDescriptor yX7_becomesClean.desc).map (fun d => d.parameters.length) = some 1 := by decide +kernel
set_option maxHeartbeats 4000000 in
set_option maxRecDepth 100000 in
theorem kX7_becomesClean {l : Launch} {g : GG} {sz : Nat} {ad : Nat → Nat} {A : IA} {F : FA} {p0 : Int32} {b : IA} (hsem : sX7_becomesClean A p0 = some b) : MetV l yX7_becomesClean wsX7_becomesClean rmX7_becomesClean g [.ref (ad 0), .int p0] (wM g ad A F) sz (wM g ad b F) := by
  refine Met.ofW (cc := cX7_becomesClean) (maxL := 3) (ret := none) (by decide) rfl ?_
  intro p e s m args below meth c s₁ B hml hv
  obtain ⟨rfl, hsz, hP, hD0, hKK⟩ := hv
  subst hsz
  have hx := B.exec
  have hb := B.bytes
  have hr := B.returns
  have hts := atoms_spec (ws := wsX7_becomesClean) B.pre
  have hown : s.vm.findClass RX7 = some m.cls := findClass_of_methodNamed B.named
  have hlocks := B.notSynchronized
  have hK := hKK.1
  have hD := hD0.self (sz := s.heap.size)
  generalize hZe : va_A (wM g ad A F) s.heap.size = Z at hD ⊢
  have hZ : ∀ q : Nat, s.heap.size ≤ q → Z q := fun q h => by rw [← hZe]; exact Or.inr h
  have hS : va_S Z s.heap s.heap [] := va_S.rf
  have hP : va_P g.1 vwCl (wM g ad A F) s.heap := hP
  have hD : va_D Z (wM g ad A F) := hD
  have hl := lv_entry ([.ref (ad 0), .int p0]) (n := 3) (Nat.le_of_ble_eq_true rfl)
  rw [lg_entry_eq]
  generalize (lg_sl ([.ref (ad 0), .int p0]) ++ List.replicate (3 - (lg_sl ([.ref (ad 0), .int p0])).length) Slot.unset).toArray = ls at hl ⊢
  have hl : lv_has ls 3 [(0, .ref (ad 0)), (1, .int p0)] := hl
  unfold sX7_becomesClean at hsem
  refine lv_aload_n hx hb dX7_becomesClean_0 rfl (lv_at hl 0 rfl) ?_
  refine va_get (D := g.1) (ci := 7) (v := .ref (ad 1)) (C := RX7) (T := TX7) (N := 26) hx hb hts (fun w h => List.mem_cons_of_mem _ (List.mem_append_right _ h)) hown hK hP 0 rfl rfl 1 (by decide) (hts (.fieldLink RX7 7 "PauseRegionsModel" "s" "[I") (List.mem_of_getElem? (i := 1) rfl)) (fun _ h9 => h9) rfl dX7_becomesClean_1 ?_
  refine lv_sipush (v := 258) hx hb dX7_becomesClean_4 (by decide) ?_
  have h1 : vp_in 258 296 := inb_vp rfl
  refine va_iald (D := g.1) hx hb hK hP 1 0 rfl rfl h1 dX7_becomesClean_7 ?_
  refine lv_iconst (v := 1) hx hb dX7_becomesClean_8 (by decide) ?_
  refine lv_isub hx hb dX7_becomesClean_9 ?_
  obtain ⟨x1, ex1, hsem⟩ := bd_some hsem
  rw [← ex1]
  refine lv_istore_n (lv' := [(2, .int x1), (0, .ref (ad 0)), (1, .int p0)]) hx hb dX7_becomesClean_10 rfl hl (by decide) rfl (fun ls hl => ?_)
  obtain ⟨q2, hc2, hsem⟩ := bn_some hsem
  refine loopM (g := g) hc2 (fun (q1 : Int32 × IA) => [(2, .int q1.1), (0, .ref (ad 0)), (1, .int p0)]) (fun (q1 : IA) => []) (exit := 46) (fun (q1 : Int32 × IA) => wM g ad q1.2 F) (fun (q1 : IA) => wM g ad q1 F) hP hD hS (lv_sub hl [0, 1, 2] rfl) (fun H locs ls hP hD hS hl => ?_) (fun q1 r hst1 hin1 hout1 H locs ls hP hD hS hl => ?_)
  · have hP : va_P g.1 vwCl (wM g ad q2 F) H := hP
    have hD : va_D Z (wM g ad q2 F) := hD
    have eo := (Option.some.inj hsem).symm.symm
    subst eo
    exact W.vret hx hb hr (fun t ht hW => ⟨⟨(), rfl, trivial, ⟨by rw [ht]; exact hP, hD⟩⟩, hS.F ht⟩) hS.2.2 dX7_becomesClean_46
  · unfold sX7_becomesClean_L11 at hst1
    have hP : va_P g.1 vwCl (wM g ad q1.2 F) H := hP
    have hD : va_D Z (wM g ad q1.2 F) := hD
    refine lv_iload_n hx hb dX7_becomesClean_11 rfl (lv_at hl 0 rfl) ?_
    refine lv_if_lt (tgt := 46) hx hb dX7_becomesClean_12 (by decide) (fun c1 => ?_) (fun c1 => ?_)
    · rw [if_pos c1] at hst1
      exact hout1 H locs ls _ (Option.some.inj hst1).symm hP hD hS (lv_sub hl [] rfl)
    · rw [if_neg c1] at hst1
      refine lv_aload_n hx hb dX7_becomesClean_15 rfl (lv_at hl 1 rfl) ?_
      refine va_get (D := g.1) (ci := 7) (v := .ref (ad 1)) (C := RX7) (T := TX7) (N := 26) hx hb hts (fun w h => List.mem_cons_of_mem _ (List.mem_append_right _ h)) hown hK hP 0 rfl rfl 1 (by decide) (hts (.fieldLink RX7 7 "PauseRegionsModel" "s" "[I") (List.mem_of_getElem? (i := 1) rfl)) (fun _ h9 => h9) rfl dX7_becomesClean_16 ?_
      refine lv_sipush (v := 238) hx hb dX7_becomesClean_19 (by decide) ?_
      refine lv_iload_n hx hb dX7_becomesClean_22 rfl (lv_at hl 0 rfl) ?_
      refine lv_iadd hx hb dX7_becomesClean_23 ?_
      obtain ⟨h2, hst1⟩ := ck_some hst1
      refine va_iald (D := g.1) hx hb hK hP 1 0 rfl rfl h2 dX7_becomesClean_24 ?_
      refine lv_iload_n hx hb dX7_becomesClean_25 rfl (lv_at hl 2 rfl) ?_
      refine lv_icmp_ne (tgt := 40) hx hb dX7_becomesClean_26 (by decide) (fun c2 => ?_) (fun c2 => ?_)
      · rw [if_neg c2] at hst1
        refine lv_iinc (v := q1.1 + (-1)) (lv' := [(2, .int (q1.1 + (-1))), (0, .ref (ad 0)), (1, .int p0)]) hx hb dX7_becomesClean_40 hl (k := 0) rfl rfl (by decide) rfl (fun ls hl => ?_)
        refine lv_goto (tgt := 11) hx hb dX7_becomesClean_43 (by decide) ?_
        exact hin1 H locs ls _ (Option.some.inj hst1).symm hP hD hS (lv_sub hl [0, 1, 2] rfl)
      · rw [if_pos c2] at hst1
        refine lv_aload_n hx hb dX7_becomesClean_29 rfl (lv_at hl 1 rfl) ?_
        refine lv_sipush (v := 238) hx hb dX7_becomesClean_30 (by decide) ?_
        refine lv_sipush (v := 258) hx hb dX7_becomesClean_33 (by decide) ?_
        refine lv_iload_n hx hb dX7_becomesClean_36 rfl (lv_at hl 0 rfl) ?_
        obtain ⟨z1, hc1, hst1⟩ := bn_some hst1
        refine mcV (C := RX7) (As := [.int 238, .int 258, .int q1.1]) (rest := []) ⟨hx, hb, hml, hown, hts⟩ hKK hP hD hS hZ (cwV 3 hts gX7_becomesClean_X7_leaves rfl rfl rfl hdX7_leaves ⟨Nat.le_of_ble_eq_true rfl, Nat.le_of_ble_eq_true rfl⟩) (kX7_leaves (l := l) (g := g) (ad := ad) (A := q1.2) (F := F) hc1) (va_recv hK hP (ci := 7) (q0 := 0) rfl rfl) rfl hl.1 rfl (Nat.le_of_ble_eq_true rfl) dX7_becomesClean_37 ⟨Nat.zero_le _, Nat.zero_le _⟩ (fun H locs hP hD hS => ?_)
        have hP : va_P g.1 vwCl (wM g ad z1 F) H := hP
        have hD : va_D Z (wM g ad z1 F) := hD
        refine lv_iinc (v := q1.1 + (-1)) (lv' := [(2, .int (q1.1 + (-1))), (0, .ref (ad 0)), (1, .int p0)]) hx hb dX7_becomesClean_40 hl (k := 0) rfl rfl (by decide) rfl (fun ls hl => ?_)
        refine lv_goto (tgt := 11) hx hb dX7_becomesClean_43 (by decide) ?_
        exact hin1 H locs ls _ (Option.some.inj hst1).symm hP hD hS (lv_sub hl [0, 1, 2] rfl)
def sX7_isDirty_L4 (A : IA) (p0 : Int32) (q1 : Int32 × Int32) : Option ((Int32 × Int32) ⊕ (Int32)) :=
  if ((A 1) (Int32.toNatClampNeg 258)) ≤ q1.2 then (some (.inr q1.1)) else (if q1.1 = 0 then (ck (238 + q1.2) 296 (if ((A 1) (238 + q1.2).toNatClampNeg) = p0 then (some (.inl (1, q1.2 + 1))) else (some (.inl (0, q1.2 + 1))))) else (some (.inl (1, q1.2 + 1))))
def sX7_isDirty (A : IA) (p0 : Int32) : Option (Int32) :=
  (loopN (sX7_isDirty_L4 A p0) 2000 (0, 0)).bind fun q2 => ckb q2 (some q2)
abbrev rmX7_isDirty : Room := { frames := 0, cells := 0, slots := 0, locals := 0 }
theorem hdX7_isDirty : yX7_isDirty.cls = RX7 ∧ yX7_isDirty.cls ≠ "java/lang/invoke/MethodHandle" ∧ yX7_isDirty.cls ≠ "java/lang/invoke/VarHandle" ∧ (parseMethodDescriptor yX7_isDirty.desc).map (fun d => d.parameters.length) = some 1 := by decide +kernel
set_option maxHeartbeats 4000000 in
set_option maxRecDepth 100000 in
theorem kX7_isDirty {l : Launch} {g : GG} {H0 : Heap} {ad : Nat → Nat} {A : IA} {F : FA} {p0 : Int32} {b : Int32} (hP : va_P g.1 vwCl (wM g ad A F) H0) (hsem : sX7_isDirty A p0 = some b) : MetP l yX7_isDirty wsX7_isDirty rmX7_isDirty g H0 [.ref (ad 0), .int p0] b := by
  refine Met.ofW (cc := cX7_isDirty) (maxL := 4) (ret := (some .boolean)) (by decide) rfl ?_
  intro p e s m args below meth c s₁ B hml hv
  obtain ⟨rfl, hH, hKK⟩ := hv
  subst hH
  have hx := B.exec
  have hb := B.bytes
  have hr := B.returns
  have hts := atoms_spec (ws := wsX7_isDirty) B.pre
  have hown : s.vm.findClass RX7 = some m.cls := findClass_of_methodNamed B.named
  have hlocks := B.notSynchronized
  have hK := hKK.1
  have hl := lv_entry ([.ref (ad 0), .int p0]) (n := 4) (Nat.le_of_ble_eq_true rfl)
  rw [lg_entry_eq]
  generalize (lg_sl ([.ref (ad 0), .int p0]) ++ List.replicate (4 - (lg_sl ([.ref (ad 0), .int p0])).length) Slot.unset).toArray = ls at hl ⊢
  have hl : lv_has ls 4 [(0, .ref (ad 0)), (1, .int p0)] := hl
  unfold sX7_isDirty at hsem
  refine lv_iconst (v := 0) hx hb dX7_isDirty_0 (by decide) ?_
  refine lv_istore_n (lv' := [(2, .int 0), (0, .ref (ad 0)), (1, .int p0)]) hx hb dX7_isDirty_1 rfl hl (by decide) rfl (fun ls hl => ?_)
  refine lv_iconst (v := 0) hx hb dX7_isDirty_2 (by decide) ?_
  refine lv_istore_n (lv' := [(3, .int 0), (2, .int 0), (0, .ref (ad 0)), (1, .int p0)]) hx hb dX7_isDirty_3 rfl hl (by decide) rfl (fun ls hl => ?_)
  obtain ⟨q2, hc1, hsem⟩ := bn_some hsem
  refine loopP hc1 (fun (q1 : Int32 × Int32) => [(3, .int q1.2), (2, .int q1.1), (0, .ref (ad 0)), (1, .int p0)]) (fun (q1 : Int32) => [(2, .int q1)]) (exit := 46) (lv_sub hl [0, 1, 2, 3] rfl) (fun ls hl => ?_) (fun q1 r hst1 hin1 hout1 ls hl => ?_)
  · skip
    refine lv_iload_n hx hb dX7_isDirty_46 rfl (lv_at hl 0 rfl) ?_
    obtain ⟨h3, hsem⟩ := ckb_some hsem
    have eo := (Option.some.inj hsem).symm.symm
    exact W.zret (v := q2) hx hb hr (nar_bool h3) (fun t ht hW => ⟨⟨_, (), rfl, eo, ht⟩, (va_S.rf (A := fun _ => False) (H0 := s.heap)).F ht⟩) (fun q hq => absurd hq List.not_mem_nil) dX7_isDirty_47
  · unfold sX7_isDirty_L4 at hst1
    refine lv_iload_n hx hb dX7_isDirty_4 rfl (lv_at hl 0 rfl) ?_
    refine lv_aload_n hx hb dX7_isDirty_5 rfl (lv_at hl 2 rfl) ?_
    refine va_get (D := g.1) (ci := 7) (v := .ref (ad 1)) (C := RX7) (T := TX7) (N := 26) hx hb hts (fun w h => List.mem_cons_of_mem _ (List.mem_append_right _ h)) hown hK hP 0 rfl rfl 1 (by decide) (hts (.fieldLink RX7 7 "PauseRegionsModel" "s" "[I") (List.mem_of_getElem? (i := 1) rfl)) (fun _ h9 => h9) rfl dX7_isDirty_6 ?_
    refine lv_sipush (v := 258) hx hb dX7_isDirty_9 (by decide) ?_
    have h1 : vp_in 258 296 := inb_vp rfl
    refine va_iald (D := g.1) hx hb hK hP 1 0 rfl rfl h1 dX7_isDirty_12 ?_
    refine lv_icmp_ge (tgt := 46) hx hb dX7_isDirty_13 (by decide) (fun c1 => ?_) (fun c1 => ?_)
    · rw [if_pos c1] at hst1
      exact hout1 ls _ (Option.some.inj hst1).symm (lv_sub hl [1] rfl)
    · rw [if_neg c1] at hst1
      refine lv_iload_n hx hb dX7_isDirty_16 rfl (lv_at hl 1 rfl) ?_
      refine lv_if_ne (tgt := 34) hx hb dX7_isDirty_17 (by decide) (fun c2 => ?_) (fun c2 => ?_)
      · rw [if_neg c2] at hst1
        refine lv_iconst (v := 1) hx hb dX7_isDirty_34 (by decide) ?_
        refine lv_goto (tgt := 39) hx hb dX7_isDirty_35 (by decide) ?_
        refine lv_istore_n (lv' := [(2, .int 1), (3, .int q1.2), (0, .ref (ad 0)), (1, .int p0)]) hx hb dX7_isDirty_39 rfl hl (by decide) rfl (fun ls hl => ?_)
        refine lv_iinc (v := q1.2 + 1) (lv' := [(3, .int (q1.2 + 1)), (2, .int 1), (0, .ref (ad 0)), (1, .int p0)]) hx hb dX7_isDirty_40 hl (k := 1) rfl rfl (by decide) rfl (fun ls hl => ?_)
        refine lv_goto (tgt := 4) hx hb dX7_isDirty_43 (by decide) ?_
        exact hin1 ls _ (Option.some.inj hst1).symm (lv_sub hl [0, 1, 2, 3] rfl)
      · rw [if_pos c2] at hst1
        refine lv_aload_n hx hb dX7_isDirty_20 rfl (lv_at hl 2 rfl) ?_
        refine va_get (D := g.1) (ci := 7) (v := .ref (ad 1)) (C := RX7) (T := TX7) (N := 26) hx hb hts (fun w h => List.mem_cons_of_mem _ (List.mem_append_right _ h)) hown hK hP 0 rfl rfl 1 (by decide) (hts (.fieldLink RX7 7 "PauseRegionsModel" "s" "[I") (List.mem_of_getElem? (i := 1) rfl)) (fun _ h9 => h9) rfl dX7_isDirty_21 ?_
        refine lv_sipush (v := 238) hx hb dX7_isDirty_24 (by decide) ?_
        refine lv_iload_n hx hb dX7_isDirty_27 rfl (lv_at hl 0 rfl) ?_
        refine lv_iadd hx hb dX7_isDirty_28 ?_
        obtain ⟨h2, hst1⟩ := ck_some hst1
        refine va_iald (D := g.1) hx hb hK hP 1 0 rfl rfl h2 dX7_isDirty_29 ?_
        refine lv_iload_n hx hb dX7_isDirty_30 rfl (lv_at hl 3 rfl) ?_
        refine lv_icmp_ne (tgt := 38) hx hb dX7_isDirty_31 (by decide) (fun c3 => ?_) (fun c3 => ?_)
        · rw [if_neg c3] at hst1
          refine lv_iconst (v := 0) hx hb dX7_isDirty_38 (by decide) ?_
          refine lv_istore_n (lv' := [(2, .int 0), (3, .int q1.2), (0, .ref (ad 0)), (1, .int p0)]) hx hb dX7_isDirty_39 rfl hl (by decide) rfl (fun ls hl => ?_)
          refine lv_iinc (v := q1.2 + 1) (lv' := [(3, .int (q1.2 + 1)), (2, .int 0), (0, .ref (ad 0)), (1, .int p0)]) hx hb dX7_isDirty_40 hl (k := 1) rfl rfl (by decide) rfl (fun ls hl => ?_)
          refine lv_goto (tgt := 4) hx hb dX7_isDirty_43 (by decide) ?_
          exact hin1 ls _ (Option.some.inj hst1).symm (lv_sub hl [0, 1, 2, 3] rfl)
        · rw [if_pos c3] at hst1
          refine lv_iconst (v := 1) hx hb dX7_isDirty_34 (by decide) ?_
          refine lv_goto (tgt := 39) hx hb dX7_isDirty_35 (by decide) ?_
          refine lv_istore_n (lv' := [(2, .int 1), (3, .int q1.2), (0, .ref (ad 0)), (1, .int p0)]) hx hb dX7_isDirty_39 rfl hl (by decide) rfl (fun ls hl => ?_)
          refine lv_iinc (v := q1.2 + 1) (lv' := [(3, .int (q1.2 + 1)), (2, .int 1), (0, .ref (ad 0)), (1, .int p0)]) hx hb dX7_isDirty_40 hl (k := 1) rfl rfl (by decide) rfl (fun ls hl => ?_)
          refine lv_goto (tgt := 4) hx hb dX7_isDirty_43 (by decide) ?_
          exact hin1 ls _ (Option.some.inj hst1).symm (lv_sub hl [0, 1, 2, 3] rfl)
def sX7_becomesDirty (A : IA) (p0 : Int32) : Option (IA) :=
  (sX7_isDirty A p0).bind fun x1 => if x1 = 0 then (ck (238 + ((A 1) (Int32.toNatClampNeg 258))) 296 (bd (wr A 1 ((238 + ((A 1) (Int32.toNatClampNeg 258))).toNatClampNeg) p0) fun A1 => bd (wr A1 1 (Int32.toNatClampNeg 258) (((A1 1) (Int32.toNatClampNeg 258)) + 1)) fun A2 => some A2)) else (some A)
abbrev rmX7_becomesDirty : Room := { frames := 1, cells := 0, slots := 0, locals := 23 }
theorem hdX7_becomesDirty : yX7_becomesDirty.cls = RX7 ∧ yX7_becomesDirty.cls ≠ "java/lang/invoke/MethodHandle" ∧ yX7_becomesDirty.cls ≠ "java/lang/invoke/VarHandle" ∧ (parseMethodDescriptor yX7_becomesDirty.desc).map (fun d => d.parameters.length) = some 1 := by decide +kernel
set_option maxHeartbeats 4000000 in
set_option maxRecDepth 100000 in
theorem kX7_becomesDirty {l : Launch} {g : GG} {sz : Nat} {ad : Nat → Nat} {A : IA} {F : FA} {p0 : Int32} {b : IA} (hsem : sX7_becomesDirty A p0 = some b) : MetV l yX7_becomesDirty wsX7_becomesDirty rmX7_becomesDirty g [.ref (ad 0), .int p0] (wM g ad A F) sz (wM g ad b F) := by
  refine Met.ofW (cc := cX7_becomesDirty) (maxL := 2) (ret := none) (by decide) rfl ?_
  intro p e s m args below meth c s₁ B hml hv
  obtain ⟨rfl, hsz, hP, hD0, hKK⟩ := hv
  subst hsz
  have hx := B.exec
  have hb := B.bytes
  have hr := B.returns
  have hts := atoms_spec (ws := wsX7_becomesDirty) B.pre
  have hown : s.vm.findClass RX7 = some m.cls := findClass_of_methodNamed B.named
  have hlocks := B.notSynchronized
  have hK := hKK.1
  have hD := hD0.self (sz := s.heap.size)
  generalize hZe : va_A (wM g ad A F) s.heap.size = Z at hD ⊢
  have hZ : ∀ q : Nat, s.heap.size ≤ q → Z q := fun q h => by rw [← hZe]; exact Or.inr h
  have hS : va_S Z s.heap s.heap [] := va_S.rf
  have hP : va_P g.1 vwCl (wM g ad A F) s.heap := hP
  have hD : va_D Z (wM g ad A F) := hD
  have hl := lv_entry ([.ref (ad 0), .int p0]) (n := 2) (Nat.le_of_ble_eq_true rfl)
  rw [lg_entry_eq]
  generalize (lg_sl ([.ref (ad 0), .int p0]) ++ List.replicate (2 - (lg_sl ([.ref (ad 0), .int p0])).length) Slot.unset).toArray = ls at hl ⊢
  have hl : lv_has ls 2 [(0, .ref (ad 0)), (1, .int p0)] := hl
  unfold sX7_becomesDirty at hsem
  refine lv_aload_n hx hb dX7_becomesDirty_0 rfl (lv_at hl 0 rfl) ?_
  refine lv_iload_n hx hb dX7_becomesDirty_1 rfl (lv_at hl 1 rfl) ?_
  obtain ⟨x1, hc1, hsem⟩ := bn_some hsem
  refine pcV (C := RX7) (As := [.int p0]) (rest := []) ⟨hx, hb, hml, hown, hts⟩ hKK (cwV 1 hts gX7_becomesDirty_X7_isDirty rfl rfl rfl hdX7_isDirty ⟨Nat.le_of_ble_eq_true rfl, Nat.le_of_ble_eq_true rfl⟩) (kX7_isDirty (l := l) (g := g) hP hc1) (va_recv hK hP (ci := 7) (q0 := 0) rfl rfl) rfl hl.1 rfl (Nat.le_of_ble_eq_true rfl) dX7_becomesDirty_2 ⟨Nat.zero_le _, Nat.zero_le _⟩ ?_
  refine lv_if_ne (tgt := 38) hx hb dX7_becomesDirty_5 (by decide) (fun c1 => ?_) (fun c1 => ?_)
  · rw [if_neg c1] at hsem
    have eo := (Option.some.inj hsem).symm.symm
    subst eo
    exact W.vret hx hb hr (fun t ht hW => ⟨⟨(), rfl, trivial, ⟨by rw [ht]; exact hP, hD⟩⟩, hS.F ht⟩) hS.2.2 dX7_becomesDirty_38
  · rw [if_pos c1] at hsem
    refine lv_aload_n hx hb dX7_becomesDirty_8 rfl (lv_at hl 0 rfl) ?_
    refine va_get (D := g.1) (ci := 7) (v := .ref (ad 1)) (C := RX7) (T := TX7) (N := 26) hx hb hts (fun w h => List.mem_cons_of_mem _ (List.mem_append_right _ h)) hown hK hP 0 rfl rfl 1 (by decide) (hts (.fieldLink RX7 7 "PauseRegionsModel" "s" "[I") (List.mem_of_getElem? (i := 1) rfl)) (fun _ h9 => h9) rfl dX7_becomesDirty_9 ?_
    refine lv_sipush (v := 238) hx hb dX7_becomesDirty_12 (by decide) ?_
    refine lv_aload_n hx hb dX7_becomesDirty_15 rfl (lv_at hl 0 rfl) ?_
    refine va_get (D := g.1) (ci := 7) (v := .ref (ad 1)) (C := RX7) (T := TX7) (N := 26) hx hb hts (fun w h => List.mem_cons_of_mem _ (List.mem_append_right _ h)) hown hK hP 0 rfl rfl 1 (by decide) (hts (.fieldLink RX7 7 "PauseRegionsModel" "s" "[I") (List.mem_of_getElem? (i := 1) rfl)) (fun _ h9 => h9) rfl dX7_becomesDirty_16 ?_
    refine lv_sipush (v := 258) hx hb dX7_becomesDirty_19 (by decide) ?_
    have h1 : vp_in 258 296 := inb_vp rfl
    refine va_iald (D := g.1) hx hb hK hP 1 0 rfl rfl h1 dX7_becomesDirty_22 ?_
    refine lv_iadd hx hb dX7_becomesDirty_23 ?_
    refine lv_iload_n hx hb dX7_becomesDirty_24 rfl (lv_at hl 1 rfl) ?_
    obtain ⟨h2, hsem⟩ := ck_some hsem
    refine va_iast (D := g.1) hx hb hK hP hD hS 1 0 rfl rfl h2 dX7_becomesDirty_25 (fun H locs hP hD hS => ?_)
    obtain ⟨A1, eA1, hsem⟩ := bd_some hsem
    have hP : va_P g.1 vwCl (wM g ad A1 F) H := by rw [eA1]; exact hP
    have hD : va_D Z (wM g ad A1 F) := by rw [eA1]; exact hD
    refine lv_aload_n hx hb dX7_becomesDirty_26 rfl (lv_at hl 0 rfl) ?_
    refine va_get (D := g.1) (ci := 7) (v := .ref (ad 1)) (C := RX7) (T := TX7) (N := 26) hx hb hts (fun w h => List.mem_cons_of_mem _ (List.mem_append_right _ h)) hown hK hP 0 rfl rfl 1 (by decide) (hts (.fieldLink RX7 7 "PauseRegionsModel" "s" "[I") (List.mem_of_getElem? (i := 1) rfl)) (fun _ h9 => h9) rfl dX7_becomesDirty_27 ?_
    refine lv_sipush (v := 258) hx hb dX7_becomesDirty_30 (by decide) ?_
    refine lv_dup2_11 hx hb dX7_becomesDirty_33 rfl rfl ?_
    have h3 : vp_in 258 296 := inb_vp rfl
    refine va_iald (D := g.1) hx hb hK hP 1 0 rfl rfl h3 dX7_becomesDirty_34 ?_
    refine lv_iconst (v := 1) hx hb dX7_becomesDirty_35 (by decide) ?_
    refine lv_iadd hx hb dX7_becomesDirty_36 ?_
    have h4 : vp_in 258 296 := inb_vp rfl
    refine va_iast (D := g.1) hx hb hK hP hD hS 1 0 rfl rfl h4 dX7_becomesDirty_37 (fun H locs hP hD hS => ?_)
    obtain ⟨A2, eA2, hsem⟩ := bd_some hsem
    have hP : va_P g.1 vwCl (wM g ad A2 F) H := by rw [eA2]; exact hP
    have hD : va_D Z (wM g ad A2 F) := by rw [eA2]; exact hD
    have eo := (Option.some.inj hsem).symm.symm
    subst eo
    exact W.vret hx hb hr (fun t ht hW => ⟨⟨(), rfl, trivial, ⟨by rw [ht]; exact hP, hD⟩⟩, hS.F ht⟩) hS.2.2 dX7_becomesDirty_38
def sX7_ofRegion (A : IA) (p0 : Int32) (p1 : Int32) : Option (Int32) :=
  ck ((198 + (4 * p0)) + p1) 296 (some ((A 1) ((198 + (4 * p0)) + p1).toNatClampNeg))
abbrev rmX7_ofRegion : Room := { frames := 0, cells := 0, slots := 0, locals := 0 }
theorem hdX7_ofRegion : yX7_ofRegion.cls = RX7 ∧ yX7_ofRegion.cls ≠ "java/lang/invoke/MethodHandle" ∧ yX7_ofRegion.cls ≠ "java/lang/invoke/VarHandle" ∧ (parseMethodDescriptor yX7_ofRegion.desc).map (fun d => d.parameters.length) = some 2 := by decide +kernel
set_option maxHeartbeats 4000000 in
set_option maxRecDepth 100000 in
theorem kX7_ofRegion {l : Launch} {g : GG} {H0 : Heap} {ad : Nat → Nat} {A : IA} {F : FA} {p0 p1 : Int32} {b : Int32} (hP : va_P g.1 vwCl (wM g ad A F) H0) (hsem : sX7_ofRegion A p0 p1 = some b) : MetP l yX7_ofRegion wsX7_ofRegion rmX7_ofRegion g H0 [.ref (ad 0), .int p0, .int p1] b := by
  refine Met.ofW (cc := cX7_ofRegion) (maxL := 3) (ret := (some .int)) (by decide) rfl ?_
  intro p e s m args below meth c s₁ B hml hv
  obtain ⟨rfl, hH, hKK⟩ := hv
  subst hH
  have hx := B.exec
  have hb := B.bytes
  have hr := B.returns
  have hts := atoms_spec (ws := wsX7_ofRegion) B.pre
  have hown : s.vm.findClass RX7 = some m.cls := findClass_of_methodNamed B.named
  have hlocks := B.notSynchronized
  have hK := hKK.1
  have hl := lv_entry ([.ref (ad 0), .int p0, .int p1]) (n := 3) (Nat.le_of_ble_eq_true rfl)
  rw [lg_entry_eq]
  generalize (lg_sl ([.ref (ad 0), .int p0, .int p1]) ++ List.replicate (3 - (lg_sl ([.ref (ad 0), .int p0, .int p1])).length) Slot.unset).toArray = ls at hl ⊢
  have hl : lv_has ls 3 [(0, .ref (ad 0)), (1, .int p0), (2, .int p1)] := hl
  unfold sX7_ofRegion at hsem
  refine lv_aload_n hx hb dX7_ofRegion_0 rfl (lv_at hl 0 rfl) ?_
  refine va_get (D := g.1) (ci := 7) (v := .ref (ad 1)) (C := RX7) (T := TX7) (N := 26) hx hb hts (fun w h => List.mem_cons_of_mem _ (List.mem_append_right _ h)) hown hK hP 0 rfl rfl 1 (by decide) (hts (.fieldLink RX7 7 "PauseRegionsModel" "s" "[I") (List.mem_of_getElem? (i := 1) rfl)) (fun _ h9 => h9) rfl dX7_ofRegion_1 ?_
  refine lv_sipush (v := 198) hx hb dX7_ofRegion_4 (by decide) ?_
  refine lv_iconst (v := 4) hx hb dX7_ofRegion_7 (by decide) ?_
  refine lv_iload_n hx hb dX7_ofRegion_8 rfl (lv_at hl 1 rfl) ?_
  refine lv_imul hx hb dX7_ofRegion_9 ?_
  refine lv_iadd hx hb dX7_ofRegion_10 ?_
  refine lv_iload_n hx hb dX7_ofRegion_11 rfl (lv_at hl 2 rfl) ?_
  refine lv_iadd hx hb dX7_ofRegion_12 ?_
  obtain ⟨h1, hsem⟩ := ck_some hsem
  refine va_iald (D := g.1) hx hb hK hP 1 0 rfl rfl h1 dX7_ofRegion_13 ?_
  have eo := (Option.some.inj hsem).symm.symm
  exact W.iret (v := (A 1) ((198 + (4 * p0)) + p1).toNatClampNeg) hx hb hr (fun t ht hW => ⟨⟨_, (), rfl, eo, ht⟩, (va_S.rf (A := fun _ => False) (H0 := s.heap)).F ht⟩) (fun q hq => absurd hq List.not_mem_nil) dX7_ofRegion_14
def sX7_setsRegion (A : IA) (p0 : Int32) (p1 : Int32) (p2 : Int32) : Option (IA) :=
  ck ((198 + (4 * p0)) + p1) 296 (bd (wr A 1 (((198 + (4 * p0)) + p1).toNatClampNeg) p2) fun A1 => some A1)
abbrev rmX7_setsRegion : Room := { frames := 0, cells := 0, slots := 0, locals := 0 }
theorem hdX7_setsRegion : yX7_setsRegion.cls = RX7 ∧ yX7_setsRegion.cls ≠ "java/lang/invoke/MethodHandle" ∧ yX7_setsRegion.cls ≠ "java/lang/invoke/VarHandle" ∧ (parseMethodDescriptor yX7_setsRegion.desc).map (fun d => d.parameters.length) = some 3 := by decide +kernel
set_option maxHeartbeats 4000000 in
set_option maxRecDepth 100000 in
theorem kX7_setsRegion {l : Launch} {g : GG} {sz : Nat} {ad : Nat → Nat} {A : IA} {F : FA} {p0 p1 p2 : Int32} {b : IA} (hsem : sX7_setsRegion A p0 p1 p2 = some b) : MetV l yX7_setsRegion wsX7_setsRegion rmX7_setsRegion g [.ref (ad 0), .int p0, .int p1, .int p2] (wM g ad A F) sz (wM g ad b F) := by
  refine Met.ofW (cc := cX7_setsRegion) (maxL := 4) (ret := none) (by decide) rfl ?_
  intro p e s m args below meth c s₁ B hml hv
  obtain ⟨rfl, hsz, hP, hD0, hKK⟩ := hv
  subst hsz
  have hx := B.exec
  have hb := B.bytes
  have hr := B.returns
  have hts := atoms_spec (ws := wsX7_setsRegion) B.pre
  have hown : s.vm.findClass RX7 = some m.cls := findClass_of_methodNamed B.named
  have hlocks := B.notSynchronized
  have hK := hKK.1
  have hD := hD0.self (sz := s.heap.size)
  generalize hZe : va_A (wM g ad A F) s.heap.size = Z at hD ⊢
  have hZ : ∀ q : Nat, s.heap.size ≤ q → Z q := fun q h => by rw [← hZe]; exact Or.inr h
  have hS : va_S Z s.heap s.heap [] := va_S.rf
  have hP : va_P g.1 vwCl (wM g ad A F) s.heap := hP
  have hD : va_D Z (wM g ad A F) := hD
  have hl := lv_entry ([.ref (ad 0), .int p0, .int p1, .int p2]) (n := 4) (Nat.le_of_ble_eq_true rfl)
  rw [lg_entry_eq]
  generalize (lg_sl ([.ref (ad 0), .int p0, .int p1, .int p2]) ++ List.replicate (4 - (lg_sl ([.ref (ad 0), .int p0, .int p1, .int p2])).length) Slot.unset).toArray = ls at hl ⊢
  have hl : lv_has ls 4 [(0, .ref (ad 0)), (1, .int p0), (2, .int p1), (3, .int p2)] := hl
  unfold sX7_setsRegion at hsem
  refine lv_aload_n hx hb dX7_setsRegion_0 rfl (lv_at hl 0 rfl) ?_
  refine va_get (D := g.1) (ci := 7) (v := .ref (ad 1)) (C := RX7) (T := TX7) (N := 26) hx hb hts (fun w h => List.mem_cons_of_mem _ (List.mem_append_right _ h)) hown hK hP 0 rfl rfl 1 (by decide) (hts (.fieldLink RX7 7 "PauseRegionsModel" "s" "[I") (List.mem_of_getElem? (i := 1) rfl)) (fun _ h9 => h9) rfl dX7_setsRegion_1 ?_
  refine lv_sipush (v := 198) hx hb dX7_setsRegion_4 (by decide) ?_
  refine lv_iconst (v := 4) hx hb dX7_setsRegion_7 (by decide) ?_
  refine lv_iload_n hx hb dX7_setsRegion_8 rfl (lv_at hl 1 rfl) ?_
  refine lv_imul hx hb dX7_setsRegion_9 ?_
  refine lv_iadd hx hb dX7_setsRegion_10 ?_
  refine lv_iload_n hx hb dX7_setsRegion_11 rfl (lv_at hl 2 rfl) ?_
  refine lv_iadd hx hb dX7_setsRegion_12 ?_
  refine lv_iload_n hx hb dX7_setsRegion_13 rfl (lv_at hl 3 rfl) ?_
  obtain ⟨h1, hsem⟩ := ck_some hsem
  refine va_iast (D := g.1) hx hb hK hP hD hS 1 0 rfl rfl h1 dX7_setsRegion_14 (fun H locs hP hD hS => ?_)
  obtain ⟨A1, eA1, hsem⟩ := bd_some hsem
  have hP : va_P g.1 vwCl (wM g ad A1 F) H := by rw [eA1]; exact hP
  have hD : va_D Z (wM g ad A1 F) := by rw [eA1]; exact hD
  have eo := (Option.some.inj hsem).symm.symm
  subst eo
  exact W.vret hx hb hr (fun t ht hW => ⟨⟨(), rfl, trivial, ⟨by rw [ht]; exact hP, hD⟩⟩, hS.F ht⟩) hS.2.2 dX7_setsRegion_15
def sX7_becomesFreeAlone_L47 (p0 : Int32) (q1 : Int32 × IA) : Option ((Int32 × IA) ⊕ (IA)) :=
  if 10 ≤ q1.1 then (some (.inr q1.2)) else ((sX7_ofRegion q1.2 q1.1 3).bind fun x1 => (sX7_setsRegion q1.2 q1.1 3 (x1 &&& ((3 <<< ((2 * p0) &&& 31)) ^^^ (-1)))).bind fun z7 => some (.inl (q1.1 + 1, z7)))
def sX7_becomesFreeAlone (A : IA) (p0 : Int32) : Option (IA) :=
  (sX7_setsRegion A p0 0 0).bind fun z1 => (sX7_setsRegion z1 p0 1 0).bind fun z2 => (sX7_setsRegion z2 p0 2 (-9)).bind fun z3 => (sX7_setsRegion z3 p0 3 0).bind fun z4 => (sX7_becomesClean z4 (2 * p0)).bind fun z5 => (sX7_becomesClean z5 ((2 * p0) + 1)).bind fun z6 => (loopN (sX7_becomesFreeAlone_L47 p0) 2000 (0, z6)).bind fun q2 => some q2
abbrev rmX7_becomesFreeAlone : Room := { frames := 2, cells := 0, slots := 0, locals := 46 }
theorem hdX7_becomesFreeAlone : yX7_becomesFreeAlone.cls = RX7 ∧ yX7_becomesFreeAlone.cls ≠ "java/lang/invoke/MethodHandle" ∧ yX7_becomesFreeAlone.cls ≠ "java/lang/invoke/VarHandle" ∧ (parseMethodDescriptor yX7_becomesFreeAlone.desc).map (fun d => d.parameters.length) = some 1 := by decide +kernel
set_option maxHeartbeats 4000000 in
set_option maxRecDepth 100000 in
theorem kX7_becomesFreeAlone {l : Launch} {g : GG} {sz : Nat} {ad : Nat → Nat} {A : IA} {F : FA} {p0 : Int32} {b : IA} (hsem : sX7_becomesFreeAlone A p0 = some b) : MetV l yX7_becomesFreeAlone wsX7_becomesFreeAlone rmX7_becomesFreeAlone g [.ref (ad 0), .int p0] (wM g ad A F) sz (wM g ad b F) := by
  refine Met.ofW (cc := cX7_becomesFreeAlone) (maxL := 3) (ret := none) (by decide) rfl ?_
  intro p e s m args below meth c s₁ B hml hv
  obtain ⟨rfl, hsz, hP, hD0, hKK⟩ := hv
  subst hsz
  have hx := B.exec
  have hb := B.bytes
  have hr := B.returns
  have hts := atoms_spec (ws := wsX7_becomesFreeAlone) B.pre
  have hown : s.vm.findClass RX7 = some m.cls := findClass_of_methodNamed B.named
  have hlocks := B.notSynchronized
  have hK := hKK.1
  have hD := hD0.self (sz := s.heap.size)
  generalize hZe : va_A (wM g ad A F) s.heap.size = Z at hD ⊢
  have hZ : ∀ q : Nat, s.heap.size ≤ q → Z q := fun q h => by rw [← hZe]; exact Or.inr h
  have hS : va_S Z s.heap s.heap [] := va_S.rf
  have hP : va_P g.1 vwCl (wM g ad A F) s.heap := hP
  have hD : va_D Z (wM g ad A F) := hD
  have hl := lv_entry ([.ref (ad 0), .int p0]) (n := 3) (Nat.le_of_ble_eq_true rfl)
  rw [lg_entry_eq]
  generalize (lg_sl ([.ref (ad 0), .int p0]) ++ List.replicate (3 - (lg_sl ([.ref (ad 0), .int p0])).length) Slot.unset).toArray = ls at hl ⊢
  have hl : lv_has ls 3 [(0, .ref (ad 0)), (1, .int p0)] := hl
  unfold sX7_becomesFreeAlone at hsem
  refine lv_aload_n hx hb dX7_becomesFreeAlone_0 rfl (lv_at hl 0 rfl) ?_
  refine lv_iload_n hx hb dX7_becomesFreeAlone_1 rfl (lv_at hl 1 rfl) ?_
  refine lv_iconst (v := 0) hx hb dX7_becomesFreeAlone_2 (by decide) ?_
  refine lv_iconst (v := 0) hx hb dX7_becomesFreeAlone_3 (by decide) ?_
  obtain ⟨z1, hc1, hsem⟩ := bn_some hsem
  refine mcV (C := RX7) (As := [.int p0, .int 0, .int 0]) (rest := []) ⟨hx, hb, hml, hown, hts⟩ hKK hP hD hS hZ (cwV 3 hts gX7_becomesFreeAlone_X7_setsRegion rfl rfl rfl hdX7_setsRegion ⟨Nat.le_of_ble_eq_true rfl, Nat.le_of_ble_eq_true rfl⟩) (kX7_setsRegion (l := l) (g := g) (ad := ad) (A := A) (F := F) hc1) (va_recv hK hP (ci := 7) (q0 := 0) rfl rfl) rfl hl.1 rfl (Nat.le_of_ble_eq_true rfl) dX7_becomesFreeAlone_4 ⟨Nat.zero_le _, Nat.zero_le _⟩ (fun H locs hP hD hS => ?_)
  have hP : va_P g.1 vwCl (wM g ad z1 F) H := hP
  have hD : va_D Z (wM g ad z1 F) := hD
  refine lv_aload_n hx hb dX7_becomesFreeAlone_7 rfl (lv_at hl 0 rfl) ?_
  refine lv_iload_n hx hb dX7_becomesFreeAlone_8 rfl (lv_at hl 1 rfl) ?_
  refine lv_iconst (v := 1) hx hb dX7_becomesFreeAlone_9 (by decide) ?_
  refine lv_iconst (v := 0) hx hb dX7_becomesFreeAlone_10 (by decide) ?_
  obtain ⟨z2, hc2, hsem⟩ := bn_some hsem
  refine mcV (C := RX7) (As := [.int p0, .int 1, .int 0]) (rest := []) ⟨hx, hb, hml, hown, hts⟩ hKK hP hD hS hZ (cwV 3 hts gX7_becomesFreeAlone_X7_setsRegion rfl rfl rfl hdX7_setsRegion ⟨Nat.le_of_ble_eq_true rfl, Nat.le_of_ble_eq_true rfl⟩) (kX7_setsRegion (l := l) (g := g) (ad := ad) (A := z1) (F := F) hc2) (va_recv hK hP (ci := 7) (q0 := 0) rfl rfl) rfl hl.1 rfl (Nat.le_of_ble_eq_true rfl) dX7_becomesFreeAlone_11 ⟨Nat.zero_le _, Nat.zero_le _⟩ (fun H locs hP hD hS => ?_)
  have hP : va_P g.1 vwCl (wM g ad z2 F) H := hP
  have hD : va_D Z (wM g ad z2 F) := hD
  refine lv_aload_n hx hb dX7_becomesFreeAlone_14 rfl (lv_at hl 0 rfl) ?_
  refine lv_iload_n hx hb dX7_becomesFreeAlone_15 rfl (lv_at hl 1 rfl) ?_
  refine lv_iconst (v := 2) hx hb dX7_becomesFreeAlone_16 (by decide) ?_
  refine lv_bipush (v := (-9)) hx hb dX7_becomesFreeAlone_17 (by decide) ?_
  obtain ⟨z3, hc3, hsem⟩ := bn_some hsem
  refine mcV (C := RX7) (As := [.int p0, .int 2, .int (-9)]) (rest := []) ⟨hx, hb, hml, hown, hts⟩ hKK hP hD hS hZ (cwV 3 hts gX7_becomesFreeAlone_X7_setsRegion rfl rfl rfl hdX7_setsRegion ⟨Nat.le_of_ble_eq_true rfl, Nat.le_of_ble_eq_true rfl⟩) (kX7_setsRegion (l := l) (g := g) (ad := ad) (A := z2) (F := F) hc3) (va_recv hK hP (ci := 7) (q0 := 0) rfl rfl) rfl hl.1 rfl (Nat.le_of_ble_eq_true rfl) dX7_becomesFreeAlone_19 ⟨Nat.zero_le _, Nat.zero_le _⟩ (fun H locs hP hD hS => ?_)
  have hP : va_P g.1 vwCl (wM g ad z3 F) H := hP
  have hD : va_D Z (wM g ad z3 F) := hD
  refine lv_aload_n hx hb dX7_becomesFreeAlone_22 rfl (lv_at hl 0 rfl) ?_
  refine lv_iload_n hx hb dX7_becomesFreeAlone_23 rfl (lv_at hl 1 rfl) ?_
  refine lv_iconst (v := 3) hx hb dX7_becomesFreeAlone_24 (by decide) ?_
  refine lv_iconst (v := 0) hx hb dX7_becomesFreeAlone_25 (by decide) ?_
  obtain ⟨z4, hc4, hsem⟩ := bn_some hsem
  refine mcV (C := RX7) (As := [.int p0, .int 3, .int 0]) (rest := []) ⟨hx, hb, hml, hown, hts⟩ hKK hP hD hS hZ (cwV 3 hts gX7_becomesFreeAlone_X7_setsRegion rfl rfl rfl hdX7_setsRegion ⟨Nat.le_of_ble_eq_true rfl, Nat.le_of_ble_eq_true rfl⟩) (kX7_setsRegion (l := l) (g := g) (ad := ad) (A := z3) (F := F) hc4) (va_recv hK hP (ci := 7) (q0 := 0) rfl rfl) rfl hl.1 rfl (Nat.le_of_ble_eq_true rfl) dX7_becomesFreeAlone_26 ⟨Nat.zero_le _, Nat.zero_le _⟩ (fun H locs hP hD hS => ?_)
  have hP : va_P g.1 vwCl (wM g ad z4 F) H := hP
  have hD : va_D Z (wM g ad z4 F) := hD
  refine lv_aload_n hx hb dX7_becomesFreeAlone_29 rfl (lv_at hl 0 rfl) ?_
  refine lv_iconst (v := 2) hx hb dX7_becomesFreeAlone_30 (by decide) ?_
  refine lv_iload_n hx hb dX7_becomesFreeAlone_31 rfl (lv_at hl 1 rfl) ?_
  refine lv_imul hx hb dX7_becomesFreeAlone_32 ?_
  obtain ⟨z5, hc5, hsem⟩ := bn_some hsem
  refine mcV (C := RX7) (As := [.int (2 * p0)]) (rest := []) ⟨hx, hb, hml, hown, hts⟩ hKK hP hD hS hZ (cwV 1 hts gX7_becomesFreeAlone_X7_becomesClean rfl rfl rfl hdX7_becomesClean ⟨Nat.le_of_ble_eq_true rfl, Nat.le_of_ble_eq_true rfl⟩) (kX7_becomesClean (l := l) (g := g) (ad := ad) (A := z4) (F := F) hc5) (va_recv hK hP (ci := 7) (q0 := 0) rfl rfl) rfl hl.1 rfl (Nat.le_of_ble_eq_true rfl) dX7_becomesFreeAlone_33 ⟨Nat.zero_le _, Nat.zero_le _⟩ (fun H locs hP hD hS => ?_)
  have hP : va_P g.1 vwCl (wM g ad z5 F) H := hP
  have hD : va_D Z (wM g ad z5 F) := hD
  refine lv_aload_n hx hb dX7_becomesFreeAlone_36 rfl (lv_at hl 0 rfl) ?_
  refine lv_iconst (v := 2) hx hb dX7_becomesFreeAlone_37 (by decide) ?_
  refine lv_iload_n hx hb dX7_becomesFreeAlone_38 rfl (lv_at hl 1 rfl) ?_
  refine lv_imul hx hb dX7_becomesFreeAlone_39 ?_
  refine lv_iconst (v := 1) hx hb dX7_becomesFreeAlone_40 (by decide) ?_
  refine lv_iadd hx hb dX7_becomesFreeAlone_41 ?_
  obtain ⟨z6, hc6, hsem⟩ := bn_some hsem
  refine mcV (C := RX7) (As := [.int ((2 * p0) + 1)]) (rest := []) ⟨hx, hb, hml, hown, hts⟩ hKK hP hD hS hZ (cwV 1 hts gX7_becomesFreeAlone_X7_becomesClean rfl rfl rfl hdX7_becomesClean ⟨Nat.le_of_ble_eq_true rfl, Nat.le_of_ble_eq_true rfl⟩) (kX7_becomesClean (l := l) (g := g) (ad := ad) (A := z5) (F := F) hc6) (va_recv hK hP (ci := 7) (q0 := 0) rfl rfl) rfl hl.1 rfl (Nat.le_of_ble_eq_true rfl) dX7_becomesFreeAlone_42 ⟨Nat.zero_le _, Nat.zero_le _⟩ (fun H locs hP hD hS => ?_)
  have hP : va_P g.1 vwCl (wM g ad z6 F) H := hP
  have hD : va_D Z (wM g ad z6 F) := hD
  refine lv_iconst (v := 0) hx hb dX7_becomesFreeAlone_45 (by decide) ?_
  refine lv_istore_n (lv' := [(2, .int 0), (0, .ref (ad 0)), (1, .int p0)]) hx hb dX7_becomesFreeAlone_46 rfl hl (by decide) rfl (fun ls hl => ?_)
  obtain ⟨q2, hc9, hsem⟩ := bn_some hsem
  refine loopM (g := g) hc9 (fun (q1 : Int32 × IA) => [(2, .int q1.1), (0, .ref (ad 0)), (1, .int p0)]) (fun (q1 : IA) => []) (exit := 79) (fun (q1 : Int32 × IA) => wM g ad q1.2 F) (fun (q1 : IA) => wM g ad q1 F) hP hD hS (lv_sub hl [0, 1, 2] rfl) (fun H locs ls hP hD hS hl => ?_) (fun q1 r hst1 hin1 hout1 H locs ls hP hD hS hl => ?_)
  · have hP : va_P g.1 vwCl (wM g ad q2 F) H := hP
    have hD : va_D Z (wM g ad q2 F) := hD
    have eo := (Option.some.inj hsem).symm.symm
    subst eo
    exact W.vret hx hb hr (fun t ht hW => ⟨⟨(), rfl, trivial, ⟨by rw [ht]; exact hP, hD⟩⟩, hS.F ht⟩) hS.2.2 dX7_becomesFreeAlone_79
  · unfold sX7_becomesFreeAlone_L47 at hst1
    have hP : va_P g.1 vwCl (wM g ad q1.2 F) H := hP
    have hD : va_D Z (wM g ad q1.2 F) := hD
    refine lv_iload_n hx hb dX7_becomesFreeAlone_47 rfl (lv_at hl 0 rfl) ?_
    refine lv_bipush (v := 10) hx hb dX7_becomesFreeAlone_48 (by decide) ?_
    refine lv_icmp_ge (tgt := 79) hx hb dX7_becomesFreeAlone_50 (by decide) (fun c1 => ?_) (fun c1 => ?_)
    · rw [if_pos c1] at hst1
      exact hout1 H locs ls _ (Option.some.inj hst1).symm hP hD hS (lv_sub hl [] rfl)
    · rw [if_neg c1] at hst1
      refine lv_aload_n hx hb dX7_becomesFreeAlone_53 rfl (lv_at hl 1 rfl) ?_
      refine lv_iload_n hx hb dX7_becomesFreeAlone_54 rfl (lv_at hl 0 rfl) ?_
      refine lv_iconst (v := 3) hx hb dX7_becomesFreeAlone_55 (by decide) ?_
      refine lv_aload_n hx hb dX7_becomesFreeAlone_56 rfl (lv_at hl 1 rfl) ?_
      refine lv_iload_n hx hb dX7_becomesFreeAlone_57 rfl (lv_at hl 0 rfl) ?_
      refine lv_iconst (v := 3) hx hb dX7_becomesFreeAlone_58 (by decide) ?_
      obtain ⟨x1, hc7, hst1⟩ := bn_some hst1
      refine pcV (C := RX7) (As := [.int q1.1, .int 3]) (rest := [.int 3, .int q1.1, .ref (ad 0)]) ⟨hx, hb, hml, hown, hts⟩ hKK (cwV 2 hts gX7_becomesFreeAlone_X7_ofRegion rfl rfl rfl hdX7_ofRegion ⟨Nat.le_of_ble_eq_true rfl, Nat.le_of_ble_eq_true rfl⟩) (kX7_ofRegion (l := l) (g := g) hP hc7) (va_recv hK hP (ci := 7) (q0 := 0) rfl rfl) rfl hl.1 rfl (Nat.le_of_ble_eq_true rfl) dX7_becomesFreeAlone_59 ⟨Nat.zero_le _, Nat.zero_le _⟩ ?_
      refine lv_iconst (v := 3) hx hb dX7_becomesFreeAlone_62 (by decide) ?_
      refine lv_iconst (v := 2) hx hb dX7_becomesFreeAlone_63 (by decide) ?_
      refine lv_iload_n hx hb dX7_becomesFreeAlone_64 rfl (lv_at hl 2 rfl) ?_
      refine lv_imul hx hb dX7_becomesFreeAlone_65 ?_
      refine lv_ishl hx hb dX7_becomesFreeAlone_66 ?_
      refine lv_iconst (v := (-1)) hx hb dX7_becomesFreeAlone_67 (by decide) ?_
      refine lv_ixor hx hb dX7_becomesFreeAlone_68 ?_
      refine lv_iand hx hb dX7_becomesFreeAlone_69 ?_
      obtain ⟨z7, hc8, hst1⟩ := bn_some hst1
      refine mcV (C := RX7) (As := [.int q1.1, .int 3, .int (x1 &&& ((3 <<< ((2 * p0) &&& 31)) ^^^ (-1)))]) (rest := []) ⟨hx, hb, hml, hown, hts⟩ hKK hP hD hS hZ (cwV 3 hts gX7_becomesFreeAlone_X7_setsRegion rfl rfl rfl hdX7_setsRegion ⟨Nat.le_of_ble_eq_true rfl, Nat.le_of_ble_eq_true rfl⟩) (kX7_setsRegion (l := l) (g := g) (ad := ad) (A := q1.2) (F := F) hc8) (va_recv hK hP (ci := 7) (q0 := 0) rfl rfl) rfl hl.1 rfl (Nat.le_of_ble_eq_true rfl) dX7_becomesFreeAlone_70 ⟨Nat.zero_le _, Nat.zero_le _⟩ (fun H locs hP hD hS => ?_)
      have hP : va_P g.1 vwCl (wM g ad z7 F) H := hP
      have hD : va_D Z (wM g ad z7 F) := hD
      refine lv_iinc (v := q1.1 + 1) (lv' := [(2, .int (q1.1 + 1)), (0, .ref (ad 0)), (1, .int p0)]) hx hb dX7_becomesFreeAlone_73 hl (k := 0) rfl rfl (by decide) rfl (fun ls hl => ?_)
      refine lv_goto (tgt := 47) hx hb dX7_becomesFreeAlone_76 (by decide) ?_
      exact hin1 H locs ls _ (Option.some.inj hst1).symm hP hD hS (lv_sub hl [0, 1, 2] rfl)
def sX7_becomesFree_L25 (q1 : Int32) : Option ((Int32) ⊕ (Unit)) :=
  some (.inr ())
def sX7_becomesFree_L25a (q3 : Int32 × IA) : Option ((Int32 × IA) ⊕ (IA)) :=
  if 10 ≤ q3.1 then (some (.inr q3.2)) else ((sX7_ofRegion q3.2 q3.1 0).bind fun x4 => if x4 = 4 then ((sX7_becomesFreeAlone q3.2 q3.1).bind fun z3 => some (.inl (q3.1 + 1, z3))) else (some (.inr q3.2)))
def sX7_becomesFree (A : IA) (p0 : Int32) : Option (IA) :=
  (sX7_ofRegion A p0 0).bind fun x1 => if x1 = 3 then ((sX7_becomesFreeAlone A p0).bind fun z2 => bd (p0 + 1) fun x3 => (loopN (sX7_becomesFree_L25a) 2000 (x3, z2)).bind fun q4 => some q4) else ((sX7_becomesFreeAlone A p0).bind fun z1 => bd (p0 + 1) fun x2 => (loopN (sX7_becomesFree_L25) 2000 x2).bind fun q2 => some z1)
abbrev rmX7_becomesFree : Room := { frames := 3, cells := 0, slots := 0, locals := 68 }
theorem hdX7_becomesFree : yX7_becomesFree.cls = RX7 ∧ yX7_becomesFree.cls ≠ "java/lang/invoke/MethodHandle" ∧ yX7_becomesFree.cls ≠ "java/lang/invoke/VarHandle" ∧ (parseMethodDescriptor yX7_becomesFree.desc).map (fun d => d.parameters.length) = some 1 := by decide +kernel
set_option maxHeartbeats 4000000 in
set_option maxRecDepth 100000 in
theorem kX7_becomesFree {l : Launch} {g : GG} {sz : Nat} {ad : Nat → Nat} {A : IA} {F : FA} {p0 : Int32} {b : IA} (hsem : sX7_becomesFree A p0 = some b) : MetV l yX7_becomesFree wsX7_becomesFree rmX7_becomesFree g [.ref (ad 0), .int p0] (wM g ad A F) sz (wM g ad b F) := by
  refine Met.ofW (cc := cX7_becomesFree) (maxL := 4) (ret := none) (by decide) rfl ?_
  intro p e s m args below meth c s₁ B hml hv
  obtain ⟨rfl, hsz, hP, hD0, hKK⟩ := hv
  subst hsz
  have hx := B.exec
  have hb := B.bytes
  have hr := B.returns
  have hts := atoms_spec (ws := wsX7_becomesFree) B.pre
  have hown : s.vm.findClass RX7 = some m.cls := findClass_of_methodNamed B.named
  have hlocks := B.notSynchronized
  have hK := hKK.1
  have hD := hD0.self (sz := s.heap.size)
  generalize hZe : va_A (wM g ad A F) s.heap.size = Z at hD ⊢
  have hZ : ∀ q : Nat, s.heap.size ≤ q → Z q := fun q h => by rw [← hZe]; exact Or.inr h
  have hS : va_S Z s.heap s.heap [] := va_S.rf
  have hP : va_P g.1 vwCl (wM g ad A F) s.heap := hP
  have hD : va_D Z (wM g ad A F) := hD
  have hl := lv_entry ([.ref (ad 0), .int p0]) (n := 4) (Nat.le_of_ble_eq_true rfl)
  rw [lg_entry_eq]
  generalize (lg_sl ([.ref (ad 0), .int p0]) ++ List.replicate (4 - (lg_sl ([.ref (ad 0), .int p0])).length) Slot.unset).toArray = ls at hl ⊢
  have hl : lv_has ls 4 [(0, .ref (ad 0)), (1, .int p0)] := hl
  unfold sX7_becomesFree at hsem
  refine lv_aload_n hx hb dX7_becomesFree_0 rfl (lv_at hl 0 rfl) ?_
  refine lv_iload_n hx hb dX7_becomesFree_1 rfl (lv_at hl 1 rfl) ?_
  refine lv_iconst (v := 0) hx hb dX7_becomesFree_2 (by decide) ?_
  obtain ⟨x1, hc1, hsem⟩ := bn_some hsem
  refine pcV (C := RX7) (As := [.int p0, .int 0]) (rest := []) ⟨hx, hb, hml, hown, hts⟩ hKK (cwV 2 hts gX7_becomesFree_X7_ofRegion rfl rfl rfl hdX7_ofRegion ⟨Nat.le_of_ble_eq_true rfl, Nat.le_of_ble_eq_true rfl⟩) (kX7_ofRegion (l := l) (g := g) hP hc1) (va_recv hK hP (ci := 7) (q0 := 0) rfl rfl) rfl hl.1 rfl (Nat.le_of_ble_eq_true rfl) dX7_becomesFree_3 ⟨Nat.zero_le _, Nat.zero_le _⟩ ?_
  refine lv_iconst (v := 3) hx hb dX7_becomesFree_6 (by decide) ?_
  refine lv_icmp_ne (tgt := 14) hx hb dX7_becomesFree_7 (by decide) (fun c1 => ?_) (fun c1 => ?_)
  · rw [if_neg c1] at hsem
    refine lv_iconst (v := 0) hx hb dX7_becomesFree_14 (by decide) ?_
    refine lv_istore_n (lv' := [(2, .int 0), (0, .ref (ad 0)), (1, .int p0)]) hx hb dX7_becomesFree_15 rfl hl (by decide) rfl (fun ls hl => ?_)
    refine lv_aload_n hx hb dX7_becomesFree_16 rfl (lv_at hl 1 rfl) ?_
    refine lv_iload_n hx hb dX7_becomesFree_17 rfl (lv_at hl 2 rfl) ?_
    obtain ⟨z1, hc2, hsem⟩ := bn_some hsem
    refine mcV (C := RX7) (As := [.int p0]) (rest := []) ⟨hx, hb, hml, hown, hts⟩ hKK hP hD hS hZ (cwV 1 hts gX7_becomesFree_X7_becomesFreeAlone rfl rfl rfl hdX7_becomesFreeAlone ⟨Nat.le_of_ble_eq_true rfl, Nat.le_of_ble_eq_true rfl⟩) (kX7_becomesFreeAlone (l := l) (g := g) (ad := ad) (A := A) (F := F) hc2) (va_recv hK hP (ci := 7) (q0 := 0) rfl rfl) rfl hl.1 rfl (Nat.le_of_ble_eq_true rfl) dX7_becomesFree_18 ⟨Nat.zero_le _, Nat.zero_le _⟩ (fun H locs hP hD hS => ?_)
    have hP : va_P g.1 vwCl (wM g ad z1 F) H := hP
    have hD : va_D Z (wM g ad z1 F) := hD
    refine lv_iload_n hx hb dX7_becomesFree_21 rfl (lv_at hl 2 rfl) ?_
    refine lv_iconst (v := 1) hx hb dX7_becomesFree_22 (by decide) ?_
    refine lv_iadd hx hb dX7_becomesFree_23 ?_
    obtain ⟨x2, ex2, hsem⟩ := bd_some hsem
    rw [← ex2]
    refine lv_istore_n (lv' := [(3, .int x2), (2, .int 0), (0, .ref (ad 0)), (1, .int p0)]) hx hb dX7_becomesFree_24 rfl hl (by decide) rfl (fun ls hl => ?_)
    obtain ⟨q2, hc3, hsem⟩ := bn_some hsem
    refine loopM (g := g) hc3 (fun (q1 : Int32) => [(3, .int q1), (2, .int 0), (0, .ref (ad 0))]) (fun (q1 : Unit) => []) (exit := 56) (fun (q1 : Int32) => wM g ad z1 F) (fun (q1 : Unit) => wM g ad z1 F) hP hD hS (lv_sub hl [0, 1, 2] rfl) (fun H locs ls hP hD hS hl => ?_) (fun q1 r hst1 hin1 hout1 H locs ls hP hD hS hl => ?_)
    · have hP : va_P g.1 vwCl (wM g ad z1 F) H := hP
      have hD : va_D Z (wM g ad z1 F) := hD
      have eo := (Option.some.inj hsem).symm.symm
      subst eo
      exact W.vret hx hb hr (fun t ht hW => ⟨⟨(), rfl, trivial, ⟨by rw [ht]; exact hP, hD⟩⟩, hS.F ht⟩) hS.2.2 dX7_becomesFree_56
    · unfold sX7_becomesFree_L25 at hst1
      have hP : va_P g.1 vwCl (wM g ad z1 F) H := hP
      have hD : va_D Z (wM g ad z1 F) := hD
      refine lv_iload_n hx hb dX7_becomesFree_25 rfl (lv_at hl 1 rfl) ?_
      refine lv_if_eq (tgt := 56) hx hb dX7_becomesFree_26 (by decide) (fun cc => ?_) (fun cc => absurd cc (by decide))
      exact hout1 H locs ls _ (Option.some.inj hst1).symm hP hD hS (lv_sub hl [] rfl)
  · rw [if_pos c1] at hsem
    refine lv_iconst (v := 1) hx hb dX7_becomesFree_10 (by decide) ?_
    refine lv_goto (tgt := 15) hx hb dX7_becomesFree_11 (by decide) ?_
    refine lv_istore_n (lv' := [(2, .int 1), (0, .ref (ad 0)), (1, .int p0)]) hx hb dX7_becomesFree_15 rfl hl (by decide) rfl (fun ls hl => ?_)
    refine lv_aload_n hx hb dX7_becomesFree_16 rfl (lv_at hl 1 rfl) ?_
    refine lv_iload_n hx hb dX7_becomesFree_17 rfl (lv_at hl 2 rfl) ?_
    obtain ⟨z2, hc4, hsem⟩ := bn_some hsem
    refine mcV (C := RX7) (As := [.int p0]) (rest := []) ⟨hx, hb, hml, hown, hts⟩ hKK hP hD hS hZ (cwV 1 hts gX7_becomesFree_X7_becomesFreeAlone rfl rfl rfl hdX7_becomesFreeAlone ⟨Nat.le_of_ble_eq_true rfl, Nat.le_of_ble_eq_true rfl⟩) (kX7_becomesFreeAlone (l := l) (g := g) (ad := ad) (A := A) (F := F) hc4) (va_recv hK hP (ci := 7) (q0 := 0) rfl rfl) rfl hl.1 rfl (Nat.le_of_ble_eq_true rfl) dX7_becomesFree_18 ⟨Nat.zero_le _, Nat.zero_le _⟩ (fun H locs hP hD hS => ?_)
    have hP : va_P g.1 vwCl (wM g ad z2 F) H := hP
    have hD : va_D Z (wM g ad z2 F) := hD
    refine lv_iload_n hx hb dX7_becomesFree_21 rfl (lv_at hl 2 rfl) ?_
    refine lv_iconst (v := 1) hx hb dX7_becomesFree_22 (by decide) ?_
    refine lv_iadd hx hb dX7_becomesFree_23 ?_
    obtain ⟨x3, ex3, hsem⟩ := bd_some hsem
    rw [← ex3]
    refine lv_istore_n (lv' := [(3, .int x3), (2, .int 1), (0, .ref (ad 0)), (1, .int p0)]) hx hb dX7_becomesFree_24 rfl hl (by decide) rfl (fun ls hl => ?_)
    obtain ⟨q4, hc7, hsem⟩ := bn_some hsem
    refine loopM (g := g) hc7 (fun (q3 : Int32 × IA) => [(3, .int q3.1), (2, .int 1), (0, .ref (ad 0))]) (fun (q3 : IA) => []) (exit := 56) (fun (q3 : Int32 × IA) => wM g ad q3.2 F) (fun (q3 : IA) => wM g ad q3 F) hP hD hS (lv_sub hl [0, 1, 2] rfl) (fun H locs ls hP hD hS hl => ?_) (fun q3 r hst1 hin1 hout1 H locs ls hP hD hS hl => ?_)
    · have hP : va_P g.1 vwCl (wM g ad q4 F) H := hP
      have hD : va_D Z (wM g ad q4 F) := hD
      have eo := (Option.some.inj hsem).symm.symm
      subst eo
      exact W.vret hx hb hr (fun t ht hW => ⟨⟨(), rfl, trivial, ⟨by rw [ht]; exact hP, hD⟩⟩, hS.F ht⟩) hS.2.2 dX7_becomesFree_56
    · unfold sX7_becomesFree_L25a at hst1
      have hP : va_P g.1 vwCl (wM g ad q3.2 F) H := hP
      have hD : va_D Z (wM g ad q3.2 F) := hD
      refine lv_iload_n hx hb dX7_becomesFree_25 rfl (lv_at hl 1 rfl) ?_
      refine lv_if_eq (tgt := 56) hx hb dX7_becomesFree_26 (by decide) (fun cc => absurd cc (by decide)) (fun cc => ?_)
      refine lv_iload_n hx hb dX7_becomesFree_29 rfl (lv_at hl 0 rfl) ?_
      refine lv_bipush (v := 10) hx hb dX7_becomesFree_30 (by decide) ?_
      refine lv_icmp_ge (tgt := 56) hx hb dX7_becomesFree_32 (by decide) (fun c2 => ?_) (fun c2 => ?_)
      · rw [if_pos c2] at hst1
        exact hout1 H locs ls _ (Option.some.inj hst1).symm hP hD hS (lv_sub hl [] rfl)
      · rw [if_neg c2] at hst1
        refine lv_aload_n hx hb dX7_becomesFree_35 rfl (lv_at hl 2 rfl) ?_
        refine lv_iload_n hx hb dX7_becomesFree_36 rfl (lv_at hl 0 rfl) ?_
        refine lv_iconst (v := 0) hx hb dX7_becomesFree_37 (by decide) ?_
        obtain ⟨x4, hc5, hst1⟩ := bn_some hst1
        refine pcV (C := RX7) (As := [.int q3.1, .int 0]) (rest := []) ⟨hx, hb, hml, hown, hts⟩ hKK (cwV 2 hts gX7_becomesFree_X7_ofRegion rfl rfl rfl hdX7_ofRegion ⟨Nat.le_of_ble_eq_true rfl, Nat.le_of_ble_eq_true rfl⟩) (kX7_ofRegion (l := l) (g := g) hP hc5) (va_recv hK hP (ci := 7) (q0 := 0) rfl rfl) rfl hl.1 rfl (Nat.le_of_ble_eq_true rfl) dX7_becomesFree_38 ⟨Nat.zero_le _, Nat.zero_le _⟩ ?_
        refine lv_iconst (v := 4) hx hb dX7_becomesFree_41 (by decide) ?_
        refine lv_icmp_ne (tgt := 56) hx hb dX7_becomesFree_42 (by decide) (fun c3 => ?_) (fun c3 => ?_)
        · rw [if_neg c3] at hst1
          exact hout1 H locs ls _ (Option.some.inj hst1).symm hP hD hS (lv_sub hl [] rfl)
        · rw [if_pos c3] at hst1
          refine lv_aload_n hx hb dX7_becomesFree_45 rfl (lv_at hl 2 rfl) ?_
          refine lv_iload_n hx hb dX7_becomesFree_46 rfl (lv_at hl 0 rfl) ?_
          obtain ⟨z3, hc6, hst1⟩ := bn_some hst1
          refine mcV (C := RX7) (As := [.int q3.1]) (rest := []) ⟨hx, hb, hml, hown, hts⟩ hKK hP hD hS hZ (cwV 1 hts gX7_becomesFree_X7_becomesFreeAlone rfl rfl rfl hdX7_becomesFreeAlone ⟨Nat.le_of_ble_eq_true rfl, Nat.le_of_ble_eq_true rfl⟩) (kX7_becomesFreeAlone (l := l) (g := g) (ad := ad) (A := q3.2) (F := F) hc6) (va_recv hK hP (ci := 7) (q0 := 0) rfl rfl) rfl hl.1 rfl (Nat.le_of_ble_eq_true rfl) dX7_becomesFree_47 ⟨Nat.zero_le _, Nat.zero_le _⟩ (fun H locs hP hD hS => ?_)
          have hP : va_P g.1 vwCl (wM g ad z3 F) H := hP
          have hD : va_D Z (wM g ad z3 F) := hD
          refine lv_iinc (v := q3.1 + 1) (lv' := [(3, .int (q3.1 + 1)), (2, .int 1), (0, .ref (ad 0))]) hx hb dX7_becomesFree_50 hl (k := 0) rfl rfl (by decide) rfl (fun ls hl => ?_)
          refine lv_goto (tgt := 25) hx hb dX7_becomesFree_53 (by decide) ?_
          exact hin1 H locs ls _ (Option.some.inj hst1).symm hP hD hS (lv_sub hl [0, 1, 2] rfl)
def sX7_ofThing (A : IA) (p0 : Int32) (p1 : Int32) : Option (Int32) :=
  ck ((6 * p0) + p1) 296 (some ((A 1) ((6 * p0) + p1).toNatClampNeg))
abbrev rmX7_ofThing : Room := { frames := 0, cells := 0, slots := 0, locals := 0 }
theorem hdX7_ofThing : yX7_ofThing.cls = RX7 ∧ yX7_ofThing.cls ≠ "java/lang/invoke/MethodHandle" ∧ yX7_ofThing.cls ≠ "java/lang/invoke/VarHandle" ∧ (parseMethodDescriptor yX7_ofThing.desc).map (fun d => d.parameters.length) = some 2 := by decide +kernel
set_option maxHeartbeats 4000000 in
set_option maxRecDepth 100000 in
theorem kX7_ofThing {l : Launch} {g : GG} {H0 : Heap} {ad : Nat → Nat} {A : IA} {F : FA} {p0 p1 : Int32} {b : Int32} (hP : va_P g.1 vwCl (wM g ad A F) H0) (hsem : sX7_ofThing A p0 p1 = some b) : MetP l yX7_ofThing wsX7_ofThing rmX7_ofThing g H0 [.ref (ad 0), .int p0, .int p1] b := by
  refine Met.ofW (cc := cX7_ofThing) (maxL := 3) (ret := (some .int)) (by decide) rfl ?_
  intro p e s m args below meth c s₁ B hml hv
  obtain ⟨rfl, hH, hKK⟩ := hv
  subst hH
  have hx := B.exec
  have hb := B.bytes
  have hr := B.returns
  have hts := atoms_spec (ws := wsX7_ofThing) B.pre
  have hown : s.vm.findClass RX7 = some m.cls := findClass_of_methodNamed B.named
  have hlocks := B.notSynchronized
  have hK := hKK.1
  have hl := lv_entry ([.ref (ad 0), .int p0, .int p1]) (n := 3) (Nat.le_of_ble_eq_true rfl)
  rw [lg_entry_eq]
  generalize (lg_sl ([.ref (ad 0), .int p0, .int p1]) ++ List.replicate (3 - (lg_sl ([.ref (ad 0), .int p0, .int p1])).length) Slot.unset).toArray = ls at hl ⊢
  have hl : lv_has ls 3 [(0, .ref (ad 0)), (1, .int p0), (2, .int p1)] := hl
  unfold sX7_ofThing at hsem
  refine lv_aload_n hx hb dX7_ofThing_0 rfl (lv_at hl 0 rfl) ?_
  refine va_get (D := g.1) (ci := 7) (v := .ref (ad 1)) (C := RX7) (T := TX7) (N := 26) hx hb hts (fun w h => List.mem_cons_of_mem _ (List.mem_append_right _ h)) hown hK hP 0 rfl rfl 1 (by decide) (hts (.fieldLink RX7 7 "PauseRegionsModel" "s" "[I") (List.mem_of_getElem? (i := 1) rfl)) (fun _ h9 => h9) rfl dX7_ofThing_1 ?_
  refine lv_bipush (v := 6) hx hb dX7_ofThing_4 (by decide) ?_
  refine lv_iload_n hx hb dX7_ofThing_6 rfl (lv_at hl 1 rfl) ?_
  refine lv_imul hx hb dX7_ofThing_7 ?_
  refine lv_iload_n hx hb dX7_ofThing_8 rfl (lv_at hl 2 rfl) ?_
  refine lv_iadd hx hb dX7_ofThing_9 ?_
  obtain ⟨h1, hsem⟩ := ck_some hsem
  refine va_iald (D := g.1) hx hb hK hP 1 0 rfl rfl h1 dX7_ofThing_10 ?_
  have eo := (Option.some.inj hsem).symm.symm
  exact W.iret (v := (A 1) ((6 * p0) + p1).toNatClampNeg) hx hb hr (fun t ht hW => ⟨⟨_, (), rfl, eo, ht⟩, (va_S.rf (A := fun _ => False) (H0 := s.heap)).F ht⟩) (fun q hq => absurd hq List.not_mem_nil) dX7_ofThing_11
def sX7_becomesGrey (A : IA) (p0 : Int32) : Option (IA) :=
  if p0 = (-5) then (some A) else ((sX7_ofThing A p0 5).bind fun x1 => if x1 = 0 then (ck ((6 * p0) + 5) 296 (bd (wr A 1 (((6 * p0) + 5).toNatClampNeg) 1) fun A1 => ck (259 + ((A1 1) (Int32.toNatClampNeg 291))) 296 (bd (wr A1 1 ((259 + ((A1 1) (Int32.toNatClampNeg 291))).toNatClampNeg) p0) fun A2 => bd (wr A2 1 (Int32.toNatClampNeg 291) (((A2 1) (Int32.toNatClampNeg 291)) + 1)) fun A3 => some A3))) else (some A))
abbrev rmX7_becomesGrey : Room := { frames := 1, cells := 0, slots := 0, locals := 22 }
theorem hdX7_becomesGrey : yX7_becomesGrey.cls = RX7 ∧ yX7_becomesGrey.cls ≠ "java/lang/invoke/MethodHandle" ∧ yX7_becomesGrey.cls ≠ "java/lang/invoke/VarHandle" ∧ (parseMethodDescriptor yX7_becomesGrey.desc).map (fun d => d.parameters.length) = some 1 := by decide +kernel
set_option maxHeartbeats 4000000 in
set_option maxRecDepth 100000 in
theorem kX7_becomesGrey {l : Launch} {g : GG} {sz : Nat} {ad : Nat → Nat} {A : IA} {F : FA} {p0 : Int32} {b : IA} (hsem : sX7_becomesGrey A p0 = some b) : MetV l yX7_becomesGrey wsX7_becomesGrey rmX7_becomesGrey g [.ref (ad 0), .int p0] (wM g ad A F) sz (wM g ad b F) := by
  refine Met.ofW (cc := cX7_becomesGrey) (maxL := 2) (ret := none) (by decide) rfl ?_
  intro p e s m args below meth c s₁ B hml hv
  obtain ⟨rfl, hsz, hP, hD0, hKK⟩ := hv
  subst hsz
  have hx := B.exec
  have hb := B.bytes
  have hr := B.returns
  have hts := atoms_spec (ws := wsX7_becomesGrey) B.pre
  have hown : s.vm.findClass RX7 = some m.cls := findClass_of_methodNamed B.named
  have hlocks := B.notSynchronized
  have hK := hKK.1
  have hD := hD0.self (sz := s.heap.size)
  generalize hZe : va_A (wM g ad A F) s.heap.size = Z at hD ⊢
  have hZ : ∀ q : Nat, s.heap.size ≤ q → Z q := fun q h => by rw [← hZe]; exact Or.inr h
  have hS : va_S Z s.heap s.heap [] := va_S.rf
  have hP : va_P g.1 vwCl (wM g ad A F) s.heap := hP
  have hD : va_D Z (wM g ad A F) := hD
  have hl := lv_entry ([.ref (ad 0), .int p0]) (n := 2) (Nat.le_of_ble_eq_true rfl)
  rw [lg_entry_eq]
  generalize (lg_sl ([.ref (ad 0), .int p0]) ++ List.replicate (2 - (lg_sl ([.ref (ad 0), .int p0])).length) Slot.unset).toArray = ls at hl ⊢
  have hl : lv_has ls 2 [(0, .ref (ad 0)), (1, .int p0)] := hl
  unfold sX7_becomesGrey at hsem
  refine lv_iload_n hx hb dX7_becomesGrey_0 rfl (lv_at hl 1 rfl) ?_
  refine lv_bipush (v := (-5)) hx hb dX7_becomesGrey_1 (by decide) ?_
  refine lv_icmp_eq (tgt := 57) hx hb dX7_becomesGrey_3 (by decide) (fun c1 => ?_) (fun c1 => ?_)
  · rw [if_pos c1] at hsem
    have eo := (Option.some.inj hsem).symm.symm
    subst eo
    exact W.vret hx hb hr (fun t ht hW => ⟨⟨(), rfl, trivial, ⟨by rw [ht]; exact hP, hD⟩⟩, hS.F ht⟩) hS.2.2 dX7_becomesGrey_57
  · rw [if_neg c1] at hsem
    refine lv_aload_n hx hb dX7_becomesGrey_6 rfl (lv_at hl 0 rfl) ?_
    refine lv_iload_n hx hb dX7_becomesGrey_7 rfl (lv_at hl 1 rfl) ?_
    refine lv_iconst (v := 5) hx hb dX7_becomesGrey_8 (by decide) ?_
    obtain ⟨x1, hc1, hsem⟩ := bn_some hsem
    refine pcV (C := RX7) (As := [.int p0, .int 5]) (rest := []) ⟨hx, hb, hml, hown, hts⟩ hKK (cwV 2 hts gX7_becomesGrey_X7_ofThing rfl rfl rfl hdX7_ofThing ⟨Nat.le_of_ble_eq_true rfl, Nat.le_of_ble_eq_true rfl⟩) (kX7_ofThing (l := l) (g := g) hP hc1) (va_recv hK hP (ci := 7) (q0 := 0) rfl rfl) rfl hl.1 rfl (Nat.le_of_ble_eq_true rfl) dX7_becomesGrey_9 ⟨Nat.zero_le _, Nat.zero_le _⟩ ?_
    refine lv_if_ne (tgt := 57) hx hb dX7_becomesGrey_12 (by decide) (fun c2 => ?_) (fun c2 => ?_)
    · rw [if_neg c2] at hsem
      have eo := (Option.some.inj hsem).symm.symm
      subst eo
      exact W.vret hx hb hr (fun t ht hW => ⟨⟨(), rfl, trivial, ⟨by rw [ht]; exact hP, hD⟩⟩, hS.F ht⟩) hS.2.2 dX7_becomesGrey_57
    · rw [if_pos c2] at hsem
      refine lv_aload_n hx hb dX7_becomesGrey_15 rfl (lv_at hl 0 rfl) ?_
      refine va_get (D := g.1) (ci := 7) (v := .ref (ad 1)) (C := RX7) (T := TX7) (N := 26) hx hb hts (fun w h => List.mem_cons_of_mem _ (List.mem_append_right _ h)) hown hK hP 0 rfl rfl 1 (by decide) (hts (.fieldLink RX7 7 "PauseRegionsModel" "s" "[I") (List.mem_of_getElem? (i := 1) rfl)) (fun _ h9 => h9) rfl dX7_becomesGrey_16 ?_
      refine lv_bipush (v := 6) hx hb dX7_becomesGrey_19 (by decide) ?_
      refine lv_iload_n hx hb dX7_becomesGrey_21 rfl (lv_at hl 1 rfl) ?_
      refine lv_imul hx hb dX7_becomesGrey_22 ?_
      refine lv_iconst (v := 5) hx hb dX7_becomesGrey_23 (by decide) ?_
      refine lv_iadd hx hb dX7_becomesGrey_24 ?_
      refine lv_iconst (v := 1) hx hb dX7_becomesGrey_25 (by decide) ?_
      obtain ⟨h1, hsem⟩ := ck_some hsem
      refine va_iast (D := g.1) hx hb hK hP hD hS 1 0 rfl rfl h1 dX7_becomesGrey_26 (fun H locs hP hD hS => ?_)
      obtain ⟨A1, eA1, hsem⟩ := bd_some hsem
      have hP : va_P g.1 vwCl (wM g ad A1 F) H := by rw [eA1]; exact hP
      have hD : va_D Z (wM g ad A1 F) := by rw [eA1]; exact hD
      refine lv_aload_n hx hb dX7_becomesGrey_27 rfl (lv_at hl 0 rfl) ?_
      refine va_get (D := g.1) (ci := 7) (v := .ref (ad 1)) (C := RX7) (T := TX7) (N := 26) hx hb hts (fun w h => List.mem_cons_of_mem _ (List.mem_append_right _ h)) hown hK hP 0 rfl rfl 1 (by decide) (hts (.fieldLink RX7 7 "PauseRegionsModel" "s" "[I") (List.mem_of_getElem? (i := 1) rfl)) (fun _ h9 => h9) rfl dX7_becomesGrey_28 ?_
      refine lv_sipush (v := 259) hx hb dX7_becomesGrey_31 (by decide) ?_
      refine lv_aload_n hx hb dX7_becomesGrey_34 rfl (lv_at hl 0 rfl) ?_
      refine va_get (D := g.1) (ci := 7) (v := .ref (ad 1)) (C := RX7) (T := TX7) (N := 26) hx hb hts (fun w h => List.mem_cons_of_mem _ (List.mem_append_right _ h)) hown hK hP 0 rfl rfl 1 (by decide) (hts (.fieldLink RX7 7 "PauseRegionsModel" "s" "[I") (List.mem_of_getElem? (i := 1) rfl)) (fun _ h9 => h9) rfl dX7_becomesGrey_35 ?_
      refine lv_sipush (v := 291) hx hb dX7_becomesGrey_38 (by decide) ?_
      have h2 : vp_in 291 296 := inb_vp rfl
      refine va_iald (D := g.1) hx hb hK hP 1 0 rfl rfl h2 dX7_becomesGrey_41 ?_
      refine lv_iadd hx hb dX7_becomesGrey_42 ?_
      refine lv_iload_n hx hb dX7_becomesGrey_43 rfl (lv_at hl 1 rfl) ?_
      obtain ⟨h3, hsem⟩ := ck_some hsem
      refine va_iast (D := g.1) hx hb hK hP hD hS 1 0 rfl rfl h3 dX7_becomesGrey_44 (fun H locs hP hD hS => ?_)
      obtain ⟨A2, eA2, hsem⟩ := bd_some hsem
      have hP : va_P g.1 vwCl (wM g ad A2 F) H := by rw [eA2]; exact hP
      have hD : va_D Z (wM g ad A2 F) := by rw [eA2]; exact hD
      refine lv_aload_n hx hb dX7_becomesGrey_45 rfl (lv_at hl 0 rfl) ?_
      refine va_get (D := g.1) (ci := 7) (v := .ref (ad 1)) (C := RX7) (T := TX7) (N := 26) hx hb hts (fun w h => List.mem_cons_of_mem _ (List.mem_append_right _ h)) hown hK hP 0 rfl rfl 1 (by decide) (hts (.fieldLink RX7 7 "PauseRegionsModel" "s" "[I") (List.mem_of_getElem? (i := 1) rfl)) (fun _ h9 => h9) rfl dX7_becomesGrey_46 ?_
      refine lv_sipush (v := 291) hx hb dX7_becomesGrey_49 (by decide) ?_
      refine lv_dup2_11 hx hb dX7_becomesGrey_52 rfl rfl ?_
      have h4 : vp_in 291 296 := inb_vp rfl
      refine va_iald (D := g.1) hx hb hK hP 1 0 rfl rfl h4 dX7_becomesGrey_53 ?_
      refine lv_iconst (v := 1) hx hb dX7_becomesGrey_54 (by decide) ?_
      refine lv_iadd hx hb dX7_becomesGrey_55 ?_
      have h5 : vp_in 291 296 := inb_vp rfl
      refine va_iast (D := g.1) hx hb hK hP hD hS 1 0 rfl rfl h5 dX7_becomesGrey_56 (fun H locs hP hD hS => ?_)
      obtain ⟨A3, eA3, hsem⟩ := bd_some hsem
      have hP : va_P g.1 vwCl (wM g ad A3 F) H := by rw [eA3]; exact hP
      have hD : va_D Z (wM g ad A3 F) := by rw [eA3]; exact hD
      have eo := (Option.some.inj hsem).symm.symm
      subst eo
      exact W.vret hx hb hr (fun t ht hW => ⟨⟨(), rfl, trivial, ⟨by rw [ht]; exact hP, hD⟩⟩, hS.F ht⟩) hS.2.2 dX7_becomesGrey_57
def sX7_notes_L80 (q1 : Int32 × IA) : Option ((Int32 × IA) ⊕ (IA)) :=
  if 296 ≤ q1.1 then (some (.inr q1.2)) else (ck q1.1 296 (ck ((296 * (q1.2 5 0)) + q1.1) 1776 (bd (wr q1.2 3 (((296 * (q1.2 5 0)) + q1.1).toNatClampNeg) ((q1.2 1) q1.1.toNatClampNeg)) fun A1 => some (.inl (q1.1 + 1, A1)))))
def sX7_notes_L11 (q3 : Int32 × IA) : Option ((Int32 × IA) ⊕ (IA)) :=
  if 1480 ≤ q3.1 then (some (.inr q3.2)) else (ck (q3.1 + 296) 1776 (ck q3.1 1776 (bd (wr q3.2 3 q3.1.toNatClampNeg ((q3.2 3) (q3.1 + 296).toNatClampNeg)) fun A3 => some (.inl (q3.1 + 1, A3)))))
def sX7_notes_L42 (q5 : Int32 × IA × FA) : Option ((Int32 × IA × FA) ⊕ (IA × FA)) :=
  if 10 ≤ q5.1 then (some (.inr (q5.2.1, q5.2.2))) else (ck (q5.1 + 2) 12 (ck q5.1 12 (bd (wrF q5.2.2 4 (q5.1.toNatClampNeg) (q5.2.2 4 (q5.1 + 2).toNatClampNeg)) fun F3c => some (.inl (q5.1 + 1, q5.2.1, F3c)))))
def sX7_notes_L80a (q7 : Int32 × IA) : Option ((Int32 × IA) ⊕ (IA)) :=
  if 296 ≤ q7.1 then (some (.inr q7.2)) else (ck q7.1 296 (ck ((296 * (q7.2 5 0)) + q7.1) 1776 (bd (wr q7.2 3 (((296 * (q7.2 5 0)) + q7.1).toNatClampNeg) ((q7.2 1) q7.1.toNatClampNeg)) fun A5 => some (.inl (q7.1 + 1, A5)))))
def sX7_notes (A : IA) (Fc : FA) : Option (IA × FA) :=
  if (A 5 0) = 6 then ((loopN (sX7_notes_L11) 2000 (0, A)).bind fun q4 => (loopN (sX7_notes_L42) 2000 (0, q4, Fc)).bind fun q6 => bd (sc q6.1 5 ((q6.1 5 0) - 1)) fun A4 => (loopN (sX7_notes_L80a) 2000 (0, A4)).bind fun q8 => ck (2 * (q8 5 0)) 12 (bd (wrF q6.2 4 ((2 * (q8 5 0)).toNatClampNeg) (q6.2 2 (Int32.toNatClampNeg 0))) fun F4c => ck ((2 * (q8 5 0)) + 1) 12 (bd (wrF F4c 4 (((2 * (q8 5 0)) + 1).toNatClampNeg) (F4c 2 (Int32.toNatClampNeg 1))) fun F5c => bd (sc q8 5 ((q8 5 0) + 1)) fun A6 => some (A6, F5c)))) else ((loopN (sX7_notes_L80) 2000 (0, A)).bind fun q2 => ck (2 * (q2 5 0)) 12 (bd (wrF Fc 4 ((2 * (q2 5 0)).toNatClampNeg) (Fc 2 (Int32.toNatClampNeg 0))) fun F1c => ck ((2 * (q2 5 0)) + 1) 12 (bd (wrF F1c 4 (((2 * (q2 5 0)) + 1).toNatClampNeg) (F1c 2 (Int32.toNatClampNeg 1))) fun F2c => bd (sc q2 5 ((q2 5 0) + 1)) fun A2 => some (A2, F2c))))
abbrev rmX7_notes : Room := { frames := 0, cells := 0, slots := 0, locals := 0 }
theorem hdX7_notes : yX7_notes.cls = RX7 ∧ yX7_notes.cls ≠ "java/lang/invoke/MethodHandle" ∧ yX7_notes.cls ≠ "java/lang/invoke/VarHandle" ∧ (parseMethodDescriptor yX7_notes.desc).map (fun d => d.parameters.length) = some 0 := by decide +kernel
set_option maxHeartbeats 4000000 in
set_option maxRecDepth 100000 in
theorem kX7_notes {l : Launch} {g : GG} {sz : Nat} {ad : Nat → Nat} {A : IA} {F : FA} {Fc : FA} (hAL : AL F Fc) {b : IA × FA} (hsem : sX7_notes A Fc = some b) : MetDV l yX7_notes wsX7_notes rmX7_notes g [.ref (ad 0)] (wM g ad A F) sz (φ := FA) (fun u => AL u b.2) (fun u => wM g ad b.1 u) := by
  refine MetD.ofW (cc := cX7_notes) (maxL := 2) (ret := none) (by decide) rfl ?_
  intro p e s m args below meth c s₁ B hml hv hdr
  obtain ⟨rfl, hsz, hP, hD0, hKK⟩ := hv
  subst hsz
  have hx := B.exec
  have hb := B.bytes
  have hr := B.returns
  have hts := atoms_spec (ws := wsX7_notes) B.pre
  have hown : ∀ d, (s.setDrawn d).vm.findClass RX7 = some m.cls := fun _ => findClass_of_methodNamed B.named
  have hlocks := B.notSynchronized
  have hK : ∀ d, va_K g.1 vwCl (KT g) (s.setDrawn d) := fun d => (hKK.drawn d).1
  have hD := hD0.self (sz := s.heap.size)
  generalize hZe : va_A (wM g ad A F) s.heap.size = Z at hD ⊢
  have hZ : ∀ q : Nat, s.heap.size ≤ q → Z q := fun q h => by rw [← hZe]; exact Or.inr h
  have hS : va_S Z s.heap s.heap [] := va_S.rf
  have hP : va_P g.1 vwCl (wM g ad A F) s.heap := hP
  have hD : va_D Z (wM g ad A F) := hD
  obtain ⟨d, hdr, hdd⟩ : ∃ d, s.drawn.sameBut d lw_cs ∧ s.drawn = d := ⟨_, hdr, rfl⟩
  rw [hdd]
  have hl := lv_entry ([.ref (ad 0)]) (n := 2) (Nat.le_of_ble_eq_true rfl)
  rw [lg_entry_eq]
  generalize (lg_sl ([.ref (ad 0)]) ++ List.replicate (2 - (lg_sl ([.ref (ad 0)])).length) Slot.unset).toArray = ls at hl ⊢
  have hl : lv_has ls 2 [(0, .ref (ad 0))] := hl
  unfold sX7_notes at hsem
  refine lv_aload_n hx hb dX7_notes_0 rfl (lv_at hl 0 rfl) ?_
  refine va_get (D := g.1) (ci := 7) (v := .int (A 5 0)) (C := RX7) (T := TX7) (N := 26) hx hb (dr_words hts d) (fun w h => List.mem_cons_of_mem _ (List.mem_append_right _ h)) (hown d) (hK d) hP 0 rfl rfl 5 (by decide) ((dr_words hts d) (.fieldLink RX7 70 "PauseRegionsModel" "undos" "I") (List.mem_of_getElem? (i := 1) rfl)) (fun _ h9 => h9) rfl dX7_notes_1 ?_
  refine lv_bipush (v := 6) hx hb dX7_notes_4 (by decide) ?_
  refine lv_icmp_ne (tgt := 78) hx hb dX7_notes_6 (by decide) (fun c1 => ?_) (fun c1 => ?_)
  · rw [if_neg c1] at hsem
    refine lv_iconst (v := 0) hx hb dX7_notes_78 (by decide) ?_
    refine lv_istore_n (lv' := [(1, .int 0), (0, .ref (ad 0))]) hx hb dX7_notes_79 rfl hl (by decide) rfl (fun ls hl => ?_)
    obtain ⟨q2, hc1, hsem⟩ := bn_some hsem
    refine loopMD (g := g) hdr hc1 (fun (q1 : Int32 × IA) => [(1, .int q1.1), (0, .ref (ad 0))]) (fun (q1 : IA) => [(0, .ref (ad 0))]) (exit := 114) (fun (q1 : Int32 × IA) (fz1 : Unit) => wM g ad q1.2 F) (fun (q1 : IA) (fz1 : Unit) => wM g ad q1 F) (fun (_ : Int32 × IA) (_ : Unit) => True) (fun (_ : IA) (_ : Unit) => True) () trivial hP hD hS (lv_sub hl [0, 1] rfl) (fun d H locs ls fz1 hdr hrfz1 hP hD hS hl => ?_) (fun q1 r hst1 hin1 hout1 d H locs ls fz1 hdr hrfz1 hP hD hS hl => ?_)
    · have hP : va_P g.1 vwCl (wM g ad q2 F) H := hP
      have hD : va_D Z (wM g ad q2 F) := hD
      refine lv_aload_n hx hb dX7_notes_114 rfl (lv_at hl 0 rfl) ?_
      refine va_get (D := g.1) (ci := 7) (v := .ref (ad 4)) (C := RX7) (T := TX7) (N := 26) hx hb (dr_words hts d) (fun w h => List.mem_cons_of_mem _ (List.mem_append_right _ h)) (hown d) (hK d) hP 0 rfl rfl 4 (by decide) ((dr_words hts d) (.fieldLink RX7 20 "PauseRegionsModel" "pastLearnt" "[F") (List.mem_of_getElem? (i := 3) rfl)) (fun _ h9 => h9) rfl dX7_notes_115 ?_
      refine lv_iconst (v := 2) hx hb dX7_notes_118 (by decide) ?_
      refine lv_aload_n hx hb dX7_notes_119 rfl (lv_at hl 0 rfl) ?_
      refine va_get (D := g.1) (ci := 7) (v := .int (q2 5 0)) (C := RX7) (T := TX7) (N := 26) hx hb (dr_words hts d) (fun w h => List.mem_cons_of_mem _ (List.mem_append_right _ h)) (hown d) (hK d) hP 0 rfl rfl 5 (by decide) ((dr_words hts d) (.fieldLink RX7 70 "PauseRegionsModel" "undos" "I") (List.mem_of_getElem? (i := 1) rfl)) (fun _ h9 => h9) rfl dX7_notes_120 ?_
      refine lv_imul hx hb dX7_notes_123 ?_
      refine lv_aload_n hx hb dX7_notes_124 rfl (lv_at hl 0 rfl) ?_
      refine va_get (D := g.1) (ci := 7) (v := .ref (ad 2)) (C := RX7) (T := TX7) (N := 26) hx hb (dr_words hts d) (fun w h => List.mem_cons_of_mem _ (List.mem_append_right _ h)) (hown d) (hK d) hP 0 rfl rfl 2 (by decide) ((dr_words hts d) (.fieldLink RX7 13 "PauseRegionsModel" "learnt" "[F") (List.mem_of_getElem? (i := 5) rfl)) (fun _ h9 => h9) rfl dX7_notes_125 ?_
      refine lv_iconst (v := 0) hx hb dX7_notes_128 (by decide) ?_
      have h3 : vp_in 0 2 := inb_vp rfl
      refine va_fald (D := g.1) hx hb (hK d) hP 2 2 rfl rfl h3 dX7_notes_129 ?_
      obtain ⟨h4, hsem⟩ := ck_some hsem
      refine va_fast (D := g.1) hx hb (hK d) hP hD hS 4 2 rfl rfl h4 dX7_notes_130 (fun H locs hP hD hS => ?_)
      obtain ⟨F1, eF1⟩ : ∃ z, z = wrF F 4 ((2 * (q2 5 0)).toNatClampNeg) ((F 2) (Int32.toNatClampNeg 0)) := ⟨_, rfl⟩
      obtain ⟨F1c, eF1c, hsem⟩ := bd_some hsem
      have haF1 : AL F1 F1c := by rw [eF1, eF1c]; exact AL.wr hAL (hAL 2 _)
      have hP : va_P g.1 vwCl (wM g ad q2 F1) H := by rw [eF1]; exact hP
      have hD : va_D Z (wM g ad q2 F1) := by rw [eF1]; exact hD
      refine lv_aload_n hx hb dX7_notes_131 rfl (lv_at hl 0 rfl) ?_
      refine va_get (D := g.1) (ci := 7) (v := .ref (ad 4)) (C := RX7) (T := TX7) (N := 26) hx hb (dr_words hts d) (fun w h => List.mem_cons_of_mem _ (List.mem_append_right _ h)) (hown d) (hK d) hP 0 rfl rfl 4 (by decide) ((dr_words hts d) (.fieldLink RX7 20 "PauseRegionsModel" "pastLearnt" "[F") (List.mem_of_getElem? (i := 3) rfl)) (fun _ h9 => h9) rfl dX7_notes_132 ?_
      refine lv_iconst (v := 2) hx hb dX7_notes_135 (by decide) ?_
      refine lv_aload_n hx hb dX7_notes_136 rfl (lv_at hl 0 rfl) ?_
      refine va_get (D := g.1) (ci := 7) (v := .int (q2 5 0)) (C := RX7) (T := TX7) (N := 26) hx hb (dr_words hts d) (fun w h => List.mem_cons_of_mem _ (List.mem_append_right _ h)) (hown d) (hK d) hP 0 rfl rfl 5 (by decide) ((dr_words hts d) (.fieldLink RX7 70 "PauseRegionsModel" "undos" "I") (List.mem_of_getElem? (i := 1) rfl)) (fun _ h9 => h9) rfl dX7_notes_137 ?_
      refine lv_imul hx hb dX7_notes_140 ?_
      refine lv_iconst (v := 1) hx hb dX7_notes_141 (by decide) ?_
      refine lv_iadd hx hb dX7_notes_142 ?_
      refine lv_aload_n hx hb dX7_notes_143 rfl (lv_at hl 0 rfl) ?_
      refine va_get (D := g.1) (ci := 7) (v := .ref (ad 2)) (C := RX7) (T := TX7) (N := 26) hx hb (dr_words hts d) (fun w h => List.mem_cons_of_mem _ (List.mem_append_right _ h)) (hown d) (hK d) hP 0 rfl rfl 2 (by decide) ((dr_words hts d) (.fieldLink RX7 13 "PauseRegionsModel" "learnt" "[F") (List.mem_of_getElem? (i := 5) rfl)) (fun _ h9 => h9) rfl dX7_notes_144 ?_
      refine lv_iconst (v := 1) hx hb dX7_notes_147 (by decide) ?_
      have h5 : vp_in 1 2 := inb_vp rfl
      refine va_fald (D := g.1) hx hb (hK d) hP 2 2 rfl rfl h5 dX7_notes_148 ?_
      obtain ⟨h6, hsem⟩ := ck_some hsem
      refine va_fast (D := g.1) hx hb (hK d) hP hD hS 4 2 rfl rfl h6 dX7_notes_149 (fun H locs hP hD hS => ?_)
      obtain ⟨F2, eF2⟩ : ∃ z, z = wrF F1 4 (((2 * (q2 5 0)) + 1).toNatClampNeg) ((F1 2) (Int32.toNatClampNeg 1)) := ⟨_, rfl⟩
      obtain ⟨F2c, eF2c, hsem⟩ := bd_some hsem
      have haF2 : AL F2 F2c := by rw [eF2, eF2c]; exact AL.wr haF1 (haF1 2 _)
      have hP : va_P g.1 vwCl (wM g ad q2 F2) H := by rw [eF2]; exact hP
      have hD : va_D Z (wM g ad q2 F2) := by rw [eF2]; exact hD
      refine lv_aload_n hx hb dX7_notes_150 rfl (lv_at hl 0 rfl) ?_
      refine lv_dup hx hb dX7_notes_151 rfl ?_
      refine va_get (D := g.1) (ci := 7) (v := .int (q2 5 0)) (C := RX7) (T := TX7) (N := 26) hx hb (dr_words hts d) (fun w h => List.mem_cons_of_mem _ (List.mem_append_right _ h)) (hown d) (hK d) hP 0 rfl rfl 5 (by decide) ((dr_words hts d) (.fieldLink RX7 70 "PauseRegionsModel" "undos" "I") (List.mem_of_getElem? (i := 1) rfl)) (fun _ h9 => h9) rfl dX7_notes_152 ?_
      refine lv_iconst (v := 1) hx hb dX7_notes_155 (by decide) ?_
      refine lv_iadd hx hb dX7_notes_156 ?_
      refine va_put (D := g.1) (ci := 7) (v := .int ((q2 5 0) + 1)) (ty := .int) (C := RX7) (T := TX7) (N := 26) hx hb (dr_words hts d) (fun w h => List.mem_cons_of_mem _ (List.mem_append_right _ h)) tyX7 tyX7_ok nmX7 (hown d) (hK d) hP hD hS 0 rfl rfl 5 (by decide) ((dr_words hts d) (.fieldLink RX7 70 "PauseRegionsModel" "undos" "I") (List.mem_of_getElem? (i := 1) rfl)) (fun _ h9 => h9) rfl (by decide +kernel) rfl rfl (Nat.le_of_ble_eq_true rfl) dX7_notes_157 (fun H locs hP hD hS => ?_)
      obtain ⟨A2, eA2, hsem⟩ := bd_some hsem
      have hP : va_P g.1 vwCl (wM g ad A2 F2) H := by rw [eA2]; exact hP
      have hD : va_D Z (wM g ad A2 F2) := by rw [eA2]; exact hD
      have eo := (Option.some.inj hsem).symm.symm
      refine W.endD hdr ?_
      subst eo
      exact W.vret hx hb hr (fun t ht hW => ⟨⟨F2, rfl, haF2, ⟨by rw [ht]; exact hP, hD⟩⟩, hS.F ht⟩) hS.2.2 dX7_notes_160
    · unfold sX7_notes_L80 at hst1
      have hP : va_P g.1 vwCl (wM g ad q1.2 F) H := hP
      have hD : va_D Z (wM g ad q1.2 F) := hD
      refine lv_iload_n hx hb dX7_notes_80 rfl (lv_at hl 0 rfl) ?_
      refine lv_sipush (v := 296) hx hb dX7_notes_81 (by decide) ?_
      refine lv_icmp_ge (tgt := 114) hx hb dX7_notes_84 (by decide) (fun c2 => ?_) (fun c2 => ?_)
      · rw [if_pos c2] at hst1
        exact hout1 _ H locs ls () _ (Option.some.inj hst1).symm hdr trivial hP hD hS (lv_sub hl [1] rfl)
      · rw [if_neg c2] at hst1
        refine lv_aload_n hx hb dX7_notes_87 rfl (lv_at hl 1 rfl) ?_
        refine va_get (D := g.1) (ci := 7) (v := .ref (ad 3)) (C := RX7) (T := TX7) (N := 26) hx hb (dr_words hts d) (fun w h => List.mem_cons_of_mem _ (List.mem_append_right _ h)) (hown d) (hK d) hP 0 rfl rfl 3 (by decide) ((dr_words hts d) (.fieldLink RX7 17 "PauseRegionsModel" "past" "[I") (List.mem_of_getElem? (i := 2) rfl)) (fun _ h9 => h9) rfl dX7_notes_88 ?_
        refine lv_sipush (v := 296) hx hb dX7_notes_91 (by decide) ?_
        refine lv_aload_n hx hb dX7_notes_94 rfl (lv_at hl 1 rfl) ?_
        refine va_get (D := g.1) (ci := 7) (v := .int (q1.2 5 0)) (C := RX7) (T := TX7) (N := 26) hx hb (dr_words hts d) (fun w h => List.mem_cons_of_mem _ (List.mem_append_right _ h)) (hown d) (hK d) hP 0 rfl rfl 5 (by decide) ((dr_words hts d) (.fieldLink RX7 70 "PauseRegionsModel" "undos" "I") (List.mem_of_getElem? (i := 1) rfl)) (fun _ h9 => h9) rfl dX7_notes_95 ?_
        refine lv_imul hx hb dX7_notes_98 ?_
        refine lv_iload_n hx hb dX7_notes_99 rfl (lv_at hl 0 rfl) ?_
        refine lv_iadd hx hb dX7_notes_100 ?_
        refine lv_aload_n hx hb dX7_notes_101 rfl (lv_at hl 1 rfl) ?_
        refine va_get (D := g.1) (ci := 7) (v := .ref (ad 1)) (C := RX7) (T := TX7) (N := 26) hx hb (dr_words hts d) (fun w h => List.mem_cons_of_mem _ (List.mem_append_right _ h)) (hown d) (hK d) hP 0 rfl rfl 1 (by decide) ((dr_words hts d) (.fieldLink RX7 7 "PauseRegionsModel" "s" "[I") (List.mem_of_getElem? (i := 4) rfl)) (fun _ h9 => h9) rfl dX7_notes_102 ?_
        refine lv_iload_n hx hb dX7_notes_105 rfl (lv_at hl 0 rfl) ?_
        obtain ⟨h1, hst1⟩ := ck_some hst1
        refine va_iald (D := g.1) hx hb (hK d) hP 1 0 rfl rfl h1 dX7_notes_106 ?_
        obtain ⟨h2, hst1⟩ := ck_some hst1
        refine va_iast (D := g.1) hx hb (hK d) hP hD hS 3 0 rfl rfl h2 dX7_notes_107 (fun H locs hP hD hS => ?_)
        obtain ⟨A1, eA1, hst1⟩ := bd_some hst1
        have hP : va_P g.1 vwCl (wM g ad A1 F) H := by rw [eA1]; exact hP
        have hD : va_D Z (wM g ad A1 F) := by rw [eA1]; exact hD
        refine lv_iinc (v := q1.1 + 1) (lv' := [(1, .int (q1.1 + 1)), (0, .ref (ad 0))]) hx hb dX7_notes_108 hl (k := 0) rfl rfl (by decide) rfl (fun ls hl => ?_)
        refine lv_goto (tgt := 80) hx hb dX7_notes_111 (by decide) ?_
        exact hin1 _ H locs ls () _ (Option.some.inj hst1).symm hdr trivial hP hD hS (lv_sub hl [0, 1] rfl)
  · rw [if_pos c1] at hsem
    refine lv_iconst (v := 0) hx hb dX7_notes_9 (by decide) ?_
    refine lv_istore_n (lv' := [(1, .int 0), (0, .ref (ad 0))]) hx hb dX7_notes_10 rfl hl (by decide) rfl (fun ls hl => ?_)
    obtain ⟨q4, hc2, hsem⟩ := bn_some hsem
    refine loopMD (g := g) hdr hc2 (fun (q3 : Int32 × IA) => [(1, .int q3.1), (0, .ref (ad 0))]) (fun (q3 : IA) => [(0, .ref (ad 0))]) (exit := 40) (fun (q3 : Int32 × IA) (fz2 : Unit) => wM g ad q3.2 F) (fun (q3 : IA) (fz2 : Unit) => wM g ad q3 F) (fun (_ : Int32 × IA) (_ : Unit) => True) (fun (_ : IA) (_ : Unit) => True) () trivial hP hD hS (lv_sub hl [0, 1] rfl) (fun d H locs ls fz2 hdr hrfz2 hP hD hS hl => ?_) (fun q3 r hst1 hin1 hout1 d H locs ls fz2 hdr hrfz2 hP hD hS hl => ?_)
    · have hP : va_P g.1 vwCl (wM g ad q4 F) H := hP
      have hD : va_D Z (wM g ad q4 F) := hD
      refine lv_iconst (v := 0) hx hb dX7_notes_40 (by decide) ?_
      refine lv_istore_n (lv' := [(1, .int 0), (0, .ref (ad 0))]) hx hb dX7_notes_41 rfl hl (by decide) rfl (fun ls hl => ?_)
      obtain ⟨q6, hc3, hsem⟩ := bn_some hsem
      refine loopMD (g := g) hdr hc3 (fun (q5 : Int32 × IA × FA) => [(1, .int q5.1), (0, .ref (ad 0))]) (fun (q5 : IA × FA) => [(0, .ref (ad 0))]) (exit := 68) (fun (q5 : Int32 × IA × FA) (fz3 : FA) => wM g ad q5.2.1 fz3) (fun (q5 : IA × FA) (fz3 : FA) => wM g ad q5.1 fz3) (fun (q5 : Int32 × IA × FA) (fz3 : FA) => AL fz3 q5.2.2) (fun (q5 : IA × FA) (fz3 : FA) => AL fz3 q5.2) F hAL hP hD hS (lv_sub hl [0, 1] rfl) (fun d H locs ls fz3 hdr hrfz3 hP hD hS hl => ?_) (fun q5 r hst1 hin1 hout1 d H locs ls fz3 hdr hrfz3 hP hD hS hl => ?_)
      · have hP : va_P g.1 vwCl (wM g ad q6.1 fz3) H := hP
        have hD : va_D Z (wM g ad q6.1 fz3) := hD
        refine lv_aload_n hx hb dX7_notes_68 rfl (lv_at hl 0 rfl) ?_
        refine lv_dup hx hb dX7_notes_69 rfl ?_
        refine va_get (D := g.1) (ci := 7) (v := .int (q6.1 5 0)) (C := RX7) (T := TX7) (N := 26) hx hb (dr_words hts d) (fun w h => List.mem_cons_of_mem _ (List.mem_append_right _ h)) (hown d) (hK d) hP 0 rfl rfl 5 (by decide) ((dr_words hts d) (.fieldLink RX7 70 "PauseRegionsModel" "undos" "I") (List.mem_of_getElem? (i := 1) rfl)) (fun _ h9 => h9) rfl dX7_notes_70 ?_
        refine lv_iconst (v := 1) hx hb dX7_notes_73 (by decide) ?_
        refine lv_isub hx hb dX7_notes_74 ?_
        refine va_put (D := g.1) (ci := 7) (v := .int ((q6.1 5 0) - 1)) (ty := .int) (C := RX7) (T := TX7) (N := 26) hx hb (dr_words hts d) (fun w h => List.mem_cons_of_mem _ (List.mem_append_right _ h)) tyX7 tyX7_ok nmX7 (hown d) (hK d) hP hD hS 0 rfl rfl 5 (by decide) ((dr_words hts d) (.fieldLink RX7 70 "PauseRegionsModel" "undos" "I") (List.mem_of_getElem? (i := 1) rfl)) (fun _ h9 => h9) rfl (by decide +kernel) rfl rfl (Nat.le_of_ble_eq_true rfl) dX7_notes_75 (fun H locs hP hD hS => ?_)
        obtain ⟨A4, eA4, hsem⟩ := bd_some hsem
        have hP : va_P g.1 vwCl (wM g ad A4 fz3) H := by rw [eA4]; exact hP
        have hD : va_D Z (wM g ad A4 fz3) := by rw [eA4]; exact hD
        refine lv_iconst (v := 0) hx hb dX7_notes_78 (by decide) ?_
        refine lv_istore_n (lv' := [(1, .int 0), (0, .ref (ad 0))]) hx hb dX7_notes_79 rfl hl (by decide) rfl (fun ls hl => ?_)
        obtain ⟨q8, hc4, hsem⟩ := bn_some hsem
        refine loopMD (g := g) hdr hc4 (fun (q7 : Int32 × IA) => [(1, .int q7.1), (0, .ref (ad 0))]) (fun (q7 : IA) => [(0, .ref (ad 0))]) (exit := 114) (fun (q7 : Int32 × IA) (fz4 : Unit) => wM g ad q7.2 fz3) (fun (q7 : IA) (fz4 : Unit) => wM g ad q7 fz3) (fun (_ : Int32 × IA) (_ : Unit) => True) (fun (_ : IA) (_ : Unit) => True) () trivial hP hD hS (lv_sub hl [0, 1] rfl) (fun d H locs ls fz4 hdr hrfz4 hP hD hS hl => ?_) (fun q7 r hst1 hin1 hout1 d H locs ls fz4 hdr hrfz4 hP hD hS hl => ?_)
        · have hP : va_P g.1 vwCl (wM g ad q8 fz3) H := hP
          have hD : va_D Z (wM g ad q8 fz3) := hD
          refine lv_aload_n hx hb dX7_notes_114 rfl (lv_at hl 0 rfl) ?_
          refine va_get (D := g.1) (ci := 7) (v := .ref (ad 4)) (C := RX7) (T := TX7) (N := 26) hx hb (dr_words hts d) (fun w h => List.mem_cons_of_mem _ (List.mem_append_right _ h)) (hown d) (hK d) hP 0 rfl rfl 4 (by decide) ((dr_words hts d) (.fieldLink RX7 20 "PauseRegionsModel" "pastLearnt" "[F") (List.mem_of_getElem? (i := 3) rfl)) (fun _ h9 => h9) rfl dX7_notes_115 ?_
          refine lv_iconst (v := 2) hx hb dX7_notes_118 (by decide) ?_
          refine lv_aload_n hx hb dX7_notes_119 rfl (lv_at hl 0 rfl) ?_
          refine va_get (D := g.1) (ci := 7) (v := .int (q8 5 0)) (C := RX7) (T := TX7) (N := 26) hx hb (dr_words hts d) (fun w h => List.mem_cons_of_mem _ (List.mem_append_right _ h)) (hown d) (hK d) hP 0 rfl rfl 5 (by decide) ((dr_words hts d) (.fieldLink RX7 70 "PauseRegionsModel" "undos" "I") (List.mem_of_getElem? (i := 1) rfl)) (fun _ h9 => h9) rfl dX7_notes_120 ?_
          refine lv_imul hx hb dX7_notes_123 ?_
          refine lv_aload_n hx hb dX7_notes_124 rfl (lv_at hl 0 rfl) ?_
          refine va_get (D := g.1) (ci := 7) (v := .ref (ad 2)) (C := RX7) (T := TX7) (N := 26) hx hb (dr_words hts d) (fun w h => List.mem_cons_of_mem _ (List.mem_append_right _ h)) (hown d) (hK d) hP 0 rfl rfl 2 (by decide) ((dr_words hts d) (.fieldLink RX7 13 "PauseRegionsModel" "learnt" "[F") (List.mem_of_getElem? (i := 5) rfl)) (fun _ h9 => h9) rfl dX7_notes_125 ?_
          refine lv_iconst (v := 0) hx hb dX7_notes_128 (by decide) ?_
          have h13 : vp_in 0 2 := inb_vp rfl
          refine va_fald (D := g.1) hx hb (hK d) hP 2 2 rfl rfl h13 dX7_notes_129 ?_
          obtain ⟨h14, hsem⟩ := ck_some hsem
          refine va_fast (D := g.1) hx hb (hK d) hP hD hS 4 2 rfl rfl h14 dX7_notes_130 (fun H locs hP hD hS => ?_)
          obtain ⟨F4, eF4⟩ : ∃ z, z = wrF fz3 4 ((2 * (q8 5 0)).toNatClampNeg) ((fz3 2) (Int32.toNatClampNeg 0)) := ⟨_, rfl⟩
          obtain ⟨F4c, eF4c, hsem⟩ := bd_some hsem
          have haF4 : AL F4 F4c := by rw [eF4, eF4c]; exact AL.wr hrfz3 (hrfz3 2 _)
          have hP : va_P g.1 vwCl (wM g ad q8 F4) H := by rw [eF4]; exact hP
          have hD : va_D Z (wM g ad q8 F4) := by rw [eF4]; exact hD
          refine lv_aload_n hx hb dX7_notes_131 rfl (lv_at hl 0 rfl) ?_
          refine va_get (D := g.1) (ci := 7) (v := .ref (ad 4)) (C := RX7) (T := TX7) (N := 26) hx hb (dr_words hts d) (fun w h => List.mem_cons_of_mem _ (List.mem_append_right _ h)) (hown d) (hK d) hP 0 rfl rfl 4 (by decide) ((dr_words hts d) (.fieldLink RX7 20 "PauseRegionsModel" "pastLearnt" "[F") (List.mem_of_getElem? (i := 3) rfl)) (fun _ h9 => h9) rfl dX7_notes_132 ?_
          refine lv_iconst (v := 2) hx hb dX7_notes_135 (by decide) ?_
          refine lv_aload_n hx hb dX7_notes_136 rfl (lv_at hl 0 rfl) ?_
          refine va_get (D := g.1) (ci := 7) (v := .int (q8 5 0)) (C := RX7) (T := TX7) (N := 26) hx hb (dr_words hts d) (fun w h => List.mem_cons_of_mem _ (List.mem_append_right _ h)) (hown d) (hK d) hP 0 rfl rfl 5 (by decide) ((dr_words hts d) (.fieldLink RX7 70 "PauseRegionsModel" "undos" "I") (List.mem_of_getElem? (i := 1) rfl)) (fun _ h9 => h9) rfl dX7_notes_137 ?_
          refine lv_imul hx hb dX7_notes_140 ?_
          refine lv_iconst (v := 1) hx hb dX7_notes_141 (by decide) ?_
          refine lv_iadd hx hb dX7_notes_142 ?_
          refine lv_aload_n hx hb dX7_notes_143 rfl (lv_at hl 0 rfl) ?_
          refine va_get (D := g.1) (ci := 7) (v := .ref (ad 2)) (C := RX7) (T := TX7) (N := 26) hx hb (dr_words hts d) (fun w h => List.mem_cons_of_mem _ (List.mem_append_right _ h)) (hown d) (hK d) hP 0 rfl rfl 2 (by decide) ((dr_words hts d) (.fieldLink RX7 13 "PauseRegionsModel" "learnt" "[F") (List.mem_of_getElem? (i := 5) rfl)) (fun _ h9 => h9) rfl dX7_notes_144 ?_
          refine lv_iconst (v := 1) hx hb dX7_notes_147 (by decide) ?_
          have h15 : vp_in 1 2 := inb_vp rfl
          refine va_fald (D := g.1) hx hb (hK d) hP 2 2 rfl rfl h15 dX7_notes_148 ?_
          obtain ⟨h16, hsem⟩ := ck_some hsem
          refine va_fast (D := g.1) hx hb (hK d) hP hD hS 4 2 rfl rfl h16 dX7_notes_149 (fun H locs hP hD hS => ?_)
          obtain ⟨F5, eF5⟩ : ∃ z, z = wrF F4 4 (((2 * (q8 5 0)) + 1).toNatClampNeg) ((F4 2) (Int32.toNatClampNeg 1)) := ⟨_, rfl⟩
          obtain ⟨F5c, eF5c, hsem⟩ := bd_some hsem
          have haF5 : AL F5 F5c := by rw [eF5, eF5c]; exact AL.wr haF4 (haF4 2 _)
          have hP : va_P g.1 vwCl (wM g ad q8 F5) H := by rw [eF5]; exact hP
          have hD : va_D Z (wM g ad q8 F5) := by rw [eF5]; exact hD
          refine lv_aload_n hx hb dX7_notes_150 rfl (lv_at hl 0 rfl) ?_
          refine lv_dup hx hb dX7_notes_151 rfl ?_
          refine va_get (D := g.1) (ci := 7) (v := .int (q8 5 0)) (C := RX7) (T := TX7) (N := 26) hx hb (dr_words hts d) (fun w h => List.mem_cons_of_mem _ (List.mem_append_right _ h)) (hown d) (hK d) hP 0 rfl rfl 5 (by decide) ((dr_words hts d) (.fieldLink RX7 70 "PauseRegionsModel" "undos" "I") (List.mem_of_getElem? (i := 1) rfl)) (fun _ h9 => h9) rfl dX7_notes_152 ?_
          refine lv_iconst (v := 1) hx hb dX7_notes_155 (by decide) ?_
          refine lv_iadd hx hb dX7_notes_156 ?_
          refine va_put (D := g.1) (ci := 7) (v := .int ((q8 5 0) + 1)) (ty := .int) (C := RX7) (T := TX7) (N := 26) hx hb (dr_words hts d) (fun w h => List.mem_cons_of_mem _ (List.mem_append_right _ h)) tyX7 tyX7_ok nmX7 (hown d) (hK d) hP hD hS 0 rfl rfl 5 (by decide) ((dr_words hts d) (.fieldLink RX7 70 "PauseRegionsModel" "undos" "I") (List.mem_of_getElem? (i := 1) rfl)) (fun _ h9 => h9) rfl (by decide +kernel) rfl rfl (Nat.le_of_ble_eq_true rfl) dX7_notes_157 (fun H locs hP hD hS => ?_)
          obtain ⟨A6, eA6, hsem⟩ := bd_some hsem
          have hP : va_P g.1 vwCl (wM g ad A6 F5) H := by rw [eA6]; exact hP
          have hD : va_D Z (wM g ad A6 F5) := by rw [eA6]; exact hD
          have eo := (Option.some.inj hsem).symm.symm
          refine W.endD hdr ?_
          subst eo
          exact W.vret hx hb hr (fun t ht hW => ⟨⟨F5, rfl, haF5, ⟨by rw [ht]; exact hP, hD⟩⟩, hS.F ht⟩) hS.2.2 dX7_notes_160
        · unfold sX7_notes_L80a at hst1
          have hP : va_P g.1 vwCl (wM g ad q7.2 fz3) H := hP
          have hD : va_D Z (wM g ad q7.2 fz3) := hD
          refine lv_iload_n hx hb dX7_notes_80 rfl (lv_at hl 0 rfl) ?_
          refine lv_sipush (v := 296) hx hb dX7_notes_81 (by decide) ?_
          refine lv_icmp_ge (tgt := 114) hx hb dX7_notes_84 (by decide) (fun c5 => ?_) (fun c5 => ?_)
          · rw [if_pos c5] at hst1
            exact hout1 _ H locs ls () _ (Option.some.inj hst1).symm hdr trivial hP hD hS (lv_sub hl [1] rfl)
          · rw [if_neg c5] at hst1
            refine lv_aload_n hx hb dX7_notes_87 rfl (lv_at hl 1 rfl) ?_
            refine va_get (D := g.1) (ci := 7) (v := .ref (ad 3)) (C := RX7) (T := TX7) (N := 26) hx hb (dr_words hts d) (fun w h => List.mem_cons_of_mem _ (List.mem_append_right _ h)) (hown d) (hK d) hP 0 rfl rfl 3 (by decide) ((dr_words hts d) (.fieldLink RX7 17 "PauseRegionsModel" "past" "[I") (List.mem_of_getElem? (i := 2) rfl)) (fun _ h9 => h9) rfl dX7_notes_88 ?_
            refine lv_sipush (v := 296) hx hb dX7_notes_91 (by decide) ?_
            refine lv_aload_n hx hb dX7_notes_94 rfl (lv_at hl 1 rfl) ?_
            refine va_get (D := g.1) (ci := 7) (v := .int (q7.2 5 0)) (C := RX7) (T := TX7) (N := 26) hx hb (dr_words hts d) (fun w h => List.mem_cons_of_mem _ (List.mem_append_right _ h)) (hown d) (hK d) hP 0 rfl rfl 5 (by decide) ((dr_words hts d) (.fieldLink RX7 70 "PauseRegionsModel" "undos" "I") (List.mem_of_getElem? (i := 1) rfl)) (fun _ h9 => h9) rfl dX7_notes_95 ?_
            refine lv_imul hx hb dX7_notes_98 ?_
            refine lv_iload_n hx hb dX7_notes_99 rfl (lv_at hl 0 rfl) ?_
            refine lv_iadd hx hb dX7_notes_100 ?_
            refine lv_aload_n hx hb dX7_notes_101 rfl (lv_at hl 1 rfl) ?_
            refine va_get (D := g.1) (ci := 7) (v := .ref (ad 1)) (C := RX7) (T := TX7) (N := 26) hx hb (dr_words hts d) (fun w h => List.mem_cons_of_mem _ (List.mem_append_right _ h)) (hown d) (hK d) hP 0 rfl rfl 1 (by decide) ((dr_words hts d) (.fieldLink RX7 7 "PauseRegionsModel" "s" "[I") (List.mem_of_getElem? (i := 4) rfl)) (fun _ h9 => h9) rfl dX7_notes_102 ?_
            refine lv_iload_n hx hb dX7_notes_105 rfl (lv_at hl 0 rfl) ?_
            obtain ⟨h11, hst1⟩ := ck_some hst1
            refine va_iald (D := g.1) hx hb (hK d) hP 1 0 rfl rfl h11 dX7_notes_106 ?_
            obtain ⟨h12, hst1⟩ := ck_some hst1
            refine va_iast (D := g.1) hx hb (hK d) hP hD hS 3 0 rfl rfl h12 dX7_notes_107 (fun H locs hP hD hS => ?_)
            obtain ⟨A5, eA5, hst1⟩ := bd_some hst1
            have hP : va_P g.1 vwCl (wM g ad A5 fz3) H := by rw [eA5]; exact hP
            have hD : va_D Z (wM g ad A5 fz3) := by rw [eA5]; exact hD
            refine lv_iinc (v := q7.1 + 1) (lv' := [(1, .int (q7.1 + 1)), (0, .ref (ad 0))]) hx hb dX7_notes_108 hl (k := 0) rfl rfl (by decide) rfl (fun ls hl => ?_)
            refine lv_goto (tgt := 80) hx hb dX7_notes_111 (by decide) ?_
            exact hin1 _ H locs ls () _ (Option.some.inj hst1).symm hdr trivial hP hD hS (lv_sub hl [0, 1] rfl)
      · unfold sX7_notes_L42 at hst1
        have hP : va_P g.1 vwCl (wM g ad q5.2.1 fz3) H := hP
        have hD : va_D Z (wM g ad q5.2.1 fz3) := hD
        refine lv_iload_n hx hb dX7_notes_42 rfl (lv_at hl 0 rfl) ?_
        refine lv_bipush (v := 10) hx hb dX7_notes_43 (by decide) ?_
        refine lv_icmp_ge (tgt := 68) hx hb dX7_notes_45 (by decide) (fun c4 => ?_) (fun c4 => ?_)
        · rw [if_pos c4] at hst1
          exact hout1 _ H locs ls fz3 _ (Option.some.inj hst1).symm hdr hrfz3 hP hD hS (lv_sub hl [1] rfl)
        · rw [if_neg c4] at hst1
          refine lv_aload_n hx hb dX7_notes_48 rfl (lv_at hl 1 rfl) ?_
          refine va_get (D := g.1) (ci := 7) (v := .ref (ad 4)) (C := RX7) (T := TX7) (N := 26) hx hb (dr_words hts d) (fun w h => List.mem_cons_of_mem _ (List.mem_append_right _ h)) (hown d) (hK d) hP 0 rfl rfl 4 (by decide) ((dr_words hts d) (.fieldLink RX7 20 "PauseRegionsModel" "pastLearnt" "[F") (List.mem_of_getElem? (i := 3) rfl)) (fun _ h9 => h9) rfl dX7_notes_49 ?_
          refine lv_iload_n hx hb dX7_notes_52 rfl (lv_at hl 0 rfl) ?_
          refine lv_aload_n hx hb dX7_notes_53 rfl (lv_at hl 1 rfl) ?_
          refine va_get (D := g.1) (ci := 7) (v := .ref (ad 4)) (C := RX7) (T := TX7) (N := 26) hx hb (dr_words hts d) (fun w h => List.mem_cons_of_mem _ (List.mem_append_right _ h)) (hown d) (hK d) hP 0 rfl rfl 4 (by decide) ((dr_words hts d) (.fieldLink RX7 20 "PauseRegionsModel" "pastLearnt" "[F") (List.mem_of_getElem? (i := 3) rfl)) (fun _ h9 => h9) rfl dX7_notes_54 ?_
          refine lv_iload_n hx hb dX7_notes_57 rfl (lv_at hl 0 rfl) ?_
          refine lv_iconst (v := 2) hx hb dX7_notes_58 (by decide) ?_
          refine lv_iadd hx hb dX7_notes_59 ?_
          obtain ⟨h9, hst1⟩ := ck_some hst1
          refine va_fald (D := g.1) hx hb (hK d) hP 4 2 rfl rfl h9 dX7_notes_60 ?_
          obtain ⟨h10, hst1⟩ := ck_some hst1
          refine va_fast (D := g.1) hx hb (hK d) hP hD hS 4 2 rfl rfl h10 dX7_notes_61 (fun H locs hP hD hS => ?_)
          obtain ⟨F3, eF3⟩ : ∃ z, z = wrF fz3 4 (q5.1.toNatClampNeg) ((fz3 4) (q5.1 + 2).toNatClampNeg) := ⟨_, rfl⟩
          obtain ⟨F3c, eF3c, hst1⟩ := bd_some hst1
          have haF3 : AL F3 F3c := by rw [eF3, eF3c]; exact AL.wr hrfz3 (hrfz3 4 _)
          have hP : va_P g.1 vwCl (wM g ad q5.2.1 F3) H := by rw [eF3]; exact hP
          have hD : va_D Z (wM g ad q5.2.1 F3) := by rw [eF3]; exact hD
          refine lv_iinc (v := q5.1 + 1) (lv' := [(1, .int (q5.1 + 1)), (0, .ref (ad 0))]) hx hb dX7_notes_62 hl (k := 0) rfl rfl (by decide) rfl (fun ls hl => ?_)
          refine lv_goto (tgt := 42) hx hb dX7_notes_65 (by decide) ?_
          exact hin1 _ H locs ls F3 _ (Option.some.inj hst1).symm hdr haF3 hP hD hS (lv_sub hl [0, 1] rfl)
    · unfold sX7_notes_L11 at hst1
      have hP : va_P g.1 vwCl (wM g ad q3.2 F) H := hP
      have hD : va_D Z (wM g ad q3.2 F) := hD
      refine lv_iload_n hx hb dX7_notes_11 rfl (lv_at hl 0 rfl) ?_
      refine lv_sipush (v := 1480) hx hb dX7_notes_12 (by decide) ?_
      refine lv_icmp_ge (tgt := 40) hx hb dX7_notes_15 (by decide) (fun c3 => ?_) (fun c3 => ?_)
      · rw [if_pos c3] at hst1
        exact hout1 _ H locs ls () _ (Option.some.inj hst1).symm hdr trivial hP hD hS (lv_sub hl [1] rfl)
      · rw [if_neg c3] at hst1
        refine lv_aload_n hx hb dX7_notes_18 rfl (lv_at hl 1 rfl) ?_
        refine va_get (D := g.1) (ci := 7) (v := .ref (ad 3)) (C := RX7) (T := TX7) (N := 26) hx hb (dr_words hts d) (fun w h => List.mem_cons_of_mem _ (List.mem_append_right _ h)) (hown d) (hK d) hP 0 rfl rfl 3 (by decide) ((dr_words hts d) (.fieldLink RX7 17 "PauseRegionsModel" "past" "[I") (List.mem_of_getElem? (i := 2) rfl)) (fun _ h9 => h9) rfl dX7_notes_19 ?_
        refine lv_iload_n hx hb dX7_notes_22 rfl (lv_at hl 0 rfl) ?_
        refine lv_aload_n hx hb dX7_notes_23 rfl (lv_at hl 1 rfl) ?_
        refine va_get (D := g.1) (ci := 7) (v := .ref (ad 3)) (C := RX7) (T := TX7) (N := 26) hx hb (dr_words hts d) (fun w h => List.mem_cons_of_mem _ (List.mem_append_right _ h)) (hown d) (hK d) hP 0 rfl rfl 3 (by decide) ((dr_words hts d) (.fieldLink RX7 17 "PauseRegionsModel" "past" "[I") (List.mem_of_getElem? (i := 2) rfl)) (fun _ h9 => h9) rfl dX7_notes_24 ?_
        refine lv_iload_n hx hb dX7_notes_27 rfl (lv_at hl 0 rfl) ?_
        refine lv_sipush (v := 296) hx hb dX7_notes_28 (by decide) ?_
        refine lv_iadd hx hb dX7_notes_31 ?_
        obtain ⟨h7, hst1⟩ := ck_some hst1
        refine va_iald (D := g.1) hx hb (hK d) hP 3 0 rfl rfl h7 dX7_notes_32 ?_
        obtain ⟨h8, hst1⟩ := ck_some hst1
        refine va_iast (D := g.1) hx hb (hK d) hP hD hS 3 0 rfl rfl h8 dX7_notes_33 (fun H locs hP hD hS => ?_)
        obtain ⟨A3, eA3, hst1⟩ := bd_some hst1
        have hP : va_P g.1 vwCl (wM g ad A3 F) H := by rw [eA3]; exact hP
        have hD : va_D Z (wM g ad A3 F) := by rw [eA3]; exact hD
        refine lv_iinc (v := q3.1 + 1) (lv' := [(1, .int (q3.1 + 1)), (0, .ref (ad 0))]) hx hb dX7_notes_34 hl (k := 0) rfl rfl (by decide) rfl (fun ls hl => ?_)
        refine lv_goto (tgt := 11) hx hb dX7_notes_37 (by decide) ?_
        exact hin1 _ H locs ls () _ (Option.some.inj hst1).symm hdr trivial hP hD hS (lv_sub hl [0, 1] rfl)
def sX7_blackCells_L4 (A : IA) (p0 : Int32) (q1 : Int32 × Int32) : Option ((Int32 × Int32) ⊕ (Int32)) :=
  if 32 ≤ q1.2 then (some (.inr q1.1)) else ((sX7_isThing A q1.2).bind fun x1 => if x1 = 0 then (bd (q1.1 + 0) fun x2 => some (.inl (x2, q1.2 + 1))) else ((sX7_ofThing A q1.2 1).bind fun x3 => if x3 = p0 then ((sX7_ofThing A q1.2 5).bind fun x5 => if x5 = 2 then ((sX7_ofThing A q1.2 0).bind fun x7 => bd (q1.1 + x7) fun x8 => some (.inl (x8, q1.2 + 1))) else (bd (q1.1 + 0) fun x6 => some (.inl (x6, q1.2 + 1)))) else (bd (q1.1 + 0) fun x4 => some (.inl (x4, q1.2 + 1)))))
def sX7_blackCells (A : IA) (p0 : Int32) : Option (Int32) :=
  (loopN (sX7_blackCells_L4 A p0) 2000 (0, 0)).bind fun q2 => some q2
abbrev rmX7_blackCells : Room := { frames := 2, cells := 0, slots := 0, locals := 43 }
theorem hdX7_blackCells : yX7_blackCells.cls = RX7 ∧ yX7_blackCells.cls ≠ "java/lang/invoke/MethodHandle" ∧ yX7_blackCells.cls ≠ "java/lang/invoke/VarHandle" ∧ (parseMethodDescriptor yX7_blackCells.desc).map (fun d => d.parameters.length) = some 1 := by decide +kernel
set_option maxHeartbeats 4000000 in
set_option maxRecDepth 100000 in
theorem kX7_blackCells {l : Launch} {g : GG} {H0 : Heap} {ad : Nat → Nat} {A : IA} {F : FA} {p0 : Int32} {b : Int32} (hP : va_P g.1 vwCl (wM g ad A F) H0) (hsem : sX7_blackCells A p0 = some b) : MetP l yX7_blackCells wsX7_blackCells rmX7_blackCells g H0 [.ref (ad 0), .int p0] b := by
  refine Met.ofW (cc := cX7_blackCells) (maxL := 4) (ret := (some .int)) (by decide) rfl ?_
  intro p e s m args below meth c s₁ B hml hv
  obtain ⟨rfl, hH, hKK⟩ := hv
  subst hH
  have hx := B.exec
  have hb := B.bytes
  have hr := B.returns
  have hts := atoms_spec (ws := wsX7_blackCells) B.pre
  have hown : s.vm.findClass RX7 = some m.cls := findClass_of_methodNamed B.named
  have hlocks := B.notSynchronized
  have hK := hKK.1
  have hl := lv_entry ([.ref (ad 0), .int p0]) (n := 4) (Nat.le_of_ble_eq_true rfl)
  rw [lg_entry_eq]
  generalize (lg_sl ([.ref (ad 0), .int p0]) ++ List.replicate (4 - (lg_sl ([.ref (ad 0), .int p0])).length) Slot.unset).toArray = ls at hl ⊢
  have hl : lv_has ls 4 [(0, .ref (ad 0)), (1, .int p0)] := hl
  unfold sX7_blackCells at hsem
  refine lv_iconst (v := 0) hx hb dX7_blackCells_0 (by decide) ?_
  refine lv_istore_n (lv' := [(2, .int 0), (0, .ref (ad 0)), (1, .int p0)]) hx hb dX7_blackCells_1 rfl hl (by decide) rfl (fun ls hl => ?_)
  refine lv_iconst (v := 0) hx hb dX7_blackCells_2 (by decide) ?_
  refine lv_istore_n (lv' := [(3, .int 0), (2, .int 0), (0, .ref (ad 0)), (1, .int p0)]) hx hb dX7_blackCells_3 rfl hl (by decide) rfl (fun ls hl => ?_)
  obtain ⟨q2, hc5, hsem⟩ := bn_some hsem
  refine loopP hc5 (fun (q1 : Int32 × Int32) => [(3, .int q1.2), (2, .int q1.1), (0, .ref (ad 0)), (1, .int p0)]) (fun (q1 : Int32) => [(2, .int q1)]) (exit := 57) (lv_sub hl [0, 1, 2, 3] rfl) (fun ls hl => ?_) (fun q1 r hst1 hin1 hout1 ls hl => ?_)
  · skip
    refine lv_iload_n hx hb dX7_blackCells_57 rfl (lv_at hl 0 rfl) ?_
    have eo := (Option.some.inj hsem).symm.symm
    exact W.iret (v := q2) hx hb hr (fun t ht hW => ⟨⟨_, (), rfl, eo, ht⟩, (va_S.rf (A := fun _ => False) (H0 := s.heap)).F ht⟩) (fun q hq => absurd hq List.not_mem_nil) dX7_blackCells_58
  · unfold sX7_blackCells_L4 at hst1
    refine lv_iload_n hx hb dX7_blackCells_4 rfl (lv_at hl 0 rfl) ?_
    refine lv_bipush (v := 32) hx hb dX7_blackCells_5 (by decide) ?_
    refine lv_icmp_ge (tgt := 57) hx hb dX7_blackCells_7 (by decide) (fun c1 => ?_) (fun c1 => ?_)
    · rw [if_pos c1] at hst1
      exact hout1 ls _ (Option.some.inj hst1).symm (lv_sub hl [1] rfl)
    · rw [if_neg c1] at hst1
      refine lv_iload_n hx hb dX7_blackCells_10 rfl (lv_at hl 1 rfl) ?_
      refine lv_aload_n hx hb dX7_blackCells_11 rfl (lv_at hl 2 rfl) ?_
      refine lv_iload_n hx hb dX7_blackCells_12 rfl (lv_at hl 0 rfl) ?_
      obtain ⟨x1, hc1, hst1⟩ := bn_some hst1
      refine pcV (C := RX7) (As := [.int q1.2]) (rest := [.int q1.1]) ⟨hx, hb, hml, hown, hts⟩ hKK (cwV 1 hts gX7_blackCells_X7_isThing rfl rfl rfl hdX7_isThing ⟨Nat.le_of_ble_eq_true rfl, Nat.le_of_ble_eq_true rfl⟩) (kX7_isThing (l := l) (g := g) hP hc1) (va_recv hK hP (ci := 7) (q0 := 0) rfl rfl) rfl hl.1 rfl (Nat.le_of_ble_eq_true rfl) dX7_blackCells_13 ⟨Nat.zero_le _, Nat.zero_le _⟩ ?_
      refine lv_if_eq (tgt := 48) hx hb dX7_blackCells_16 (by decide) (fun c2 => ?_) (fun c2 => ?_)
      · rw [if_pos c2] at hst1
        refine lv_iconst (v := 0) hx hb dX7_blackCells_48 (by decide) ?_
        refine lv_iadd hx hb dX7_blackCells_49 ?_
        obtain ⟨x2, ex2, hst1⟩ := bd_some hst1
        rw [← ex2]
        refine lv_istore_n (lv' := [(2, .int x2), (3, .int q1.2), (0, .ref (ad 0)), (1, .int p0)]) hx hb dX7_blackCells_50 rfl hl (by decide) rfl (fun ls hl => ?_)
        refine lv_iinc (v := q1.2 + 1) (lv' := [(3, .int (q1.2 + 1)), (2, .int x2), (0, .ref (ad 0)), (1, .int p0)]) hx hb dX7_blackCells_51 hl (k := 1) rfl rfl (by decide) rfl (fun ls hl => ?_)
        refine lv_goto (tgt := 4) hx hb dX7_blackCells_54 (by decide) ?_
        exact hin1 ls _ (Option.some.inj hst1).symm (lv_sub hl [0, 1, 2, 3] rfl)
      · rw [if_neg c2] at hst1
        refine lv_aload_n hx hb dX7_blackCells_19 rfl (lv_at hl 2 rfl) ?_
        refine lv_iload_n hx hb dX7_blackCells_20 rfl (lv_at hl 0 rfl) ?_
        refine lv_iconst (v := 1) hx hb dX7_blackCells_21 (by decide) ?_
        obtain ⟨x3, hc2, hst1⟩ := bn_some hst1
        refine pcV (C := RX7) (As := [.int q1.2, .int 1]) (rest := [.int q1.1]) ⟨hx, hb, hml, hown, hts⟩ hKK (cwV 2 hts gX7_blackCells_X7_ofThing rfl rfl rfl hdX7_ofThing ⟨Nat.le_of_ble_eq_true rfl, Nat.le_of_ble_eq_true rfl⟩) (kX7_ofThing (l := l) (g := g) hP hc2) (va_recv hK hP (ci := 7) (q0 := 0) rfl rfl) rfl hl.1 rfl (Nat.le_of_ble_eq_true rfl) dX7_blackCells_22 ⟨Nat.zero_le _, Nat.zero_le _⟩ ?_
        refine lv_iload_n hx hb dX7_blackCells_25 rfl (lv_at hl 3 rfl) ?_
        refine lv_icmp_ne (tgt := 48) hx hb dX7_blackCells_26 (by decide) (fun c3 => ?_) (fun c3 => ?_)
        · rw [if_neg c3] at hst1
          refine lv_iconst (v := 0) hx hb dX7_blackCells_48 (by decide) ?_
          refine lv_iadd hx hb dX7_blackCells_49 ?_
          obtain ⟨x4, ex4, hst1⟩ := bd_some hst1
          rw [← ex4]
          refine lv_istore_n (lv' := [(2, .int x4), (3, .int q1.2), (0, .ref (ad 0)), (1, .int p0)]) hx hb dX7_blackCells_50 rfl hl (by decide) rfl (fun ls hl => ?_)
          refine lv_iinc (v := q1.2 + 1) (lv' := [(3, .int (q1.2 + 1)), (2, .int x4), (0, .ref (ad 0)), (1, .int p0)]) hx hb dX7_blackCells_51 hl (k := 1) rfl rfl (by decide) rfl (fun ls hl => ?_)
          refine lv_goto (tgt := 4) hx hb dX7_blackCells_54 (by decide) ?_
          exact hin1 ls _ (Option.some.inj hst1).symm (lv_sub hl [0, 1, 2, 3] rfl)
        · rw [if_pos c3] at hst1
          refine lv_aload_n hx hb dX7_blackCells_29 rfl (lv_at hl 2 rfl) ?_
          refine lv_iload_n hx hb dX7_blackCells_30 rfl (lv_at hl 0 rfl) ?_
          refine lv_iconst (v := 5) hx hb dX7_blackCells_31 (by decide) ?_
          obtain ⟨x5, hc3, hst1⟩ := bn_some hst1
          refine pcV (C := RX7) (As := [.int q1.2, .int 5]) (rest := [.int q1.1]) ⟨hx, hb, hml, hown, hts⟩ hKK (cwV 2 hts gX7_blackCells_X7_ofThing rfl rfl rfl hdX7_ofThing ⟨Nat.le_of_ble_eq_true rfl, Nat.le_of_ble_eq_true rfl⟩) (kX7_ofThing (l := l) (g := g) hP hc3) (va_recv hK hP (ci := 7) (q0 := 0) rfl rfl) rfl hl.1 rfl (Nat.le_of_ble_eq_true rfl) dX7_blackCells_32 ⟨Nat.zero_le _, Nat.zero_le _⟩ ?_
          refine lv_iconst (v := 2) hx hb dX7_blackCells_35 (by decide) ?_
          refine lv_icmp_ne (tgt := 48) hx hb dX7_blackCells_36 (by decide) (fun c4 => ?_) (fun c4 => ?_)
          · rw [if_neg c4] at hst1
            refine lv_iconst (v := 0) hx hb dX7_blackCells_48 (by decide) ?_
            refine lv_iadd hx hb dX7_blackCells_49 ?_
            obtain ⟨x6, ex6, hst1⟩ := bd_some hst1
            rw [← ex6]
            refine lv_istore_n (lv' := [(2, .int x6), (3, .int q1.2), (0, .ref (ad 0)), (1, .int p0)]) hx hb dX7_blackCells_50 rfl hl (by decide) rfl (fun ls hl => ?_)
            refine lv_iinc (v := q1.2 + 1) (lv' := [(3, .int (q1.2 + 1)), (2, .int x6), (0, .ref (ad 0)), (1, .int p0)]) hx hb dX7_blackCells_51 hl (k := 1) rfl rfl (by decide) rfl (fun ls hl => ?_)
            refine lv_goto (tgt := 4) hx hb dX7_blackCells_54 (by decide) ?_
            exact hin1 ls _ (Option.some.inj hst1).symm (lv_sub hl [0, 1, 2, 3] rfl)
          · rw [if_pos c4] at hst1
            refine lv_aload_n hx hb dX7_blackCells_39 rfl (lv_at hl 2 rfl) ?_
            refine lv_iload_n hx hb dX7_blackCells_40 rfl (lv_at hl 0 rfl) ?_
            refine lv_iconst (v := 0) hx hb dX7_blackCells_41 (by decide) ?_
            obtain ⟨x7, hc4, hst1⟩ := bn_some hst1
            refine pcV (C := RX7) (As := [.int q1.2, .int 0]) (rest := [.int q1.1]) ⟨hx, hb, hml, hown, hts⟩ hKK (cwV 2 hts gX7_blackCells_X7_ofThing rfl rfl rfl hdX7_ofThing ⟨Nat.le_of_ble_eq_true rfl, Nat.le_of_ble_eq_true rfl⟩) (kX7_ofThing (l := l) (g := g) hP hc4) (va_recv hK hP (ci := 7) (q0 := 0) rfl rfl) rfl hl.1 rfl (Nat.le_of_ble_eq_true rfl) dX7_blackCells_42 ⟨Nat.zero_le _, Nat.zero_le _⟩ ?_
            refine lv_goto (tgt := 49) hx hb dX7_blackCells_45 (by decide) ?_
            refine lv_iadd hx hb dX7_blackCells_49 ?_
            obtain ⟨x8, ex8, hst1⟩ := bd_some hst1
            rw [← ex8]
            refine lv_istore_n (lv' := [(2, .int x8), (3, .int q1.2), (0, .ref (ad 0)), (1, .int p0)]) hx hb dX7_blackCells_50 rfl hl (by decide) rfl (fun ls hl => ?_)
            refine lv_iinc (v := q1.2 + 1) (lv' := [(3, .int (q1.2 + 1)), (2, .int x8), (0, .ref (ad 0)), (1, .int p0)]) hx hb dX7_blackCells_51 hl (k := 1) rfl rfl (by decide) rfl (fun ls hl => ?_)
            refine lv_goto (tgt := 4) hx hb dX7_blackCells_54 (by decide) ?_
            exact hin1 ls _ (Option.some.inj hst1).symm (lv_sub hl [0, 1, 2, 3] rfl)
def sX7_isNoMore_L22 (p0 : Int32) (q1 : Int32 × IA) (q2 : Int32 × IA) : Option ((Int32 × IA) ⊕ (IA)) :=
  if 2 ≤ q2.1 then (some (.inr q2.2)) else ((sX7_ofThing q2.2 q1.1 (3 + q2.1)).bind fun x1 => if x1 = p0 then (ck (((6 * q1.1) + 3) + q2.1) 296 (bd (wr q2.2 1 ((((6 * q1.1) + 3) + q2.1).toNatClampNeg) (-5)) fun A2 => some (.inl (q2.1 + 1, A2)))) else (some (.inl (q2.1 + 1, q2.2))))
def sX7_isNoMore_L14 (p0 : Int32) (q1 : Int32 × IA) : Option ((Int32 × IA) ⊕ (IA)) :=
  if 32 ≤ q1.1 then (some (.inr q1.2)) else ((loopN (sX7_isNoMore_L22 p0 q1) 2000 (0, q1.2)).bind fun q3 => some (.inl (q1.1 + 1, q3)))
def sX7_isNoMore (A : IA) (p0 : Int32) : Option (IA) :=
  ck ((6 * p0) + 0) 296 (bd (wr A 1 (((6 * p0) + 0).toNatClampNeg) 0) fun A1 => (loopN (sX7_isNoMore_L14 p0) 2000 (0, A1)).bind fun q4 => some q4)
abbrev rmX7_isNoMore : Room := { frames := 1, cells := 0, slots := 0, locals := 22 }
theorem hdX7_isNoMore : yX7_isNoMore.cls = RX7 ∧ yX7_isNoMore.cls ≠ "java/lang/invoke/MethodHandle" ∧ yX7_isNoMore.cls ≠ "java/lang/invoke/VarHandle" ∧ (parseMethodDescriptor yX7_isNoMore.desc).map (fun d => d.parameters.length) = some 1 := by decide +kernel
set_option maxHeartbeats 4000000 in
set_option maxRecDepth 100000 in
theorem kX7_isNoMore {l : Launch} {g : GG} {sz : Nat} {ad : Nat → Nat} {A : IA} {F : FA} {p0 : Int32} {b : IA} (hsem : sX7_isNoMore A p0 = some b) : MetV l yX7_isNoMore wsX7_isNoMore rmX7_isNoMore g [.ref (ad 0), .int p0] (wM g ad A F) sz (wM g ad b F) := by
  refine Met.ofW (cc := cX7_isNoMore) (maxL := 4) (ret := none) (by decide) rfl ?_
  intro p e s m args below meth c s₁ B hml hv
  obtain ⟨rfl, hsz, hP, hD0, hKK⟩ := hv
  subst hsz
  have hx := B.exec
  have hb := B.bytes
  have hr := B.returns
  have hts := atoms_spec (ws := wsX7_isNoMore) B.pre
  have hown : s.vm.findClass RX7 = some m.cls := findClass_of_methodNamed B.named
  have hlocks := B.notSynchronized
  have hK := hKK.1
  have hD := hD0.self (sz := s.heap.size)
  generalize hZe : va_A (wM g ad A F) s.heap.size = Z at hD ⊢
  have hZ : ∀ q : Nat, s.heap.size ≤ q → Z q := fun q h => by rw [← hZe]; exact Or.inr h
  have hS : va_S Z s.heap s.heap [] := va_S.rf
  have hP : va_P g.1 vwCl (wM g ad A F) s.heap := hP
  have hD : va_D Z (wM g ad A F) := hD
  have hl := lv_entry ([.ref (ad 0), .int p0]) (n := 4) (Nat.le_of_ble_eq_true rfl)
  rw [lg_entry_eq]
  generalize (lg_sl ([.ref (ad 0), .int p0]) ++ List.replicate (4 - (lg_sl ([.ref (ad 0), .int p0])).length) Slot.unset).toArray = ls at hl ⊢
  have hl : lv_has ls 4 [(0, .ref (ad 0)), (1, .int p0)] := hl
  unfold sX7_isNoMore at hsem
  refine lv_aload_n hx hb dX7_isNoMore_0 rfl (lv_at hl 0 rfl) ?_
  refine va_get (D := g.1) (ci := 7) (v := .ref (ad 1)) (C := RX7) (T := TX7) (N := 26) hx hb hts (fun w h => List.mem_cons_of_mem _ (List.mem_append_right _ h)) hown hK hP 0 rfl rfl 1 (by decide) (hts (.fieldLink RX7 7 "PauseRegionsModel" "s" "[I") (List.mem_of_getElem? (i := 1) rfl)) (fun _ h9 => h9) rfl dX7_isNoMore_1 ?_
  refine lv_bipush (v := 6) hx hb dX7_isNoMore_4 (by decide) ?_
  refine lv_iload_n hx hb dX7_isNoMore_6 rfl (lv_at hl 1 rfl) ?_
  refine lv_imul hx hb dX7_isNoMore_7 ?_
  refine lv_iconst (v := 0) hx hb dX7_isNoMore_8 (by decide) ?_
  refine lv_iadd hx hb dX7_isNoMore_9 ?_
  refine lv_iconst (v := 0) hx hb dX7_isNoMore_10 (by decide) ?_
  obtain ⟨h1, hsem⟩ := ck_some hsem
  refine va_iast (D := g.1) hx hb hK hP hD hS 1 0 rfl rfl h1 dX7_isNoMore_11 (fun H locs hP hD hS => ?_)
  obtain ⟨A1, eA1, hsem⟩ := bd_some hsem
  have hP : va_P g.1 vwCl (wM g ad A1 F) H := by rw [eA1]; exact hP
  have hD : va_D Z (wM g ad A1 F) := by rw [eA1]; exact hD
  refine lv_iconst (v := 0) hx hb dX7_isNoMore_12 (by decide) ?_
  refine lv_istore_n (lv' := [(2, .int 0), (0, .ref (ad 0)), (1, .int p0)]) hx hb dX7_isNoMore_13 rfl hl (by decide) rfl (fun ls hl => ?_)
  obtain ⟨q4, hc3, hsem⟩ := bn_some hsem
  refine loopM (g := g) hc3 (fun (q1 : Int32 × IA) => [(2, .int q1.1), (0, .ref (ad 0)), (1, .int p0)]) (fun (q1 : IA) => []) (exit := 66) (fun (q1 : Int32 × IA) => wM g ad q1.2 F) (fun (q1 : IA) => wM g ad q1 F) hP hD hS (lv_sub hl [0, 1, 2] rfl) (fun H locs ls hP hD hS hl => ?_) (fun q1 r hst1 hin1 hout1 H locs ls hP hD hS hl => ?_)
  · have hP : va_P g.1 vwCl (wM g ad q4 F) H := hP
    have hD : va_D Z (wM g ad q4 F) := hD
    have eo := (Option.some.inj hsem).symm.symm
    subst eo
    exact W.vret hx hb hr (fun t ht hW => ⟨⟨(), rfl, trivial, ⟨by rw [ht]; exact hP, hD⟩⟩, hS.F ht⟩) hS.2.2 dX7_isNoMore_66
  · unfold sX7_isNoMore_L14 at hst1
    have hP : va_P g.1 vwCl (wM g ad q1.2 F) H := hP
    have hD : va_D Z (wM g ad q1.2 F) := hD
    refine lv_iload_n hx hb dX7_isNoMore_14 rfl (lv_at hl 0 rfl) ?_
    refine lv_bipush (v := 32) hx hb dX7_isNoMore_15 (by decide) ?_
    refine lv_icmp_ge (tgt := 66) hx hb dX7_isNoMore_17 (by decide) (fun c1 => ?_) (fun c1 => ?_)
    · rw [if_pos c1] at hst1
      exact hout1 H locs ls _ (Option.some.inj hst1).symm hP hD hS (lv_sub hl [] rfl)
    · rw [if_neg c1] at hst1
      refine lv_iconst (v := 0) hx hb dX7_isNoMore_20 (by decide) ?_
      refine lv_istore_n (lv' := [(3, .int 0), (2, .int q1.1), (0, .ref (ad 0)), (1, .int p0)]) hx hb dX7_isNoMore_21 rfl hl (by decide) rfl (fun ls hl => ?_)
      obtain ⟨q3, hc2, hst1⟩ := bn_some hst1
      refine loopM (g := g) hc2 (fun (q2 : Int32 × IA) => [(3, .int q2.1), (2, .int q1.1), (0, .ref (ad 0)), (1, .int p0)]) (fun (q2 : IA) => [(2, .int q1.1), (0, .ref (ad 0)), (1, .int p0)]) (exit := 60) (fun (q2 : Int32 × IA) => wM g ad q2.2 F) (fun (q2 : IA) => wM g ad q2 F) hP hD hS (lv_sub hl [0, 1, 2, 3] rfl) (fun H locs ls hP hD hS hl => ?_) (fun q2 r hst2 hin2 hout2 H locs ls hP hD hS hl => ?_)
      · have hP : va_P g.1 vwCl (wM g ad q3 F) H := hP
        have hD : va_D Z (wM g ad q3 F) := hD
        refine lv_iinc (v := q1.1 + 1) (lv' := [(2, .int (q1.1 + 1)), (0, .ref (ad 0)), (1, .int p0)]) hx hb dX7_isNoMore_60 hl (k := 0) rfl rfl (by decide) rfl (fun ls hl => ?_)
        refine lv_goto (tgt := 14) hx hb dX7_isNoMore_63 (by decide) ?_
        exact hin1 H locs ls _ (Option.some.inj hst1).symm hP hD hS (lv_sub hl [0, 1, 2] rfl)
      · unfold sX7_isNoMore_L22 at hst2
        have hP : va_P g.1 vwCl (wM g ad q2.2 F) H := hP
        have hD : va_D Z (wM g ad q2.2 F) := hD
        refine lv_iload_n hx hb dX7_isNoMore_22 rfl (lv_at hl 0 rfl) ?_
        refine lv_iconst (v := 2) hx hb dX7_isNoMore_23 (by decide) ?_
        refine lv_icmp_ge (tgt := 60) hx hb dX7_isNoMore_24 (by decide) (fun c2 => ?_) (fun c2 => ?_)
        · rw [if_pos c2] at hst2
          exact hout2 H locs ls _ (Option.some.inj hst2).symm hP hD hS (lv_sub hl [1, 2, 3] rfl)
        · rw [if_neg c2] at hst2
          refine lv_aload_n hx hb dX7_isNoMore_27 rfl (lv_at hl 2 rfl) ?_
          refine lv_iload_n hx hb dX7_isNoMore_28 rfl (lv_at hl 1 rfl) ?_
          refine lv_iconst (v := 3) hx hb dX7_isNoMore_29 (by decide) ?_
          refine lv_iload_n hx hb dX7_isNoMore_30 rfl (lv_at hl 0 rfl) ?_
          refine lv_iadd hx hb dX7_isNoMore_31 ?_
          obtain ⟨x1, hc1, hst2⟩ := bn_some hst2
          refine pcV (C := RX7) (As := [.int q1.1, .int (3 + q2.1)]) (rest := []) ⟨hx, hb, hml, hown, hts⟩ hKK (cwV 2 hts gX7_isNoMore_X7_ofThing rfl rfl rfl hdX7_ofThing ⟨Nat.le_of_ble_eq_true rfl, Nat.le_of_ble_eq_true rfl⟩) (kX7_ofThing (l := l) (g := g) hP hc1) (va_recv hK hP (ci := 7) (q0 := 0) rfl rfl) rfl hl.1 rfl (Nat.le_of_ble_eq_true rfl) dX7_isNoMore_32 ⟨Nat.zero_le _, Nat.zero_le _⟩ ?_
          refine lv_iload_n hx hb dX7_isNoMore_35 rfl (lv_at hl 3 rfl) ?_
          refine lv_icmp_ne (tgt := 54) hx hb dX7_isNoMore_36 (by decide) (fun c3 => ?_) (fun c3 => ?_)
          · rw [if_neg c3] at hst2
            refine lv_iinc (v := q2.1 + 1) (lv' := [(3, .int (q2.1 + 1)), (2, .int q1.1), (0, .ref (ad 0)), (1, .int p0)]) hx hb dX7_isNoMore_54 hl (k := 0) rfl rfl (by decide) rfl (fun ls hl => ?_)
            refine lv_goto (tgt := 22) hx hb dX7_isNoMore_57 (by decide) ?_
            exact hin2 H locs ls _ (Option.some.inj hst2).symm hP hD hS (lv_sub hl [0, 1, 2, 3] rfl)
          · rw [if_pos c3] at hst2
            refine lv_aload_n hx hb dX7_isNoMore_39 rfl (lv_at hl 2 rfl) ?_
            refine va_get (D := g.1) (ci := 7) (v := .ref (ad 1)) (C := RX7) (T := TX7) (N := 26) hx hb hts (fun w h => List.mem_cons_of_mem _ (List.mem_append_right _ h)) hown hK hP 0 rfl rfl 1 (by decide) (hts (.fieldLink RX7 7 "PauseRegionsModel" "s" "[I") (List.mem_of_getElem? (i := 1) rfl)) (fun _ h9 => h9) rfl dX7_isNoMore_40 ?_
            refine lv_bipush (v := 6) hx hb dX7_isNoMore_43 (by decide) ?_
            refine lv_iload_n hx hb dX7_isNoMore_45 rfl (lv_at hl 1 rfl) ?_
            refine lv_imul hx hb dX7_isNoMore_46 ?_
            refine lv_iconst (v := 3) hx hb dX7_isNoMore_47 (by decide) ?_
            refine lv_iadd hx hb dX7_isNoMore_48 ?_
            refine lv_iload_n hx hb dX7_isNoMore_49 rfl (lv_at hl 0 rfl) ?_
            refine lv_iadd hx hb dX7_isNoMore_50 ?_
            refine lv_bipush (v := (-5)) hx hb dX7_isNoMore_51 (by decide) ?_
            obtain ⟨h2, hst2⟩ := ck_some hst2
            refine va_iast (D := g.1) hx hb hK hP hD hS 1 0 rfl rfl h2 dX7_isNoMore_53 (fun H locs hP hD hS => ?_)
            obtain ⟨A2, eA2, hst2⟩ := bd_some hst2
            have hP : va_P g.1 vwCl (wM g ad A2 F) H := by rw [eA2]; exact hP
            have hD : va_D Z (wM g ad A2 F) := by rw [eA2]; exact hD
            refine lv_iinc (v := q2.1 + 1) (lv' := [(3, .int (q2.1 + 1)), (2, .int q1.1), (0, .ref (ad 0)), (1, .int p0)]) hx hb dX7_isNoMore_54 hl (k := 0) rfl rfl (by decide) rfl (fun ls hl => ?_)
            refine lv_goto (tgt := 22) hx hb dX7_isNoMore_57 (by decide) ?_
            exact hin2 H locs ls _ (Option.some.inj hst2).symm hP hD hS (lv_sub hl [0, 1, 2, 3] rfl)
