def sX7_emptied_L2 (p0 : Int32) (p1 : Int32) (q1 : Int32 × IA) : Option ((Int32 × IA) ⊕ (IA)) :=
  if 32 ≤ q1.1 then (some (.inr q1.2)) else ((sX7_isThing q1.2 q1.1).bind fun x1 => if x1 = 0 then (some (.inl (q1.1 + 1, q1.2))) else ((sX7_ofThing q1.2 q1.1 1).bind fun x2 => if x2 = p0 then (if ((p1 >>> (q1.1 &&& 31)) &&& 1) = 0 then ((sX7_isNoMore q1.2 q1.1).bind fun z1 => some (.inl (q1.1 + 1, z1))) else (some (.inl (q1.1 + 1, q1.2)))) else (some (.inl (q1.1 + 1, q1.2)))))
def sX7_emptied (A : IA) (p0 : Int32) (p1 : Int32) : Option (IA) :=
  (loopN (sX7_emptied_L2 p0 p1) 2000 (0, A)).bind fun q2 => some q2
abbrev rmX7_emptied : Room := { frames := 2, cells := 0, slots := 0, locals := 45 }
theorem hdX7_emptied : yX7_emptied.cls = RX7 ∧ yX7_emptied.cls ≠ "java/lang/invoke/MethodHandle" ∧ yX7_emptied.cls ≠ "java/lang/invoke/VarHandle" ∧ (parseMethodDescriptor yX7_emptied.desc).map (fun d => d.parameters.length) = some 2 := by decide +kernel
set_option maxHeartbeats 4000000 in
set_option maxRecDepth 100000 in
theorem kX7_emptied {l : Launch} {g : GG} {sz : Nat} {ad : Nat → Nat} {A : IA} {F : FA} {p0 p1 : Int32} {b : IA} (hsem : sX7_emptied A p0 p1 = some b) : MetV l yX7_emptied wsX7_emptied rmX7_emptied g [.ref (ad 0), .int p0, .int p1] (wM g ad A F) sz (wM g ad b F) := by
  refine Met.ofW (cc := cX7_emptied) (maxL := 4) (ret := none) (by decide) rfl ?_
  intro p e s m args below meth c s₁ B hml hv
  obtain ⟨rfl, hsz, hP, hD0, hKK⟩ := hv
  subst hsz
  have hx := B.exec
  have hb := B.bytes
  have hr := B.returns
  have hts := atoms_spec (ws := wsX7_emptied) B.pre
  have hown : s.vm.findClass RX7 = some m.cls := findClass_of_methodNamed B.named
  have hlocks := B.notSynchronized
  have hK := hKK.1
  have hD := hD0.self (sz := s.heap.size)
  generalize hZe : va_A (wM g ad A F) s.heap.size = Z at hD ⊢
  have hZ : ∀ q : Nat, s.heap.size ≤ q → Z q := fun q h => by rw [← hZe]; exact Or.inr h
  have hS : va_S Z s.heap s.heap [] := va_S.rf
  have hP : va_P g.1 vwCl (wM g ad A F) s.heap := hP
  have hD : va_D Z (wM g ad A F) := hD
  have hl := lv_entry ([.ref (ad 0), .int p0, .int p1]) (n := 4) (Nat.le_of_ble_eq_true rfl)
  rw [lg_entry_eq]
  generalize (lg_sl ([.ref (ad 0), .int p0, .int p1]) ++ List.replicate (4 - (lg_sl ([.ref (ad 0), .int p0, .int p1])).length) Slot.unset).toArray = ls at hl ⊢
  have hl : lv_has ls 4 [(0, .ref (ad 0)), (1, .int p0), (2, .int p1)] := hl
  unfold sX7_emptied at hsem
  refine lv_iconst (v := 0) hx hb dX7_emptied_0 (by decide) ?_
  refine lv_istore_n (lv' := [(3, .int 0), (0, .ref (ad 0)), (1, .int p0), (2, .int p1)]) hx hb dX7_emptied_1 rfl hl (by decide) rfl (fun ls hl => ?_)
  obtain ⟨q2, hc4, hsem⟩ := bn_some hsem
  refine loopM (g := g) hc4 (fun (q1 : Int32 × IA) => [(3, .int q1.1), (0, .ref (ad 0)), (1, .int p0), (2, .int p1)]) (fun (q1 : IA) => []) (exit := 45) (fun (q1 : Int32 × IA) => wM g ad q1.2 F) (fun (q1 : IA) => wM g ad q1 F) hP hD hS (lv_sub hl [0, 1, 2, 3] rfl) (fun H locs ls hP hD hS hl => ?_) (fun q1 r hst1 hin1 hout1 H locs ls hP hD hS hl => ?_)
  · have hP : va_P g.1 vwCl (wM g ad q2 F) H := hP
    have hD : va_D Z (wM g ad q2 F) := hD
    have eo := (Option.some.inj hsem).symm.symm
    subst eo
    exact W.vret hx hb hr (fun t ht hW => ⟨⟨(), rfl, trivial, ⟨by rw [ht]; exact hP, hD⟩⟩, hS.F ht⟩) hS.2.2 dX7_emptied_45
  · unfold sX7_emptied_L2 at hst1
    have hP : va_P g.1 vwCl (wM g ad q1.2 F) H := hP
    have hD : va_D Z (wM g ad q1.2 F) := hD
    refine lv_iload_n hx hb dX7_emptied_2 rfl (lv_at hl 0 rfl) ?_
    refine lv_bipush (v := 32) hx hb dX7_emptied_3 (by decide) ?_
    refine lv_icmp_ge (tgt := 45) hx hb dX7_emptied_5 (by decide) (fun c1 => ?_) (fun c1 => ?_)
    · rw [if_pos c1] at hst1
      exact hout1 H locs ls _ (Option.some.inj hst1).symm hP hD hS (lv_sub hl [] rfl)
    · rw [if_neg c1] at hst1
      refine lv_aload_n hx hb dX7_emptied_8 rfl (lv_at hl 1 rfl) ?_
      refine lv_iload_n hx hb dX7_emptied_9 rfl (lv_at hl 0 rfl) ?_
      obtain ⟨x1, hc1, hst1⟩ := bn_some hst1
      refine pcV (C := RX7) (As := [.int q1.1]) (rest := []) ⟨hx, hb, hml, hown, hts⟩ hKK (cwV 1 hts gX7_emptied_X7_isThing rfl rfl rfl hdX7_isThing ⟨Nat.le_of_ble_eq_true rfl, Nat.le_of_ble_eq_true rfl⟩) (kX7_isThing (l := l) (g := g) hP hc1) (va_recv hK hP (ci := 7) (q0 := 0) rfl rfl) rfl hl.1 rfl (Nat.le_of_ble_eq_true rfl) dX7_emptied_10 ⟨Nat.zero_le _, Nat.zero_le _⟩ ?_
      refine lv_if_eq (tgt := 39) hx hb dX7_emptied_13 (by decide) (fun c2 => ?_) (fun c2 => ?_)
      · rw [if_pos c2] at hst1
        refine lv_iinc (v := q1.1 + 1) (lv' := [(3, .int (q1.1 + 1)), (0, .ref (ad 0)), (1, .int p0), (2, .int p1)]) hx hb dX7_emptied_39 hl (k := 0) rfl rfl (by decide) rfl (fun ls hl => ?_)
        refine lv_goto (tgt := 2) hx hb dX7_emptied_42 (by decide) ?_
        exact hin1 H locs ls _ (Option.some.inj hst1).symm hP hD hS (lv_sub hl [0, 1, 2, 3] rfl)
      · rw [if_neg c2] at hst1
        refine lv_aload_n hx hb dX7_emptied_16 rfl (lv_at hl 1 rfl) ?_
        refine lv_iload_n hx hb dX7_emptied_17 rfl (lv_at hl 0 rfl) ?_
        refine lv_iconst (v := 1) hx hb dX7_emptied_18 (by decide) ?_
        obtain ⟨x2, hc2, hst1⟩ := bn_some hst1
        refine pcV (C := RX7) (As := [.int q1.1, .int 1]) (rest := []) ⟨hx, hb, hml, hown, hts⟩ hKK (cwV 2 hts gX7_emptied_X7_ofThing rfl rfl rfl hdX7_ofThing ⟨Nat.le_of_ble_eq_true rfl, Nat.le_of_ble_eq_true rfl⟩) (kX7_ofThing (l := l) (g := g) hP hc2) (va_recv hK hP (ci := 7) (q0 := 0) rfl rfl) rfl hl.1 rfl (Nat.le_of_ble_eq_true rfl) dX7_emptied_19 ⟨Nat.zero_le _, Nat.zero_le _⟩ ?_
        refine lv_iload_n hx hb dX7_emptied_22 rfl (lv_at hl 2 rfl) ?_
        refine lv_icmp_ne (tgt := 39) hx hb dX7_emptied_23 (by decide) (fun c3 => ?_) (fun c3 => ?_)
        · rw [if_neg c3] at hst1
          refine lv_iinc (v := q1.1 + 1) (lv' := [(3, .int (q1.1 + 1)), (0, .ref (ad 0)), (1, .int p0), (2, .int p1)]) hx hb dX7_emptied_39 hl (k := 0) rfl rfl (by decide) rfl (fun ls hl => ?_)
          refine lv_goto (tgt := 2) hx hb dX7_emptied_42 (by decide) ?_
          exact hin1 H locs ls _ (Option.some.inj hst1).symm hP hD hS (lv_sub hl [0, 1, 2, 3] rfl)
        · rw [if_pos c3] at hst1
          refine lv_iload_n hx hb dX7_emptied_26 rfl (lv_at hl 3 rfl) ?_
          refine lv_iload_n hx hb dX7_emptied_27 rfl (lv_at hl 0 rfl) ?_
          refine lv_ishr hx hb dX7_emptied_28 ?_
          refine lv_iconst (v := 1) hx hb dX7_emptied_29 (by decide) ?_
          refine lv_iand hx hb dX7_emptied_30 ?_
          refine lv_if_ne (tgt := 39) hx hb dX7_emptied_31 (by decide) (fun c4 => ?_) (fun c4 => ?_)
          · rw [if_neg c4] at hst1
            refine lv_iinc (v := q1.1 + 1) (lv' := [(3, .int (q1.1 + 1)), (0, .ref (ad 0)), (1, .int p0), (2, .int p1)]) hx hb dX7_emptied_39 hl (k := 0) rfl rfl (by decide) rfl (fun ls hl => ?_)
            refine lv_goto (tgt := 2) hx hb dX7_emptied_42 (by decide) ?_
            exact hin1 H locs ls _ (Option.some.inj hst1).symm hP hD hS (lv_sub hl [0, 1, 2, 3] rfl)
          · rw [if_pos c4] at hst1
            refine lv_aload_n hx hb dX7_emptied_34 rfl (lv_at hl 1 rfl) ?_
            refine lv_iload_n hx hb dX7_emptied_35 rfl (lv_at hl 0 rfl) ?_
            obtain ⟨z1, hc3, hst1⟩ := bn_some hst1
            refine mcV (C := RX7) (As := [.int q1.1]) (rest := []) ⟨hx, hb, hml, hown, hts⟩ hKK hP hD hS hZ (cwV 1 hts gX7_emptied_X7_isNoMore rfl rfl rfl hdX7_isNoMore ⟨Nat.le_of_ble_eq_true rfl, Nat.le_of_ble_eq_true rfl⟩) (kX7_isNoMore (l := l) (g := g) (ad := ad) (A := q1.2) (F := F) hc3) (va_recv hK hP (ci := 7) (q0 := 0) rfl rfl) rfl hl.1 rfl (Nat.le_of_ble_eq_true rfl) dX7_emptied_36 ⟨Nat.zero_le _, Nat.zero_le _⟩ (fun H locs hP hD hS => ?_)
            have hP : va_P g.1 vwCl (wM g ad z1 F) H := hP
            have hD : va_D Z (wM g ad z1 F) := hD
            refine lv_iinc (v := q1.1 + 1) (lv' := [(3, .int (q1.1 + 1)), (0, .ref (ad 0)), (1, .int p0), (2, .int p1)]) hx hb dX7_emptied_39 hl (k := 0) rfl rfl (by decide) rfl (fun ls hl => ?_)
            refine lv_goto (tgt := 2) hx hb dX7_emptied_42 (by decide) ?_
            exact hin1 H locs ls _ (Option.some.inj hst1).symm hP hD hS (lv_sub hl [0, 1, 2, 3] rfl)
def sX7_ends_L11 (q1 : Int32 × IA) : Option ((Int32 × IA) ⊕ (IA)) :=
  if 10 ≤ q1.1 then (some (.inr q1.2)) else ((sX7_ofRegion q1.2 q1.1 0).bind fun x1 => if x1 = 2 then ((sX7_blackCells q1.2 q1.1).bind fun x2 => (sX7_setsRegion q1.2 q1.1 2 x2).bind fun z1 => some (.inl (q1.1 + 1, z1))) else (some (.inl (q1.1 + 1, q1.2))))
def sX7_ends_L46 (q3 : Int32 × IA) : Option ((Int32 × IA) ⊕ (IA)) :=
  if 10 ≤ q3.1 then (some (.inr q3.2)) else ((sX7_ofRegion q3.2 q3.1 0).bind fun x3 => if x3 = 2 then ((sX7_blackCells q3.2 q3.1).bind fun x4 => if x4 = 0 then ((sX7_emptied q3.2 q3.1 0).bind fun z2 => (sX7_becomesFree z2 q3.1).bind fun z3 => some (.inl (q3.1 + 1, z3))) else (some (.inl (q3.1 + 1, q3.2)))) else (if x3 = 3 then ((sX7_blackCells q3.2 q3.1).bind fun x5 => if x5 = 0 then ((sX7_emptied q3.2 q3.1 0).bind fun z4 => (sX7_becomesFree z4 q3.1).bind fun z5 => some (.inl (q3.1 + 1, z5))) else (some (.inl (q3.1 + 1, q3.2)))) else (some (.inl (q3.1 + 1, q3.2)))))
def sX7_ends (A : IA) : Option (IA) :=
  bd (wr A 1 (Int32.toNatClampNeg 292) 0) fun A1 => (loopN (sX7_ends_L11) 2000 (0, A1)).bind fun q2 => (loopN (sX7_ends_L46) 2000 (0, q2)).bind fun q4 => some q4
abbrev rmX7_ends : Room := { frames := 4, cells := 0, slots := 0, locals := 91 }
theorem hdX7_ends : yX7_ends.cls = RX7 ∧ yX7_ends.cls ≠ "java/lang/invoke/MethodHandle" ∧ yX7_ends.cls ≠ "java/lang/invoke/VarHandle" ∧ (parseMethodDescriptor yX7_ends.desc).map (fun d => d.parameters.length) = some 0 := by decide +kernel
set_option maxHeartbeats 4000000 in
set_option maxRecDepth 100000 in
theorem kX7_ends {l : Launch} {g : GG} {sz : Nat} {ad : Nat → Nat} {A : IA} {F : FA} {b : IA} (hsem : sX7_ends A = some b) : MetV l yX7_ends wsX7_ends rmX7_ends g [.ref (ad 0)] (wM g ad A F) sz (wM g ad b F) := by
  refine Met.ofW (cc := cX7_ends) (maxL := 3) (ret := none) (by decide) rfl ?_
  intro p e s m args below meth c s₁ B hml hv
  obtain ⟨rfl, hsz, hP, hD0, hKK⟩ := hv
  subst hsz
  have hx := B.exec
  have hb := B.bytes
  have hr := B.returns
  have hts := atoms_spec (ws := wsX7_ends) B.pre
  have hown : s.vm.findClass RX7 = some m.cls := findClass_of_methodNamed B.named
  have hlocks := B.notSynchronized
  have hK := hKK.1
  have hD := hD0.self (sz := s.heap.size)
  generalize hZe : va_A (wM g ad A F) s.heap.size = Z at hD ⊢
  have hZ : ∀ q : Nat, s.heap.size ≤ q → Z q := fun q h => by rw [← hZe]; exact Or.inr h
  have hS : va_S Z s.heap s.heap [] := va_S.rf
  have hP : va_P g.1 vwCl (wM g ad A F) s.heap := hP
  have hD : va_D Z (wM g ad A F) := hD
  have hl := lv_entry ([.ref (ad 0)]) (n := 3) (Nat.le_of_ble_eq_true rfl)
  rw [lg_entry_eq]
  generalize (lg_sl ([.ref (ad 0)]) ++ List.replicate (3 - (lg_sl ([.ref (ad 0)])).length) Slot.unset).toArray = ls at hl ⊢
  have hl : lv_has ls 3 [(0, .ref (ad 0))] := hl
  unfold sX7_ends at hsem
  refine lv_aload_n hx hb dX7_ends_0 rfl (lv_at hl 0 rfl) ?_
  refine va_get (D := g.1) (ci := 7) (v := .ref (ad 1)) (C := RX7) (T := TX7) (N := 26) hx hb hts (fun w h => List.mem_cons_of_mem _ (List.mem_append_right _ h)) hown hK hP 0 rfl rfl 1 (by decide) (hts (.fieldLink RX7 7 "PauseRegionsModel" "s" "[I") (List.mem_of_getElem? (i := 1) rfl)) (fun _ h9 => h9) rfl dX7_ends_1 ?_
  refine lv_sipush (v := 292) hx hb dX7_ends_4 (by decide) ?_
  refine lv_iconst (v := 0) hx hb dX7_ends_7 (by decide) ?_
  have h1 : vp_in 292 296 := inb_vp rfl
  refine va_iast (D := g.1) hx hb hK hP hD hS 1 0 rfl rfl h1 dX7_ends_8 (fun H locs hP hD hS => ?_)
  obtain ⟨A1, eA1, hsem⟩ := bd_some hsem
  have hP : va_P g.1 vwCl (wM g ad A1 F) H := by rw [eA1]; exact hP
  have hD : va_D Z (wM g ad A1 F) := by rw [eA1]; exact hD
  refine lv_iconst (v := 0) hx hb dX7_ends_9 (by decide) ?_
  refine lv_istore_n (lv' := [(1, .int 0), (0, .ref (ad 0))]) hx hb dX7_ends_10 rfl hl (by decide) rfl (fun ls hl => ?_)
  obtain ⟨q2, hc4, hsem⟩ := bn_some hsem
  refine loopM (g := g) hc4 (fun (q1 : Int32 × IA) => [(1, .int q1.1), (0, .ref (ad 0))]) (fun (q1 : IA) => [(0, .ref (ad 0))]) (exit := 44) (fun (q1 : Int32 × IA) => wM g ad q1.2 F) (fun (q1 : IA) => wM g ad q1 F) hP hD hS (lv_sub hl [0, 1] rfl) (fun H locs ls hP hD hS hl => ?_) (fun q1 r hst1 hin1 hout1 H locs ls hP hD hS hl => ?_)
  · have hP : va_P g.1 vwCl (wM g ad q2 F) H := hP
    have hD : va_D Z (wM g ad q2 F) := hD
    refine lv_iconst (v := 0) hx hb dX7_ends_44 (by decide) ?_
    refine lv_istore_n (lv' := [(1, .int 0), (0, .ref (ad 0))]) hx hb dX7_ends_45 rfl hl (by decide) rfl (fun ls hl => ?_)
    obtain ⟨q4, hc12, hsem⟩ := bn_some hsem
    refine loopM (g := g) hc12 (fun (q3 : Int32 × IA) => [(1, .int q3.1), (0, .ref (ad 0))]) (fun (q3 : IA) => []) (exit := 94) (fun (q3 : Int32 × IA) => wM g ad q3.2 F) (fun (q3 : IA) => wM g ad q3 F) hP hD hS (lv_sub hl [0, 1] rfl) (fun H locs ls hP hD hS hl => ?_) (fun q3 r hst1 hin1 hout1 H locs ls hP hD hS hl => ?_)
    · have hP : va_P g.1 vwCl (wM g ad q4 F) H := hP
      have hD : va_D Z (wM g ad q4 F) := hD
      have eo := (Option.some.inj hsem).symm.symm
      subst eo
      exact W.vret hx hb hr (fun t ht hW => ⟨⟨(), rfl, trivial, ⟨by rw [ht]; exact hP, hD⟩⟩, hS.F ht⟩) hS.2.2 dX7_ends_94
    · unfold sX7_ends_L46 at hst1
      have hP : va_P g.1 vwCl (wM g ad q3.2 F) H := hP
      have hD : va_D Z (wM g ad q3.2 F) := hD
      refine lv_iload_n hx hb dX7_ends_46 rfl (lv_at hl 0 rfl) ?_
      refine lv_bipush (v := 10) hx hb dX7_ends_47 (by decide) ?_
      refine lv_icmp_ge (tgt := 94) hx hb dX7_ends_49 (by decide) (fun c3 => ?_) (fun c3 => ?_)
      · rw [if_pos c3] at hst1
        exact hout1 H locs ls _ (Option.some.inj hst1).symm hP hD hS (lv_sub hl [] rfl)
      · rw [if_neg c3] at hst1
        refine lv_aload_n hx hb dX7_ends_52 rfl (lv_at hl 1 rfl) ?_
        refine lv_iload_n hx hb dX7_ends_53 rfl (lv_at hl 0 rfl) ?_
        refine lv_iconst (v := 0) hx hb dX7_ends_54 (by decide) ?_
        obtain ⟨x3, hc5, hst1⟩ := bn_some hst1
        refine pcV (C := RX7) (As := [.int q3.1, .int 0]) (rest := []) ⟨hx, hb, hml, hown, hts⟩ hKK (cwV 2 hts gX7_ends_X7_ofRegion rfl rfl rfl hdX7_ofRegion ⟨Nat.le_of_ble_eq_true rfl, Nat.le_of_ble_eq_true rfl⟩) (kX7_ofRegion (l := l) (g := g) hP hc5) (va_recv hK hP (ci := 7) (q0 := 0) rfl rfl) rfl hl.1 rfl (Nat.le_of_ble_eq_true rfl) dX7_ends_55 ⟨Nat.zero_le _, Nat.zero_le _⟩ ?_
        refine lv_istore_n (lv' := [(2, .int x3), (1, .int q3.1), (0, .ref (ad 0))]) hx hb dX7_ends_58 rfl hl (by decide) rfl (fun ls hl => ?_)
        refine lv_iload_n hx hb dX7_ends_59 rfl (lv_at hl 0 rfl) ?_
        refine lv_iconst (v := 2) hx hb dX7_ends_60 (by decide) ?_
        refine lv_icmp_eq (tgt := 69) hx hb dX7_ends_61 (by decide) (fun c4 => ?_) (fun c4 => ?_)
        · rw [if_pos c4] at hst1
          refine lv_aload_n hx hb dX7_ends_69 rfl (lv_at hl 2 rfl) ?_
          refine lv_iload_n hx hb dX7_ends_70 rfl (lv_at hl 1 rfl) ?_
          obtain ⟨x4, hc6, hst1⟩ := bn_some hst1
          refine pcV (C := RX7) (As := [.int q3.1]) (rest := []) ⟨hx, hb, hml, hown, hts⟩ hKK (cwV 1 hts gX7_ends_X7_blackCells rfl rfl rfl hdX7_blackCells ⟨Nat.le_of_ble_eq_true rfl, Nat.le_of_ble_eq_true rfl⟩) (kX7_blackCells (l := l) (g := g) hP hc6) (va_recv hK hP (ci := 7) (q0 := 0) rfl rfl) rfl hl.1 rfl (Nat.le_of_ble_eq_true rfl) dX7_ends_71 ⟨Nat.zero_le _, Nat.zero_le _⟩ ?_
          refine lv_if_ne (tgt := 88) hx hb dX7_ends_74 (by decide) (fun c5 => ?_) (fun c5 => ?_)
          · rw [if_neg c5] at hst1
            refine lv_iinc (v := q3.1 + 1) (lv' := [(1, .int (q3.1 + 1)), (2, .int x3), (0, .ref (ad 0))]) hx hb dX7_ends_88 hl (k := 1) rfl rfl (by decide) rfl (fun ls hl => ?_)
            refine lv_goto (tgt := 46) hx hb dX7_ends_91 (by decide) ?_
            exact hin1 H locs ls _ (Option.some.inj hst1).symm hP hD hS (lv_sub hl [0, 2] rfl)
          · rw [if_pos c5] at hst1
            refine lv_aload_n hx hb dX7_ends_77 rfl (lv_at hl 2 rfl) ?_
            refine lv_iload_n hx hb dX7_ends_78 rfl (lv_at hl 1 rfl) ?_
            refine lv_iconst (v := 0) hx hb dX7_ends_79 (by decide) ?_
            obtain ⟨z2, hc7, hst1⟩ := bn_some hst1
            refine mcV (C := RX7) (As := [.int q3.1, .int 0]) (rest := []) ⟨hx, hb, hml, hown, hts⟩ hKK hP hD hS hZ (cwV 2 hts gX7_ends_X7_emptied rfl rfl rfl hdX7_emptied ⟨Nat.le_of_ble_eq_true rfl, Nat.le_of_ble_eq_true rfl⟩) (kX7_emptied (l := l) (g := g) (ad := ad) (A := q3.2) (F := F) hc7) (va_recv hK hP (ci := 7) (q0 := 0) rfl rfl) rfl hl.1 rfl (Nat.le_of_ble_eq_true rfl) dX7_ends_80 ⟨Nat.zero_le _, Nat.zero_le _⟩ (fun H locs hP hD hS => ?_)
            have hP : va_P g.1 vwCl (wM g ad z2 F) H := hP
            have hD : va_D Z (wM g ad z2 F) := hD
            refine lv_aload_n hx hb dX7_ends_83 rfl (lv_at hl 2 rfl) ?_
            refine lv_iload_n hx hb dX7_ends_84 rfl (lv_at hl 1 rfl) ?_
            obtain ⟨z3, hc8, hst1⟩ := bn_some hst1
            refine mcV (C := RX7) (As := [.int q3.1]) (rest := []) ⟨hx, hb, hml, hown, hts⟩ hKK hP hD hS hZ (cwV 1 hts gX7_ends_X7_becomesFree rfl rfl rfl hdX7_becomesFree ⟨Nat.le_of_ble_eq_true rfl, Nat.le_of_ble_eq_true rfl⟩) (kX7_becomesFree (l := l) (g := g) (ad := ad) (A := z2) (F := F) hc8) (va_recv hK hP (ci := 7) (q0 := 0) rfl rfl) rfl hl.1 rfl (Nat.le_of_ble_eq_true rfl) dX7_ends_85 ⟨Nat.zero_le _, Nat.zero_le _⟩ (fun H locs hP hD hS => ?_)
            have hP : va_P g.1 vwCl (wM g ad z3 F) H := hP
            have hD : va_D Z (wM g ad z3 F) := hD
            refine lv_iinc (v := q3.1 + 1) (lv' := [(1, .int (q3.1 + 1)), (2, .int x3), (0, .ref (ad 0))]) hx hb dX7_ends_88 hl (k := 1) rfl rfl (by decide) rfl (fun ls hl => ?_)
            refine lv_goto (tgt := 46) hx hb dX7_ends_91 (by decide) ?_
            exact hin1 H locs ls _ (Option.some.inj hst1).symm hP hD hS (lv_sub hl [0, 2] rfl)
        · rw [if_neg c4] at hst1
          refine lv_iload_n hx hb dX7_ends_64 rfl (lv_at hl 0 rfl) ?_
          refine lv_iconst (v := 3) hx hb dX7_ends_65 (by decide) ?_
          refine lv_icmp_ne (tgt := 88) hx hb dX7_ends_66 (by decide) (fun c6 => ?_) (fun c6 => ?_)
          · rw [if_neg c6] at hst1
            refine lv_iinc (v := q3.1 + 1) (lv' := [(1, .int (q3.1 + 1)), (2, .int x3), (0, .ref (ad 0))]) hx hb dX7_ends_88 hl (k := 1) rfl rfl (by decide) rfl (fun ls hl => ?_)
            refine lv_goto (tgt := 46) hx hb dX7_ends_91 (by decide) ?_
            exact hin1 H locs ls _ (Option.some.inj hst1).symm hP hD hS (lv_sub hl [0, 2] rfl)
          · rw [if_pos c6] at hst1
            refine lv_aload_n hx hb dX7_ends_69 rfl (lv_at hl 2 rfl) ?_
            refine lv_iload_n hx hb dX7_ends_70 rfl (lv_at hl 1 rfl) ?_
            obtain ⟨x5, hc9, hst1⟩ := bn_some hst1
            refine pcV (C := RX7) (As := [.int q3.1]) (rest := []) ⟨hx, hb, hml, hown, hts⟩ hKK (cwV 1 hts gX7_ends_X7_blackCells rfl rfl rfl hdX7_blackCells ⟨Nat.le_of_ble_eq_true rfl, Nat.le_of_ble_eq_true rfl⟩) (kX7_blackCells (l := l) (g := g) hP hc9) (va_recv hK hP (ci := 7) (q0 := 0) rfl rfl) rfl hl.1 rfl (Nat.le_of_ble_eq_true rfl) dX7_ends_71 ⟨Nat.zero_le _, Nat.zero_le _⟩ ?_
            refine lv_if_ne (tgt := 88) hx hb dX7_ends_74 (by decide) (fun c7 => ?_) (fun c7 => ?_)
            · rw [if_neg c7] at hst1
              refine lv_iinc (v := q3.1 + 1) (lv' := [(1, .int (q3.1 + 1)), (2, .int x3), (0, .ref (ad 0))]) hx hb dX7_ends_88 hl (k := 1) rfl rfl (by decide) rfl (fun ls hl => ?_)
              refine lv_goto (tgt := 46) hx hb dX7_ends_91 (by decide) ?_
              exact hin1 H locs ls _ (Option.some.inj hst1).symm hP hD hS (lv_sub hl [0, 2] rfl)
            · rw [if_pos c7] at hst1
              refine lv_aload_n hx hb dX7_ends_77 rfl (lv_at hl 2 rfl) ?_
              refine lv_iload_n hx hb dX7_ends_78 rfl (lv_at hl 1 rfl) ?_
              refine lv_iconst (v := 0) hx hb dX7_ends_79 (by decide) ?_
              obtain ⟨z4, hc10, hst1⟩ := bn_some hst1
              refine mcV (C := RX7) (As := [.int q3.1, .int 0]) (rest := []) ⟨hx, hb, hml, hown, hts⟩ hKK hP hD hS hZ (cwV 2 hts gX7_ends_X7_emptied rfl rfl rfl hdX7_emptied ⟨Nat.le_of_ble_eq_true rfl, Nat.le_of_ble_eq_true rfl⟩) (kX7_emptied (l := l) (g := g) (ad := ad) (A := q3.2) (F := F) hc10) (va_recv hK hP (ci := 7) (q0 := 0) rfl rfl) rfl hl.1 rfl (Nat.le_of_ble_eq_true rfl) dX7_ends_80 ⟨Nat.zero_le _, Nat.zero_le _⟩ (fun H locs hP hD hS => ?_)
              have hP : va_P g.1 vwCl (wM g ad z4 F) H := hP
              have hD : va_D Z (wM g ad z4 F) := hD
              refine lv_aload_n hx hb dX7_ends_83 rfl (lv_at hl 2 rfl) ?_
              refine lv_iload_n hx hb dX7_ends_84 rfl (lv_at hl 1 rfl) ?_
              obtain ⟨z5, hc11, hst1⟩ := bn_some hst1
              refine mcV (C := RX7) (As := [.int q3.1]) (rest := []) ⟨hx, hb, hml, hown, hts⟩ hKK hP hD hS hZ (cwV 1 hts gX7_ends_X7_becomesFree rfl rfl rfl hdX7_becomesFree ⟨Nat.le_of_ble_eq_true rfl, Nat.le_of_ble_eq_true rfl⟩) (kX7_becomesFree (l := l) (g := g) (ad := ad) (A := z4) (F := F) hc11) (va_recv hK hP (ci := 7) (q0 := 0) rfl rfl) rfl hl.1 rfl (Nat.le_of_ble_eq_true rfl) dX7_ends_85 ⟨Nat.zero_le _, Nat.zero_le _⟩ (fun H locs hP hD hS => ?_)
              have hP : va_P g.1 vwCl (wM g ad z5 F) H := hP
              have hD : va_D Z (wM g ad z5 F) := hD
              refine lv_iinc (v := q3.1 + 1) (lv' := [(1, .int (q3.1 + 1)), (2, .int x3), (0, .ref (ad 0))]) hx hb dX7_ends_88 hl (k := 1) rfl rfl (by decide) rfl (fun ls hl => ?_)
              refine lv_goto (tgt := 46) hx hb dX7_ends_91 (by decide) ?_
              exact hin1 H locs ls _ (Option.some.inj hst1).symm hP hD hS (lv_sub hl [0, 2] rfl)
  · unfold sX7_ends_L11 at hst1
    have hP : va_P g.1 vwCl (wM g ad q1.2 F) H := hP
    have hD : va_D Z (wM g ad q1.2 F) := hD
    refine lv_iload_n hx hb dX7_ends_11 rfl (lv_at hl 0 rfl) ?_
    refine lv_bipush (v := 10) hx hb dX7_ends_12 (by decide) ?_
    refine lv_icmp_ge (tgt := 44) hx hb dX7_ends_14 (by decide) (fun c1 => ?_) (fun c1 => ?_)
    · rw [if_pos c1] at hst1
      exact hout1 H locs ls _ (Option.some.inj hst1).symm hP hD hS (lv_sub hl [1] rfl)
    · rw [if_neg c1] at hst1
      refine lv_aload_n hx hb dX7_ends_17 rfl (lv_at hl 1 rfl) ?_
      refine lv_iload_n hx hb dX7_ends_18 rfl (lv_at hl 0 rfl) ?_
      refine lv_iconst (v := 0) hx hb dX7_ends_19 (by decide) ?_
      obtain ⟨x1, hc1, hst1⟩ := bn_some hst1
      refine pcV (C := RX7) (As := [.int q1.1, .int 0]) (rest := []) ⟨hx, hb, hml, hown, hts⟩ hKK (cwV 2 hts gX7_ends_X7_ofRegion rfl rfl rfl hdX7_ofRegion ⟨Nat.le_of_ble_eq_true rfl, Nat.le_of_ble_eq_true rfl⟩) (kX7_ofRegion (l := l) (g := g) hP hc1) (va_recv hK hP (ci := 7) (q0 := 0) rfl rfl) rfl hl.1 rfl (Nat.le_of_ble_eq_true rfl) dX7_ends_20 ⟨Nat.zero_le _, Nat.zero_le _⟩ ?_
      refine lv_iconst (v := 2) hx hb dX7_ends_23 (by decide) ?_
      refine lv_icmp_ne (tgt := 38) hx hb dX7_ends_24 (by decide) (fun c2 => ?_) (fun c2 => ?_)
      · rw [if_neg c2] at hst1
        refine lv_iinc (v := q1.1 + 1) (lv' := [(1, .int (q1.1 + 1)), (0, .ref (ad 0))]) hx hb dX7_ends_38 hl (k := 0) rfl rfl (by decide) rfl (fun ls hl => ?_)
        refine lv_goto (tgt := 11) hx hb dX7_ends_41 (by decide) ?_
        exact hin1 H locs ls _ (Option.some.inj hst1).symm hP hD hS (lv_sub hl [0, 1] rfl)
      · rw [if_pos c2] at hst1
        refine lv_aload_n hx hb dX7_ends_27 rfl (lv_at hl 1 rfl) ?_
        refine lv_iload_n hx hb dX7_ends_28 rfl (lv_at hl 0 rfl) ?_
        refine lv_iconst (v := 2) hx hb dX7_ends_29 (by decide) ?_
        refine lv_aload_n hx hb dX7_ends_30 rfl (lv_at hl 1 rfl) ?_
        refine lv_iload_n hx hb dX7_ends_31 rfl (lv_at hl 0 rfl) ?_
        obtain ⟨x2, hc2, hst1⟩ := bn_some hst1
        refine pcV (C := RX7) (As := [.int q1.1]) (rest := [.int 2, .int q1.1, .ref (ad 0)]) ⟨hx, hb, hml, hown, hts⟩ hKK (cwV 1 hts gX7_ends_X7_blackCells rfl rfl rfl hdX7_blackCells ⟨Nat.le_of_ble_eq_true rfl, Nat.le_of_ble_eq_true rfl⟩) (kX7_blackCells (l := l) (g := g) hP hc2) (va_recv hK hP (ci := 7) (q0 := 0) rfl rfl) rfl hl.1 rfl (Nat.le_of_ble_eq_true rfl) dX7_ends_32 ⟨Nat.zero_le _, Nat.zero_le _⟩ ?_
        obtain ⟨z1, hc3, hst1⟩ := bn_some hst1
        refine mcV (C := RX7) (As := [.int q1.1, .int 2, .int x2]) (rest := []) ⟨hx, hb, hml, hown, hts⟩ hKK hP hD hS hZ (cwV 3 hts gX7_ends_X7_setsRegion rfl rfl rfl hdX7_setsRegion ⟨Nat.le_of_ble_eq_true rfl, Nat.le_of_ble_eq_true rfl⟩) (kX7_setsRegion (l := l) (g := g) (ad := ad) (A := q1.2) (F := F) hc3) (va_recv hK hP (ci := 7) (q0 := 0) rfl rfl) rfl hl.1 rfl (Nat.le_of_ble_eq_true rfl) dX7_ends_35 ⟨Nat.zero_le _, Nat.zero_le _⟩ (fun H locs hP hD hS => ?_)
        have hP : va_P g.1 vwCl (wM g ad z1 F) H := hP
        have hD : va_D Z (wM g ad z1 F) := hD
        refine lv_iinc (v := q1.1 + 1) (lv' := [(1, .int (q1.1 + 1)), (0, .ref (ad 0))]) hx hb dX7_ends_38 hl (k := 0) rfl rfl (by decide) rfl (fun ls hl => ?_)
        refine lv_goto (tgt := 11) hx hb dX7_ends_41 (by decide) ?_
        exact hin1 H locs ls _ (Option.some.inj hst1).symm hP hD hS (lv_sub hl [0, 1] rfl)
def sX7_begins_L44 (q1 : Int32 × IA) : Option ((Int32 × IA) ⊕ (IA)) :=
  if 32 ≤ q1.1 then (some (.inr q1.2)) else (ck ((6 * q1.1) + 5) 296 (bd (wr q1.2 1 (((6 * q1.1) + 5).toNatClampNeg) 0) fun A4 => some (.inl (q1.1 + 1, A4))))
def sX7_begins_L70 (q3 : Int32 × IA) : Option ((Int32 × IA) ⊕ (IA)) :=
  if 6 ≤ q3.1 then (some (.inr q3.2)) else (ck (192 + q3.1) 296 ((sX7_becomesGrey q3.2 ((q3.2 1) (192 + q3.1).toNatClampNeg)).bind fun z2 => some (.inl (q3.1 + 1, z2))))
def sX7_begins (A : IA) (Fc : FA) : Option (Int32 × IA × FA) :=
  bd (sc A 0 0) fun A1 => if ((A1 1) (Int32.toNatClampNeg 292)) = 1 then (some (((-2), A1, Fc))) else ((sX7_notes A1 Fc).bind fun z1 => bd (wr z1.1 1 (Int32.toNatClampNeg 292) 1) fun A2 => bd (wr A2 1 (Int32.toNatClampNeg 291) 0) fun A3 => (loopN (sX7_begins_L44) 2000 (0, A3)).bind fun q2 => (loopN (sX7_begins_L70) 2000 (0, q2)).bind fun q4 => if ((q4 1) (Int32.toNatClampNeg 291)) = 0 then ((sX7_ends q4).bind fun z3 => some (((z3 1) (Int32.toNatClampNeg 291), z3, z1.2))) else (some (((q4 1) (Int32.toNatClampNeg 291), q4, z1.2))))
abbrev rmX7_begins : Room := { frames := 5, cells := 0, slots := 0, locals := 113 }
theorem hdX7_begins : yX7_begins.cls = RX7 ∧ yX7_begins.cls ≠ "java/lang/invoke/MethodHandle" ∧ yX7_begins.cls ≠ "java/lang/invoke/VarHandle" ∧ (parseMethodDescriptor yX7_begins.desc).map (fun d => d.parameters.length) = some 0 := by decide +kernel
set_option maxHeartbeats 4000000 in
set_option maxRecDepth 100000 in
theorem kX7_begins {l : Launch} {g : GG} {sz : Nat} {ad : Nat → Nat} {A : IA} {F : FA} {Fc : FA} (hAL : AL F Fc) {b : Int32 × IA × FA} (hsem : sX7_begins A Fc = some b) : MetDI l yX7_begins wsX7_begins rmX7_begins g [.ref (ad 0)] (wM g ad A F) sz b.1 (φ := FA) (fun u => AL u b.2.2) (fun u => wM g ad b.2.1 u) := by
  refine MetD.ofW (cc := cX7_begins) (maxL := 2) (ret := (some .int)) (by decide) rfl ?_
  intro p e s m args below meth c s₁ B hml hv hdr
  obtain ⟨rfl, hsz, hP, hD0, hKK⟩ := hv
  subst hsz
  have hx := B.exec
  have hb := B.bytes
  have hr := B.returns
  have hts := atoms_spec (ws := wsX7_begins) B.pre
  have hown : ∀ d, (s.setDrawn d).vm.findClass RX7 = some m.cls := fun _ => findClass_of_methodNamed B.named
  have hlocks := B.notSynchronized
  have hK : ∀ d, va_K g.1 vwCl (KT g) (s.setDrawn d) := fun d => (hKK.drawn d).1
  have hD := hD0.self (sz := s.heap.size)
  generalize hZe : va_A (wM g ad A F) s.heap.size = Z at hD ⊢
  have hZ : ∀ q : Nat, s.heap.size ≤ q → Z q := fun q h => by rw [← hZe]; exact Or.inr h
  have hS : va_S Z s.heap s.heap [] := va_S.rf
  have hP : va_P g.1 vwCl (wM g ad A F) s.heap := hP
  have hD : va_D Z (wM g ad A F) := hD
  obtain ⟨d, hdr, hdd⟩ : ∃ d, s.drawn.sameBut d lw_cs ∧ s.drawn = d := ⟨_, hdr, rfl⟩
  rw [hdd]
  have hl := lv_entry ([.ref (ad 0)]) (n := 2) (Nat.le_of_ble_eq_true rfl)
  rw [lg_entry_eq]
  generalize (lg_sl ([.ref (ad 0)]) ++ List.replicate (2 - (lg_sl ([.ref (ad 0)])).length) Slot.unset).toArray = ls at hl ⊢
  have hl : lv_has ls 2 [(0, .ref (ad 0))] := hl
  unfold sX7_begins at hsem
  refine lv_aload_n hx hb dX7_begins_0 rfl (lv_at hl 0 rfl) ?_
  refine lv_iconst (v := 0) hx hb dX7_begins_1 (by decide) ?_
  refine va_put (D := g.1) (ci := 7) (v := .int 0) (ty := .int) (C := RX7) (T := TX7) (N := 26) hx hb (dr_words hts d) (fun w h => List.mem_cons_of_mem _ (List.mem_append_right _ h)) tyX7 tyX7_ok nmX7 (hown d) (hK d) hP hD hS 0 rfl rfl 0 (by decide) ((dr_words hts d) (.fieldLink RX7 55 "PauseRegionsModel" "thrown" "I") (List.mem_of_getElem? (i := 1) rfl)) (fun _ h9 => h9) rfl (by decide +kernel) rfl rfl (Nat.le_of_ble_eq_true rfl) dX7_begins_2 (fun H locs hP hD hS => ?_)
  obtain ⟨A1, eA1, hsem⟩ := bd_some hsem
  have hP : va_P g.1 vwCl (wM g ad A1 F) H := by rw [eA1]; exact hP
  have hD : va_D Z (wM g ad A1 F) := by rw [eA1]; exact hD
  refine lv_aload_n hx hb dX7_begins_5 rfl (lv_at hl 0 rfl) ?_
  refine va_get (D := g.1) (ci := 7) (v := .ref (ad 1)) (C := RX7) (T := TX7) (N := 26) hx hb (dr_words hts d) (fun w h => List.mem_cons_of_mem _ (List.mem_append_right _ h)) (hown d) (hK d) hP 0 rfl rfl 1 (by decide) ((dr_words hts d) (.fieldLink RX7 7 "PauseRegionsModel" "s" "[I") (List.mem_of_getElem? (i := 2) rfl)) (fun _ h9 => h9) rfl dX7_begins_6 ?_
  refine lv_sipush (v := 292) hx hb dX7_begins_9 (by decide) ?_
  have h1 : vp_in 292 296 := inb_vp rfl
  refine va_iald (D := g.1) hx hb (hK d) hP 1 0 rfl rfl h1 dX7_begins_12 ?_
  refine lv_iconst (v := 1) hx hb dX7_begins_13 (by decide) ?_
  refine lv_icmp_ne (tgt := 20) hx hb dX7_begins_14 (by decide) (fun c1 => ?_) (fun c1 => ?_)
  · rw [if_neg c1] at hsem
    refine lv_aload_n hx hb dX7_begins_20 rfl (lv_at hl 0 rfl) ?_
    obtain ⟨z1, hc1, hsem⟩ := bn_some hsem
    refine dcV (C := RX7) (As := []) (rest := []) hdr ⟨hx, hb, hml, (hown d), (dr_words hts d)⟩ (hKK.drawn d) hP hD hS hZ (cwV 0 (dr_words hts d) gX7_begins_X7_notes rfl rfl rfl hdX7_notes ⟨Nat.le_of_ble_eq_true rfl, Nat.le_of_ble_eq_true rfl⟩) (kX7_notes (l := l) (g := g) (ad := ad) (A := A1) (F := F) (Fc := Fc) hAL hc1) (va_recv (hK d) hP (ci := 7) (q0 := 0) rfl rfl) rfl hl.1 rfl (Nat.le_of_ble_eq_true rfl) dX7_begins_21 ⟨Nat.zero_le _, Nat.zero_le _⟩ (fun u1 H locs d hpo hP hD hS hdr => ?_)
    have hq1 := hpo
    have hP : va_P g.1 vwCl (wM g ad z1.1 u1) H := hP
    have hD : va_D Z (wM g ad z1.1 u1) := hD
    refine lv_aload_n hx hb dX7_begins_24 rfl (lv_at hl 0 rfl) ?_
    refine va_get (D := g.1) (ci := 7) (v := .ref (ad 1)) (C := RX7) (T := TX7) (N := 26) hx hb (dr_words hts d) (fun w h => List.mem_cons_of_mem _ (List.mem_append_right _ h)) (hown d) (hK d) hP 0 rfl rfl 1 (by decide) ((dr_words hts d) (.fieldLink RX7 7 "PauseRegionsModel" "s" "[I") (List.mem_of_getElem? (i := 2) rfl)) (fun _ h9 => h9) rfl dX7_begins_25 ?_
    refine lv_sipush (v := 292) hx hb dX7_begins_28 (by decide) ?_
    refine lv_iconst (v := 1) hx hb dX7_begins_31 (by decide) ?_
    have h2 : vp_in 292 296 := inb_vp rfl
    refine va_iast (D := g.1) hx hb (hK d) hP hD hS 1 0 rfl rfl h2 dX7_begins_32 (fun H locs hP hD hS => ?_)
    obtain ⟨A2, eA2, hsem⟩ := bd_some hsem
    have hP : va_P g.1 vwCl (wM g ad A2 u1) H := by rw [eA2]; exact hP
    have hD : va_D Z (wM g ad A2 u1) := by rw [eA2]; exact hD
    refine lv_aload_n hx hb dX7_begins_33 rfl (lv_at hl 0 rfl) ?_
    refine va_get (D := g.1) (ci := 7) (v := .ref (ad 1)) (C := RX7) (T := TX7) (N := 26) hx hb (dr_words hts d) (fun w h => List.mem_cons_of_mem _ (List.mem_append_right _ h)) (hown d) (hK d) hP 0 rfl rfl 1 (by decide) ((dr_words hts d) (.fieldLink RX7 7 "PauseRegionsModel" "s" "[I") (List.mem_of_getElem? (i := 2) rfl)) (fun _ h9 => h9) rfl dX7_begins_34 ?_
    refine lv_sipush (v := 291) hx hb dX7_begins_37 (by decide) ?_
    refine lv_iconst (v := 0) hx hb dX7_begins_40 (by decide) ?_
    have h3 : vp_in 291 296 := inb_vp rfl
    refine va_iast (D := g.1) hx hb (hK d) hP hD hS 1 0 rfl rfl h3 dX7_begins_41 (fun H locs hP hD hS => ?_)
    obtain ⟨A3, eA3, hsem⟩ := bd_some hsem
    have hP : va_P g.1 vwCl (wM g ad A3 u1) H := by rw [eA3]; exact hP
    have hD : va_D Z (wM g ad A3 u1) := by rw [eA3]; exact hD
    refine lv_iconst (v := 0) hx hb dX7_begins_42 (by decide) ?_
    refine lv_istore_n (lv' := [(1, .int 0), (0, .ref (ad 0))]) hx hb dX7_begins_43 rfl hl (by decide) rfl (fun ls hl => ?_)
    obtain ⟨q2, hc2, hsem⟩ := bn_some hsem
    refine loopMD (g := g) hdr hc2 (fun (q1 : Int32 × IA) => [(1, .int q1.1), (0, .ref (ad 0))]) (fun (q1 : IA) => [(0, .ref (ad 0))]) (exit := 68) (fun (q1 : Int32 × IA) (fz1 : Unit) => wM g ad q1.2 u1) (fun (q1 : IA) (fz1 : Unit) => wM g ad q1 u1) (fun (_ : Int32 × IA) (_ : Unit) => True) (fun (_ : IA) (_ : Unit) => True) () trivial hP hD hS (lv_sub hl [0, 1] rfl) (fun d H locs ls fz1 hdr hrfz1 hP hD hS hl => ?_) (fun q1 r hst1 hin1 hout1 d H locs ls fz1 hdr hrfz1 hP hD hS hl => ?_)
    · have hP : va_P g.1 vwCl (wM g ad q2 u1) H := hP
      have hD : va_D Z (wM g ad q2 u1) := hD
      refine lv_iconst (v := 0) hx hb dX7_begins_68 (by decide) ?_
      refine lv_istore_n (lv' := [(1, .int 0), (0, .ref (ad 0))]) hx hb dX7_begins_69 rfl hl (by decide) rfl (fun ls hl => ?_)
      obtain ⟨q4, hc4, hsem⟩ := bn_some hsem
      refine loopMD (g := g) hdr hc4 (fun (q3 : Int32 × IA) => [(1, .int q3.1), (0, .ref (ad 0))]) (fun (q3 : IA) => [(0, .ref (ad 0))]) (exit := 96) (fun (q3 : Int32 × IA) (fz2 : Unit) => wM g ad q3.2 u1) (fun (q3 : IA) (fz2 : Unit) => wM g ad q3 u1) (fun (_ : Int32 × IA) (_ : Unit) => True) (fun (_ : IA) (_ : Unit) => True) () trivial hP hD hS (lv_sub hl [0, 1] rfl) (fun d H locs ls fz2 hdr hrfz2 hP hD hS hl => ?_) (fun q3 r hst1 hin1 hout1 d H locs ls fz2 hdr hrfz2 hP hD hS hl => ?_)
      · have hP : va_P g.1 vwCl (wM g ad q4 u1) H := hP
        have hD : va_D Z (wM g ad q4 u1) := hD
        refine lv_aload_n hx hb dX7_begins_96 rfl (lv_at hl 0 rfl) ?_
        refine va_get (D := g.1) (ci := 7) (v := .ref (ad 1)) (C := RX7) (T := TX7) (N := 26) hx hb (dr_words hts d) (fun w h => List.mem_cons_of_mem _ (List.mem_append_right _ h)) (hown d) (hK d) hP 0 rfl rfl 1 (by decide) ((dr_words hts d) (.fieldLink RX7 7 "PauseRegionsModel" "s" "[I") (List.mem_of_getElem? (i := 2) rfl)) (fun _ h9 => h9) rfl dX7_begins_97 ?_
        refine lv_sipush (v := 291) hx hb dX7_begins_100 (by decide) ?_
        have h6 : vp_in 291 296 := inb_vp rfl
        refine va_iald (D := g.1) hx hb (hK d) hP 1 0 rfl rfl h6 dX7_begins_103 ?_
        refine lv_if_ne (tgt := 111) hx hb dX7_begins_104 (by decide) (fun c4 => ?_) (fun c4 => ?_)
        · rw [if_neg c4] at hsem
          refine lv_aload_n hx hb dX7_begins_111 rfl (lv_at hl 0 rfl) ?_
          refine va_get (D := g.1) (ci := 7) (v := .ref (ad 1)) (C := RX7) (T := TX7) (N := 26) hx hb (dr_words hts d) (fun w h => List.mem_cons_of_mem _ (List.mem_append_right _ h)) (hown d) (hK d) hP 0 rfl rfl 1 (by decide) ((dr_words hts d) (.fieldLink RX7 7 "PauseRegionsModel" "s" "[I") (List.mem_of_getElem? (i := 2) rfl)) (fun _ h9 => h9) rfl dX7_begins_112 ?_
          refine lv_sipush (v := 291) hx hb dX7_begins_115 (by decide) ?_
          have h7 : vp_in 291 296 := inb_vp rfl
          refine va_iald (D := g.1) hx hb (hK d) hP 1 0 rfl rfl h7 dX7_begins_118 ?_
          have eo := (Option.some.inj hsem).symm.symm
          refine W.endD hdr ?_
          subst eo
          exact W.iret (v := (q4 1) (Int32.toNatClampNeg 291)) hx hb hr (fun t ht hW => ⟨⟨_, u1, rfl, ⟨rfl, hq1⟩, ⟨by rw [ht]; exact hP, hD⟩⟩, hS.F ht⟩) hS.2.2 dX7_begins_119
        · rw [if_pos c4] at hsem
          refine lv_aload_n hx hb dX7_begins_107 rfl (lv_at hl 0 rfl) ?_
          obtain ⟨z3, hc5, hsem⟩ := bn_some hsem
          refine mcV (C := RX7) (As := []) (rest := []) ⟨hx, hb, hml, (hown d), (dr_words hts d)⟩ (hKK.drawn d) hP hD hS hZ (cwV 0 (dr_words hts d) gX7_begins_X7_ends rfl rfl rfl hdX7_ends ⟨Nat.le_of_ble_eq_true rfl, Nat.le_of_ble_eq_true rfl⟩) (kX7_ends (l := l) (g := g) (ad := ad) (A := q4) (F := u1) hc5) (va_recv (hK d) hP (ci := 7) (q0 := 0) rfl rfl) rfl hl.1 rfl (Nat.le_of_ble_eq_true rfl) dX7_begins_108 ⟨Nat.zero_le _, Nat.zero_le _⟩ (fun H locs hP hD hS => ?_)
          have hP : va_P g.1 vwCl (wM g ad z3 u1) H := hP
          have hD : va_D Z (wM g ad z3 u1) := hD
          refine lv_aload_n hx hb dX7_begins_111 rfl (lv_at hl 0 rfl) ?_
          refine va_get (D := g.1) (ci := 7) (v := .ref (ad 1)) (C := RX7) (T := TX7) (N := 26) hx hb (dr_words hts d) (fun w h => List.mem_cons_of_mem _ (List.mem_append_right _ h)) (hown d) (hK d) hP 0 rfl rfl 1 (by decide) ((dr_words hts d) (.fieldLink RX7 7 "PauseRegionsModel" "s" "[I") (List.mem_of_getElem? (i := 2) rfl)) (fun _ h9 => h9) rfl dX7_begins_112 ?_
          refine lv_sipush (v := 291) hx hb dX7_begins_115 (by decide) ?_
          have h8 : vp_in 291 296 := inb_vp rfl
          refine va_iald (D := g.1) hx hb (hK d) hP 1 0 rfl rfl h8 dX7_begins_118 ?_
          have eo := (Option.some.inj hsem).symm.symm
          refine W.endD hdr ?_
          subst eo
          exact W.iret (v := (z3 1) (Int32.toNatClampNeg 291)) hx hb hr (fun t ht hW => ⟨⟨_, u1, rfl, ⟨rfl, hq1⟩, ⟨by rw [ht]; exact hP, hD⟩⟩, hS.F ht⟩) hS.2.2 dX7_begins_119
      · unfold sX7_begins_L70 at hst1
        have hP : va_P g.1 vwCl (wM g ad q3.2 u1) H := hP
        have hD : va_D Z (wM g ad q3.2 u1) := hD
        refine lv_iload_n hx hb dX7_begins_70 rfl (lv_at hl 0 rfl) ?_
        refine lv_bipush (v := 6) hx hb dX7_begins_71 (by decide) ?_
        refine lv_icmp_ge (tgt := 96) hx hb dX7_begins_73 (by decide) (fun c3 => ?_) (fun c3 => ?_)
        · rw [if_pos c3] at hst1
          exact hout1 _ H locs ls () _ (Option.some.inj hst1).symm hdr trivial hP hD hS (lv_sub hl [1] rfl)
        · rw [if_neg c3] at hst1
          refine lv_aload_n hx hb dX7_begins_76 rfl (lv_at hl 1 rfl) ?_
          refine lv_aload_n hx hb dX7_begins_77 rfl (lv_at hl 1 rfl) ?_
          refine va_get (D := g.1) (ci := 7) (v := .ref (ad 1)) (C := RX7) (T := TX7) (N := 26) hx hb (dr_words hts d) (fun w h => List.mem_cons_of_mem _ (List.mem_append_right _ h)) (hown d) (hK d) hP 0 rfl rfl 1 (by decide) ((dr_words hts d) (.fieldLink RX7 7 "PauseRegionsModel" "s" "[I") (List.mem_of_getElem? (i := 2) rfl)) (fun _ h9 => h9) rfl dX7_begins_78 ?_
          refine lv_sipush (v := 192) hx hb dX7_begins_81 (by decide) ?_
          refine lv_iload_n hx hb dX7_begins_84 rfl (lv_at hl 0 rfl) ?_
          refine lv_iadd hx hb dX7_begins_85 ?_
          obtain ⟨h5, hst1⟩ := ck_some hst1
          refine va_iald (D := g.1) hx hb (hK d) hP 1 0 rfl rfl h5 dX7_begins_86 ?_
          obtain ⟨z2, hc3, hst1⟩ := bn_some hst1
          refine mcV (C := RX7) (As := [.int ((q3.2 1) (192 + q3.1).toNatClampNeg)]) (rest := []) ⟨hx, hb, hml, (hown d), (dr_words hts d)⟩ (hKK.drawn d) hP hD hS hZ (cwV 1 (dr_words hts d) gX7_begins_X7_becomesGrey rfl rfl rfl hdX7_becomesGrey ⟨Nat.le_of_ble_eq_true rfl, Nat.le_of_ble_eq_true rfl⟩) (kX7_becomesGrey (l := l) (g := g) (ad := ad) (A := q3.2) (F := u1) hc3) (va_recv (hK d) hP (ci := 7) (q0 := 0) rfl rfl) rfl hl.1 rfl (Nat.le_of_ble_eq_true rfl) dX7_begins_87 ⟨Nat.zero_le _, Nat.zero_le _⟩ (fun H locs hP hD hS => ?_)
          have hP : va_P g.1 vwCl (wM g ad z2 u1) H := hP
          have hD : va_D Z (wM g ad z2 u1) := hD
          refine lv_iinc (v := q3.1 + 1) (lv' := [(1, .int (q3.1 + 1)), (0, .ref (ad 0))]) hx hb dX7_begins_90 hl (k := 0) rfl rfl (by decide) rfl (fun ls hl => ?_)
          refine lv_goto (tgt := 70) hx hb dX7_begins_93 (by decide) ?_
          exact hin1 _ H locs ls () _ (Option.some.inj hst1).symm hdr trivial hP hD hS (lv_sub hl [0, 1] rfl)
    · unfold sX7_begins_L44 at hst1
      have hP : va_P g.1 vwCl (wM g ad q1.2 u1) H := hP
      have hD : va_D Z (wM g ad q1.2 u1) := hD
      refine lv_iload_n hx hb dX7_begins_44 rfl (lv_at hl 0 rfl) ?_
      refine lv_bipush (v := 32) hx hb dX7_begins_45 (by decide) ?_
      refine lv_icmp_ge (tgt := 68) hx hb dX7_begins_47 (by decide) (fun c2 => ?_) (fun c2 => ?_)
      · rw [if_pos c2] at hst1
        exact hout1 _ H locs ls () _ (Option.some.inj hst1).symm hdr trivial hP hD hS (lv_sub hl [1] rfl)
      · rw [if_neg c2] at hst1
        refine lv_aload_n hx hb dX7_begins_50 rfl (lv_at hl 1 rfl) ?_
        refine va_get (D := g.1) (ci := 7) (v := .ref (ad 1)) (C := RX7) (T := TX7) (N := 26) hx hb (dr_words hts d) (fun w h => List.mem_cons_of_mem _ (List.mem_append_right _ h)) (hown d) (hK d) hP 0 rfl rfl 1 (by decide) ((dr_words hts d) (.fieldLink RX7 7 "PauseRegionsModel" "s" "[I") (List.mem_of_getElem? (i := 2) rfl)) (fun _ h9 => h9) rfl dX7_begins_51 ?_
        refine lv_bipush (v := 6) hx hb dX7_begins_54 (by decide) ?_
        refine lv_iload_n hx hb dX7_begins_56 rfl (lv_at hl 0 rfl) ?_
        refine lv_imul hx hb dX7_begins_57 ?_
        refine lv_iconst (v := 5) hx hb dX7_begins_58 (by decide) ?_
        refine lv_iadd hx hb dX7_begins_59 ?_
        refine lv_iconst (v := 0) hx hb dX7_begins_60 (by decide) ?_
        obtain ⟨h4, hst1⟩ := ck_some hst1
        refine va_iast (D := g.1) hx hb (hK d) hP hD hS 1 0 rfl rfl h4 dX7_begins_61 (fun H locs hP hD hS => ?_)
        obtain ⟨A4, eA4, hst1⟩ := bd_some hst1
        have hP : va_P g.1 vwCl (wM g ad A4 u1) H := by rw [eA4]; exact hP
        have hD : va_D Z (wM g ad A4 u1) := by rw [eA4]; exact hD
        refine lv_iinc (v := q1.1 + 1) (lv' := [(1, .int (q1.1 + 1)), (0, .ref (ad 0))]) hx hb dX7_begins_62 hl (k := 0) rfl rfl (by decide) rfl (fun ls hl => ?_)
        refine lv_goto (tgt := 44) hx hb dX7_begins_65 (by decide) ?_
        exact hin1 _ H locs ls () _ (Option.some.inj hst1).symm hdr trivial hP hD hS (lv_sub hl [0, 1] rfl)
  · rw [if_pos c1] at hsem
    refine lv_bipush (v := (-2)) hx hb dX7_begins_17 (by decide) ?_
    have eo := (Option.some.inj hsem).symm.symm
    refine W.endD hdr ?_
    subst eo
    exact W.iret (v := (-2)) hx hb hr (fun t ht hW => ⟨⟨_, F, rfl, ⟨rfl, hAL⟩, ⟨by rw [ht]; exact hP, hD⟩⟩, hS.F ht⟩) hS.2.2 dX7_begins_19
def sX7_cardOf (A : IA) (p0 : Int32) : Option (Int32) :=
  (sX7_ofThing A p0 1).bind fun x1 => (sX7_ofThing A p0 2).bind fun x2 => if x2 ≤ 3 then (some ((2 * x1) + 0)) else (some ((2 * x1) + 1))
abbrev rmX7_cardOf : Room := { frames := 1, cells := 0, slots := 0, locals := 22 }
theorem hdX7_cardOf : yX7_cardOf.cls = RX7 ∧ yX7_cardOf.cls ≠ "java/lang/invoke/MethodHandle" ∧ yX7_cardOf.cls ≠ "java/lang/invoke/VarHandle" ∧ (parseMethodDescriptor yX7_cardOf.desc).map (fun d => d.parameters.length) = some 1 := by decide +kernel
set_option maxHeartbeats 4000000 in
set_option maxRecDepth 100000 in
theorem kX7_cardOf {l : Launch} {g : GG} {H0 : Heap} {ad : Nat → Nat} {A : IA} {F : FA} {p0 : Int32} {b : Int32} (hP : va_P g.1 vwCl (wM g ad A F) H0) (hsem : sX7_cardOf A p0 = some b) : MetP l yX7_cardOf wsX7_cardOf rmX7_cardOf g H0 [.ref (ad 0), .int p0] b := by
  refine Met.ofW (cc := cX7_cardOf) (maxL := 2) (ret := (some .int)) (by decide) rfl ?_
  intro p e s m args below meth c s₁ B hml hv
  obtain ⟨rfl, hH, hKK⟩ := hv
  subst hH
  have hx := B.exec
  have hb := B.bytes
  have hr := B.returns
  have hts := atoms_spec (ws := wsX7_cardOf) B.pre
  have hown : s.vm.findClass RX7 = some m.cls := findClass_of_methodNamed B.named
  have hlocks := B.notSynchronized
  have hK := hKK.1
  have hl := lv_entry ([.ref (ad 0), .int p0]) (n := 2) (Nat.le_of_ble_eq_true rfl)
  rw [lg_entry_eq]
  generalize (lg_sl ([.ref (ad 0), .int p0]) ++ List.replicate (2 - (lg_sl ([.ref (ad 0), .int p0])).length) Slot.unset).toArray = ls at hl ⊢
  have hl : lv_has ls 2 [(0, .ref (ad 0)), (1, .int p0)] := hl
  unfold sX7_cardOf at hsem
  refine lv_iconst (v := 2) hx hb dX7_cardOf_0 (by decide) ?_
  refine lv_aload_n hx hb dX7_cardOf_1 rfl (lv_at hl 0 rfl) ?_
  refine lv_iload_n hx hb dX7_cardOf_2 rfl (lv_at hl 1 rfl) ?_
  refine lv_iconst (v := 1) hx hb dX7_cardOf_3 (by decide) ?_
  obtain ⟨x1, hc1, hsem⟩ := bn_some hsem
  refine pcV (C := RX7) (As := [.int p0, .int 1]) (rest := [.int 2]) ⟨hx, hb, hml, hown, hts⟩ hKK (cwV 2 hts gX7_cardOf_X7_ofThing rfl rfl rfl hdX7_ofThing ⟨Nat.le_of_ble_eq_true rfl, Nat.le_of_ble_eq_true rfl⟩) (kX7_ofThing (l := l) (g := g) hP hc1) (va_recv hK hP (ci := 7) (q0 := 0) rfl rfl) rfl hl.1 rfl (Nat.le_of_ble_eq_true rfl) dX7_cardOf_4 ⟨Nat.zero_le _, Nat.zero_le _⟩ ?_
  refine lv_imul hx hb dX7_cardOf_7 ?_
  refine lv_aload_n hx hb dX7_cardOf_8 rfl (lv_at hl 0 rfl) ?_
  refine lv_iload_n hx hb dX7_cardOf_9 rfl (lv_at hl 1 rfl) ?_
  refine lv_iconst (v := 2) hx hb dX7_cardOf_10 (by decide) ?_
  obtain ⟨x2, hc2, hsem⟩ := bn_some hsem
  refine pcV (C := RX7) (As := [.int p0, .int 2]) (rest := [.int (2 * x1)]) ⟨hx, hb, hml, hown, hts⟩ hKK (cwV 2 hts gX7_cardOf_X7_ofThing rfl rfl rfl hdX7_ofThing ⟨Nat.le_of_ble_eq_true rfl, Nat.le_of_ble_eq_true rfl⟩) (kX7_ofThing (l := l) (g := g) hP hc2) (va_recv hK hP (ci := 7) (q0 := 0) rfl rfl) rfl hl.1 rfl (Nat.le_of_ble_eq_true rfl) dX7_cardOf_11 ⟨Nat.zero_le _, Nat.zero_le _⟩ ?_
  refine lv_iconst (v := 3) hx hb dX7_cardOf_14 (by decide) ?_
  refine lv_icmp_le (tgt := 22) hx hb dX7_cardOf_15 (by decide) (fun c1 => ?_) (fun c1 => ?_)
  · rw [if_pos c1] at hsem
    refine lv_iconst (v := 0) hx hb dX7_cardOf_22 (by decide) ?_
    refine lv_iadd hx hb dX7_cardOf_23 ?_
    have eo := (Option.some.inj hsem).symm.symm
    exact W.iret (v := (2 * x1) + 0) hx hb hr (fun t ht hW => ⟨⟨_, (), rfl, eo, ht⟩, (va_S.rf (A := fun _ => False) (H0 := s.heap)).F ht⟩) (fun q hq => absurd hq List.not_mem_nil) dX7_cardOf_24
  · rw [if_neg c1] at hsem
    refine lv_iconst (v := 1) hx hb dX7_cardOf_18 (by decide) ?_
    refine lv_goto (tgt := 23) hx hb dX7_cardOf_19 (by decide) ?_
    refine lv_iadd hx hb dX7_cardOf_23 ?_
    have eo := (Option.some.inj hsem).symm.symm
    exact W.iret (v := (2 * x1) + 1) hx hb hr (fun t ht hW => ⟨⟨_, (), rfl, eo, ht⟩, (va_S.rf (A := fun _ => False) (H0 := s.heap)).F ht⟩) (fun q hq => absurd hq List.not_mem_nil) dX7_cardOf_24
def sX7_isGoal (p0 : Int32) : Option (Int32) :=
  (sX7_in p0 0 999).bind fun x1 => ckb x1 (some x1)
abbrev rmX7_isGoal : Room := { frames := 1, cells := 0, slots := 0, locals := 22 }
theorem hdX7_isGoal : yX7_isGoal.cls ≠ "java/lang/invoke/MethodHandle" ∧ yX7_isGoal.cls ≠ "java/lang/invoke/VarHandle" ∧ (parseMethodDescriptor yX7_isGoal.desc).map (fun d => d.parameters.length) = some 1 := by decide +kernel
set_option maxHeartbeats 4000000 in
set_option maxRecDepth 100000 in
theorem kX7_isGoal {l : Launch} {g : GG} {H0 : Heap}  {p0 : Int32} {b : Int32} (hsem : sX7_isGoal p0 = some b) : MetP l yX7_isGoal wsX7_isGoal rmX7_isGoal g H0 [.int p0] b := by
  refine Met.ofW (cc := cX7_isGoal) (maxL := 1) (ret := (some .boolean)) (by decide) rfl ?_
  intro p e s m args below meth c s₁ B hml hv
  obtain ⟨rfl, hH, hKK⟩ := hv
  subst hH
  have hx := B.exec
  have hb := B.bytes
  have hr := B.returns
  have hts := atoms_spec (ws := wsX7_isGoal) B.pre
  have hown : s.vm.findClass RX7 = some m.cls := findClass_of_methodNamed B.named
  have hlocks := B.notSynchronized
  have hK := hKK.1
  have hl := lv_entry ([.int p0]) (n := 1) (Nat.le_of_ble_eq_true rfl)
  rw [lg_entry_eq]
  generalize (lg_sl ([.int p0]) ++ List.replicate (1 - (lg_sl ([.int p0])).length) Slot.unset).toArray = ls at hl ⊢
  have hl : lv_has ls 1 [(0, .int p0)] := hl
  unfold sX7_isGoal at hsem
  refine lv_iload_n hx hb dX7_isGoal_0 rfl (lv_at hl 0 rfl) ?_
  refine lv_iconst (v := 0) hx hb dX7_isGoal_1 (by decide) ?_
  refine lv_sipush (v := 999) hx hb dX7_isGoal_2 (by decide) ?_
  obtain ⟨x1, hc1, hsem⟩ := bn_some hsem
  refine pcS (As := [.int p0, .int 0, .int 999]) (rest := []) ⟨hx, hb, hml, hown, hts⟩ hKK (va_cwS 3 hts gX7_isGoal_X7_in rfl rfl rfl hdX7_in ⟨Nat.le_of_ble_eq_true rfl, Nat.le_of_ble_eq_true rfl⟩) (kX7_in (l := l) (g := g) hc1) rfl hl.1 rfl (Nat.le_of_ble_eq_true rfl) dX7_isGoal_5 ⟨Nat.zero_le _, Nat.zero_le _⟩ ?_
  obtain ⟨h1, hsem⟩ := ckb_some hsem
  have eo := (Option.some.inj hsem).symm.symm
  exact W.zret (v := x1) hx hb hr (nar_bool h1) (fun t ht hW => ⟨⟨_, (), rfl, eo, ht⟩, (va_S.rf (A := fun _ => False) (H0 := s.heap)).F ht⟩) (fun q hq => absurd hq List.not_mem_nil) dX7_isGoal_8
def sX7_gainOf (A : IA) (p0 : Int32) : Option (Int32) :=
  (sX7_ofRegion A p0 0).bind fun x1 => if x1 = 2 then ((sX7_ofRegion A p0 2).bind fun x2 => if x2 = (-9) then (some 0) else ((sX7_ofRegion A p0 1).bind fun x3 => (sX7_ofRegion A p0 2).bind fun x4 => some (x3 - x4))) else (some 0)
abbrev rmX7_gainOf : Room := { frames := 1, cells := 0, slots := 0, locals := 22 }
theorem hdX7_gainOf : yX7_gainOf.cls = RX7 ∧ yX7_gainOf.cls ≠ "java/lang/invoke/MethodHandle" ∧ yX7_gainOf.cls ≠ "java/lang/invoke/VarHandle" ∧ (parseMethodDescriptor yX7_gainOf.desc).map (fun d => d.parameters.length) = some 1 := by decide +kernel
set_option maxHeartbeats 4000000 in
set_option maxRecDepth 100000 in
theorem kX7_gainOf {l : Launch} {g : GG} {H0 : Heap} {ad : Nat → Nat} {A : IA} {F : FA} {p0 : Int32} {b : Int32} (hP : va_P g.1 vwCl (wM g ad A F) H0) (hsem : sX7_gainOf A p0 = some b) : MetP l yX7_gainOf wsX7_gainOf rmX7_gainOf g H0 [.ref (ad 0), .int p0] b := by
  refine Met.ofW (cc := cX7_gainOf) (maxL := 3) (ret := (some .int)) (by decide) rfl ?_
  intro p e s m args below meth c s₁ B hml hv
  obtain ⟨rfl, hH, hKK⟩ := hv
  subst hH
  have hx := B.exec
  have hb := B.bytes
  have hr := B.returns
  have hts := atoms_spec (ws := wsX7_gainOf) B.pre
  have hown : s.vm.findClass RX7 = some m.cls := findClass_of_methodNamed B.named
  have hlocks := B.notSynchronized
  have hK := hKK.1
  have hl := lv_entry ([.ref (ad 0), .int p0]) (n := 3) (Nat.le_of_ble_eq_true rfl)
  rw [lg_entry_eq]
  generalize (lg_sl ([.ref (ad 0), .int p0]) ++ List.replicate (3 - (lg_sl ([.ref (ad 0), .int p0])).length) Slot.unset).toArray = ls at hl ⊢
  have hl : lv_has ls 3 [(0, .ref (ad 0)), (1, .int p0)] := hl
  unfold sX7_gainOf at hsem
  refine lv_aload_n hx hb dX7_gainOf_0 rfl (lv_at hl 0 rfl) ?_
  refine lv_iload_n hx hb dX7_gainOf_1 rfl (lv_at hl 1 rfl) ?_
  refine lv_iconst (v := 0) hx hb dX7_gainOf_2 (by decide) ?_
  obtain ⟨x1, hc1, hsem⟩ := bn_some hsem
  refine pcV (C := RX7) (As := [.int p0, .int 0]) (rest := []) ⟨hx, hb, hml, hown, hts⟩ hKK (cwV 2 hts gX7_gainOf_X7_ofRegion rfl rfl rfl hdX7_ofRegion ⟨Nat.le_of_ble_eq_true rfl, Nat.le_of_ble_eq_true rfl⟩) (kX7_ofRegion (l := l) (g := g) hP hc1) (va_recv hK hP (ci := 7) (q0 := 0) rfl rfl) rfl hl.1 rfl (Nat.le_of_ble_eq_true rfl) dX7_gainOf_3 ⟨Nat.zero_le _, Nat.zero_le _⟩ ?_
  refine lv_iconst (v := 2) hx hb dX7_gainOf_6 (by decide) ?_
  refine lv_icmp_ne (tgt := 25) hx hb dX7_gainOf_7 (by decide) (fun c1 => ?_) (fun c1 => ?_)
  · rw [if_neg c1] at hsem
    refine lv_iconst (v := 0) hx hb dX7_gainOf_25 (by decide) ?_
    refine lv_istore_n (lv' := [(2, .int 0), (0, .ref (ad 0)), (1, .int p0)]) hx hb dX7_gainOf_26 rfl hl (by decide) rfl (fun ls hl => ?_)
    refine lv_iload_n hx hb dX7_gainOf_27 rfl (lv_at hl 0 rfl) ?_
    refine lv_if_eq (tgt := 47) hx hb dX7_gainOf_28 (by decide) (fun cc => ?_) (fun cc => absurd cc (by decide))
    refine lv_iconst (v := 0) hx hb dX7_gainOf_47 (by decide) ?_
    have eo := (Option.some.inj hsem).symm.symm
    exact W.iret (v := 0) hx hb hr (fun t ht hW => ⟨⟨_, (), rfl, eo, ht⟩, (va_S.rf (A := fun _ => False) (H0 := s.heap)).F ht⟩) (fun q hq => absurd hq List.not_mem_nil) dX7_gainOf_48
  · rw [if_pos c1] at hsem
    refine lv_aload_n hx hb dX7_gainOf_10 rfl (lv_at hl 0 rfl) ?_
    refine lv_iload_n hx hb dX7_gainOf_11 rfl (lv_at hl 1 rfl) ?_
    refine lv_iconst (v := 2) hx hb dX7_gainOf_12 (by decide) ?_
    obtain ⟨x2, hc2, hsem⟩ := bn_some hsem
    refine pcV (C := RX7) (As := [.int p0, .int 2]) (rest := []) ⟨hx, hb, hml, hown, hts⟩ hKK (cwV 2 hts gX7_gainOf_X7_ofRegion rfl rfl rfl hdX7_ofRegion ⟨Nat.le_of_ble_eq_true rfl, Nat.le_of_ble_eq_true rfl⟩) (kX7_ofRegion (l := l) (g := g) hP hc2) (va_recv hK hP (ci := 7) (q0 := 0) rfl rfl) rfl hl.1 rfl (Nat.le_of_ble_eq_true rfl) dX7_gainOf_13 ⟨Nat.zero_le _, Nat.zero_le _⟩ ?_
    refine lv_bipush (v := (-9)) hx hb dX7_gainOf_16 (by decide) ?_
    refine lv_icmp_eq (tgt := 25) hx hb dX7_gainOf_18 (by decide) (fun c2 => ?_) (fun c2 => ?_)
    · rw [if_pos c2] at hsem
      refine lv_iconst (v := 0) hx hb dX7_gainOf_25 (by decide) ?_
      refine lv_istore_n (lv' := [(2, .int 0), (0, .ref (ad 0)), (1, .int p0)]) hx hb dX7_gainOf_26 rfl hl (by decide) rfl (fun ls hl => ?_)
      refine lv_iload_n hx hb dX7_gainOf_27 rfl (lv_at hl 0 rfl) ?_
      refine lv_if_eq (tgt := 47) hx hb dX7_gainOf_28 (by decide) (fun cc => ?_) (fun cc => absurd cc (by decide))
      refine lv_iconst (v := 0) hx hb dX7_gainOf_47 (by decide) ?_
      have eo := (Option.some.inj hsem).symm.symm
      exact W.iret (v := 0) hx hb hr (fun t ht hW => ⟨⟨_, (), rfl, eo, ht⟩, (va_S.rf (A := fun _ => False) (H0 := s.heap)).F ht⟩) (fun q hq => absurd hq List.not_mem_nil) dX7_gainOf_48
    · rw [if_neg c2] at hsem
      refine lv_iconst (v := 1) hx hb dX7_gainOf_21 (by decide) ?_
      refine lv_goto (tgt := 26) hx hb dX7_gainOf_22 (by decide) ?_
      refine lv_istore_n (lv' := [(2, .int 1), (0, .ref (ad 0)), (1, .int p0)]) hx hb dX7_gainOf_26 rfl hl (by decide) rfl (fun ls hl => ?_)
      refine lv_iload_n hx hb dX7_gainOf_27 rfl (lv_at hl 0 rfl) ?_
      refine lv_if_eq (tgt := 47) hx hb dX7_gainOf_28 (by decide) (fun cc => absurd cc (by decide)) (fun cc => ?_)
      refine lv_aload_n hx hb dX7_gainOf_31 rfl (lv_at hl 1 rfl) ?_
      refine lv_iload_n hx hb dX7_gainOf_32 rfl (lv_at hl 2 rfl) ?_
      refine lv_iconst (v := 1) hx hb dX7_gainOf_33 (by decide) ?_
      obtain ⟨x3, hc3, hsem⟩ := bn_some hsem
      refine pcV (C := RX7) (As := [.int p0, .int 1]) (rest := []) ⟨hx, hb, hml, hown, hts⟩ hKK (cwV 2 hts gX7_gainOf_X7_ofRegion rfl rfl rfl hdX7_ofRegion ⟨Nat.le_of_ble_eq_true rfl, Nat.le_of_ble_eq_true rfl⟩) (kX7_ofRegion (l := l) (g := g) hP hc3) (va_recv hK hP (ci := 7) (q0 := 0) rfl rfl) rfl hl.1 rfl (Nat.le_of_ble_eq_true rfl) dX7_gainOf_34 ⟨Nat.zero_le _, Nat.zero_le _⟩ ?_
      refine lv_aload_n hx hb dX7_gainOf_37 rfl (lv_at hl 1 rfl) ?_
      refine lv_iload_n hx hb dX7_gainOf_38 rfl (lv_at hl 2 rfl) ?_
      refine lv_iconst (v := 2) hx hb dX7_gainOf_39 (by decide) ?_
      obtain ⟨x4, hc4, hsem⟩ := bn_some hsem
      refine pcV (C := RX7) (As := [.int p0, .int 2]) (rest := [.int x3]) ⟨hx, hb, hml, hown, hts⟩ hKK (cwV 2 hts gX7_gainOf_X7_ofRegion rfl rfl rfl hdX7_ofRegion ⟨Nat.le_of_ble_eq_true rfl, Nat.le_of_ble_eq_true rfl⟩) (kX7_ofRegion (l := l) (g := g) hP hc4) (va_recv hK hP (ci := 7) (q0 := 0) rfl rfl) rfl hl.1 rfl (Nat.le_of_ble_eq_true rfl) dX7_gainOf_40 ⟨Nat.zero_le _, Nat.zero_le _⟩ ?_
      refine lv_isub hx hb dX7_gainOf_43 ?_
      refine lv_goto (tgt := 48) hx hb dX7_gainOf_44 (by decide) ?_
      have eo := (Option.some.inj hsem).symm.symm
      exact W.iret (v := x3 - x4) hx hb hr (fun t ht hW => ⟨⟨_, (), rfl, eo, ht⟩, (va_S.rf (A := fun _ => False) (H0 := s.heap)).F ht⟩) (fun q hq => absurd hq List.not_mem_nil) dX7_gainOf_48
def sX7_laysChosen_L12 (q1 : Int32 × IA) : Option ((Int32 × IA) ⊕ (IA)) :=
  if 10 ≤ q1.1 then (some (.inr q1.2)) else ((sX7_ofRegion q1.2 q1.1 0).bind fun x1 => if x1 = 1 then (bd (sc q1.2 11 ((q1.2 11 0) ||| (1 <<< (q1.1 &&& 31)))) fun A3 => (sX7_ofRegion A3 q1.1 1).bind fun x2 => bd (sc A3 13 ((A3 13 0) + x2)) fun A4 => some (.inl (q1.1 + 1, A4))) else (some (.inl (q1.1 + 1, q1.2))))
def sX7_laysChosen_L97 (p0 : Int32) (q3 : Int32 × IA × FA) (q4 : Int32 × IA × FA) : Option ((Int32 × IA × FA) ⊕ ((Int32 × IA × FA) ⊕ (IA × FA))) :=
  if 10 ≤ q4.1 then (some (.inr (.inl ((q3.1 + (-1), q4.2.1, q4.2.2))))) else ((sX7_gainOf q4.2.1 q4.1).bind fun x3 => if x3 = q3.1 then ((sX7_ofRegion q4.2.1 q4.1 2).bind fun x4 => if (Op.cmpValue (FP.fcmp (FP.fadd (q4.2.2 12 0) (FP.fmul (q4.2.2 2 (Int32.toNatClampNeg 0)) (FP.i2f x4))) (FP.i2f p0)) .l) ≤ 0 then (bd (scF q4.2.2 12 (FP.fadd (q4.2.2 12 0) (FP.fmul (q4.2.2 2 (Int32.toNatClampNeg 0)) (FP.i2f x4)))) fun F2c => bd (sc q4.2.1 11 ((q4.2.1 11 0) ||| (1 <<< (q4.1 &&& 31)))) fun A5 => some (.inl (q4.1 + 1, A5, F2c))) else (some (.inr (.inr (q4.2.1, q4.2.2))))) else (some (.inl (q4.1 + 1, q4.2.1, q4.2.2))))
def sX7_laysChosen_L90 (p0 : Int32) (q3 : Int32 × IA × FA) : Option ((Int32 × IA × FA) ⊕ (IA × FA)) :=
  if q3.1 ≤ 1 then (some (.inr (q3.2.1, q3.2.2))) else (loopN (sX7_laysChosen_L97 p0 q3) 2000 (0, q3.2.1, q3.2.2))
def sX7_laysChosen (A : IA) (Fc : FA) (p0 : Int32) : Option (IA × FA) :=
  bd (sc A 11 0) fun A1 => bd (sc A1 13 0) fun A2 => (loopN (sX7_laysChosen_L12) 2000 (0, A2)).bind fun q2 => bd (scF Fc 12 (FP.fadd 1092616192 (FP.fmul (Fc 2 (Int32.toNatClampNeg 0)) (FP.fmul (Fc 2 (Int32.toNatClampNeg 1)) (FP.i2f (q2 13 0)))))) fun F1c => loopN (sX7_laysChosen_L90 p0) 2000 (8, q2, F1c)
abbrev rmX7_laysChosen : Room := { frames := 2, cells := 0, slots := 0, locals := 44 }
theorem hdX7_laysChosen : yX7_laysChosen.cls = RX7 ∧ yX7_laysChosen.cls ≠ "java/lang/invoke/MethodHandle" ∧ yX7_laysChosen.cls ≠ "java/lang/invoke/VarHandle" ∧ (parseMethodDescriptor yX7_laysChosen.desc).map (fun d => d.parameters.length) = some 1 := by decide +kernel
set_option maxHeartbeats 4000000 in
set_option maxRecDepth 100000 in
theorem kX7_laysChosen {l : Launch} {g : GG} {sz : Nat} {ad : Nat → Nat} {A : IA} {F : FA} {p0 : Int32} {Fc : FA} (hAL : AL F Fc) {b : IA × FA} (hsem : sX7_laysChosen A Fc p0 = some b) : MetDV l yX7_laysChosen wsX7_laysChosen rmX7_laysChosen g [.ref (ad 0), .int p0] (wM g ad A F) sz (φ := FA) (fun u => AL u b.2) (fun u => wM g ad b.1 u) := by
  refine MetD.ofW (cc := cX7_laysChosen) (maxL := 5) (ret := none) (by decide) rfl ?_
  intro p e s m args below meth c s₁ B hml hv hdr
  obtain ⟨rfl, hsz, hP, hD0, hKK⟩ := hv
  subst hsz
  have hx := B.exec
  have hb := B.bytes
  have hr := B.returns
  have hts := atoms_spec (ws := wsX7_laysChosen) B.pre
  have hown : ∀ d, (s.setDrawn d).vm.findClass RX7 = some m.cls := fun _ => findClass_of_methodNamed B.named
  have hlocks := B.notSynchronized
  have hK : ∀ d, va_K g.1 vwCl (KT g) (s.setDrawn d) := fun d => (hKK.drawn d).1
  have hD := hD0.self (sz := s.heap.size)
  generalize hZe : va_A (wM g ad A F) s.heap.size = Z at hD ⊢
  have hZ : ∀ q : Nat, s.heap.size ≤ q → Z q := fun q h => by rw [← hZe]; exact Or.inr h
  have hS : va_S Z s.heap s.heap [] := va_S.rf
  have hP : va_P g.1 vwCl (wM g ad A F) s.heap := hP
  have hD : va_D Z (wM g ad A F) := hD
  obtain ⟨d, hdr, hdd⟩ : ∃ d, s.drawn.sameBut d lw_cs ∧ s.drawn = d := ⟨_, hdr, rfl⟩
  rw [hdd]
  have hl := lv_entry ([.ref (ad 0), .int p0]) (n := 5) (Nat.le_of_ble_eq_true rfl)
  rw [lg_entry_eq]
  generalize (lg_sl ([.ref (ad 0), .int p0]) ++ List.replicate (5 - (lg_sl ([.ref (ad 0), .int p0])).length) Slot.unset).toArray = ls at hl ⊢
  have hl : lv_has ls 5 [(0, .ref (ad 0)), (1, .int p0)] := hl
  unfold sX7_laysChosen at hsem
  refine lv_aload_n hx hb dX7_laysChosen_0 rfl (lv_at hl 0 rfl) ?_
  refine lv_iconst (v := 0) hx hb dX7_laysChosen_1 (by decide) ?_
  refine va_put (D := g.1) (ci := 7) (v := .int 0) (ty := .int) (C := RX7) (T := TX7) (N := 26) hx hb (dr_words hts d) (fun w h => List.mem_cons_of_mem _ (List.mem_append_right _ h)) tyX7 tyX7_ok nmX7 (hown d) (hK d) hP hD hS 0 rfl rfl 11 (by decide) ((dr_words hts d) (.fieldLink RX7 152 "PauseRegionsModel" "chosen" "I") (List.mem_of_getElem? (i := 1) rfl)) (fun _ h9 => h9) rfl (by decide +kernel) rfl rfl (Nat.le_of_ble_eq_true rfl) dX7_laysChosen_2 (fun H locs hP hD hS => ?_)
  obtain ⟨A1, eA1, hsem⟩ := bd_some hsem
  have hP : va_P g.1 vwCl (wM g ad A1 F) H := by rw [eA1]; exact hP
  have hD : va_D Z (wM g ad A1 F) := by rw [eA1]; exact hD
  refine lv_aload_n hx hb dX7_laysChosen_5 rfl (lv_at hl 0 rfl) ?_
  refine lv_iconst (v := 0) hx hb dX7_laysChosen_6 (by decide) ?_
  refine va_put (D := g.1) (ci := 7) (v := .int 0) (ty := .int) (C := RX7) (T := TX7) (N := 26) hx hb (dr_words hts d) (fun w h => List.mem_cons_of_mem _ (List.mem_append_right _ h)) tyX7 tyX7_ok nmX7 (hown d) (hK d) hP hD hS 0 rfl rfl 13 (by decide) ((dr_words hts d) (.fieldLink RX7 155 "PauseRegionsModel" "youngCells" "I") (List.mem_of_getElem? (i := 2) rfl)) (fun _ h9 => h9) rfl (by decide +kernel) rfl rfl (Nat.le_of_ble_eq_true rfl) dX7_laysChosen_7 (fun H locs hP hD hS => ?_)
  obtain ⟨A2, eA2, hsem⟩ := bd_some hsem
  have hP : va_P g.1 vwCl (wM g ad A2 F) H := by rw [eA2]; exact hP
  have hD : va_D Z (wM g ad A2 F) := by rw [eA2]; exact hD
  refine lv_iconst (v := 0) hx hb dX7_laysChosen_10 (by decide) ?_
  refine lv_istore_n (lv' := [(2, .int 0), (0, .ref (ad 0)), (1, .int p0)]) hx hb dX7_laysChosen_11 rfl hl (by decide) rfl (fun ls hl => ?_)
  obtain ⟨q2, hc3, hsem⟩ := bn_some hsem
  refine loopMD (g := g) hdr hc3 (fun (q1 : Int32 × IA) => [(2, .int q1.1), (0, .ref (ad 0)), (1, .int p0)]) (fun (q1 : IA) => [(0, .ref (ad 0)), (1, .int p0)]) (exit := 61) (fun (q1 : Int32 × IA) (fz1 : Unit) => wM g ad q1.2 F) (fun (q1 : IA) (fz1 : Unit) => wM g ad q1 F) (fun (_ : Int32 × IA) (_ : Unit) => True) (fun (_ : IA) (_ : Unit) => True) () trivial hP hD hS (lv_sub hl [0, 1, 2] rfl) (fun d H locs ls fz1 hdr hrfz1 hP hD hS hl => ?_) (fun q1 r hst1 hin1 hout1 d H locs ls fz1 hdr hrfz1 hP hD hS hl => ?_)
  · have hP : va_P g.1 vwCl (wM g ad q2 F) H := hP
    have hD : va_D Z (wM g ad q2 F) := hD
    refine lv_aload_n hx hb dX7_laysChosen_61 rfl (lv_at hl 0 rfl) ?_
    refine lv_ldcf hx hb (hown d) ((dr_words hts d) (.constantFloat RX7 158 (1092616192)) (List.mem_of_getElem? (i := 3) rfl)) dX7_laysChosen_62 ?_
    refine lv_aload_n hx hb dX7_laysChosen_64 rfl (lv_at hl 0 rfl) ?_
    refine va_get (D := g.1) (ci := 7) (v := .ref (ad 2)) (C := RX7) (T := TX7) (N := 26) hx hb (dr_words hts d) (fun w h => List.mem_cons_of_mem _ (List.mem_append_right _ h)) (hown d) (hK d) hP 0 rfl rfl 2 (by decide) ((dr_words hts d) (.fieldLink RX7 13 "PauseRegionsModel" "learnt" "[F") (List.mem_of_getElem? (i := 4) rfl)) (fun _ h9 => h9) rfl dX7_laysChosen_65 ?_
    refine lv_iconst (v := 0) hx hb dX7_laysChosen_68 (by decide) ?_
    have h1 : vp_in 0 2 := inb_vp rfl
    refine va_fald (D := g.1) hx hb (hK d) hP 2 2 rfl rfl h1 dX7_laysChosen_69 ?_
    refine lv_aload_n hx hb dX7_laysChosen_70 rfl (lv_at hl 0 rfl) ?_
    refine va_get (D := g.1) (ci := 7) (v := .ref (ad 2)) (C := RX7) (T := TX7) (N := 26) hx hb (dr_words hts d) (fun w h => List.mem_cons_of_mem _ (List.mem_append_right _ h)) (hown d) (hK d) hP 0 rfl rfl 2 (by decide) ((dr_words hts d) (.fieldLink RX7 13 "PauseRegionsModel" "learnt" "[F") (List.mem_of_getElem? (i := 4) rfl)) (fun _ h9 => h9) rfl dX7_laysChosen_71 ?_
    refine lv_iconst (v := 1) hx hb dX7_laysChosen_74 (by decide) ?_
    have h2 : vp_in 1 2 := inb_vp rfl
    refine va_fald (D := g.1) hx hb (hK d) hP 2 2 rfl rfl h2 dX7_laysChosen_75 ?_
    refine lv_aload_n hx hb dX7_laysChosen_76 rfl (lv_at hl 0 rfl) ?_
    refine va_get (D := g.1) (ci := 7) (v := .int (q2 13 0)) (C := RX7) (T := TX7) (N := 26) hx hb (dr_words hts d) (fun w h => List.mem_cons_of_mem _ (List.mem_append_right _ h)) (hown d) (hK d) hP 0 rfl rfl 13 (by decide) ((dr_words hts d) (.fieldLink RX7 155 "PauseRegionsModel" "youngCells" "I") (List.mem_of_getElem? (i := 2) rfl)) (fun _ h9 => h9) rfl dX7_laysChosen_77 ?_
    refine lv_i2f hx hb dX7_laysChosen_80 ?_
    refine lv_fmul_any hdr lw_bits hx hb dX7_laysChosen_81 (fun y1 d hal hdr => ?_)
    have ay1 := al_fmul hal (hAL 2 _) (al_refl _)
    refine lv_fmul_any hdr lw_bits hx hb dX7_laysChosen_82 (fun y2 d hal hdr => ?_)
    have ay2 := al_fmul hal (hAL 2 _) ay1
    refine lv_fadd_any hdr lw_bits hx hb dX7_laysChosen_83 (fun y3 d hal hdr => ?_)
    have ay3 := al_fadd hal (al_refl _) ay2
    refine va_put (D := g.1) (ci := 7) (v := .float y3) (ty := .float) (C := RX7) (T := TX7) (N := 26) hx hb (dr_words hts d) (fun w h => List.mem_cons_of_mem _ (List.mem_append_right _ h)) tyX7 tyX7_ok nmX7 (hown d) (hK d) hP hD hS 0 rfl rfl 12 (by decide) ((dr_words hts d) (.fieldLink RX7 159 "PauseRegionsModel" "foretold" "F") (List.mem_of_getElem? (i := 5) rfl)) (fun _ h9 => h9) rfl (by decide +kernel) rfl rfl (Nat.le_of_ble_eq_true rfl) dX7_laysChosen_84 (fun H locs hP hD hS => ?_)
    obtain ⟨F1, eF1⟩ : ∃ z, z = scF F 12 y3 := ⟨_, rfl⟩
    obtain ⟨F1c, eF1c, hsem⟩ := bd_some hsem
    have haF1 : AL F1 F1c := by rw [eF1, eF1c]; exact AL.sc hAL ay3
    have hP : va_P g.1 vwCl (wM g ad q2 F1) H := by rw [eF1]; exact hP
    have hD : va_D Z (wM g ad q2 F1) := by rw [eF1]; exact hD
    refine lv_bipush (v := 8) hx hb dX7_laysChosen_87 (by decide) ?_
    refine lv_istore_n (lv' := [(2, .int 8), (0, .ref (ad 0)), (1, .int p0)]) hx hb dX7_laysChosen_89 rfl hl (by decide) rfl (fun ls hl => ?_)
    refine loopMDe (g := g) hdr hsem (fun (q3 : Int32 × IA × FA) => [(2, .int q3.1), (0, .ref (ad 0)), (1, .int p0)]) (fun (q3 : Int32 × IA × FA) (fz2 : FA) => wM g ad q3.2.1 fz2) (fun (q3 : Int32 × IA × FA) (fz2 : FA) => AL fz2 q3.2.2) F1 haF1 hP hD hS (lv_sub hl [0, 1, 2] rfl) (fun q3 r hst1 hin1 hout1 d H locs ls fz2 hdr hrfz2 hP hD hS hl => ?_)
    unfold sX7_laysChosen_L90 at hst1
    have hP : va_P g.1 vwCl (wM g ad q3.2.1 fz2) H := hP
    have hD : va_D Z (wM g ad q3.2.1 fz2) := hD
    refine lv_iload_n hx hb dX7_laysChosen_90 rfl (lv_at hl 0 rfl) ?_
    refine lv_iconst (v := 1) hx hb dX7_laysChosen_91 (by decide) ?_
    refine lv_icmp_le (tgt := 172) hx hb dX7_laysChosen_92 (by decide) (fun c3 => ?_) (fun c3 => ?_)
    · rw [if_pos c3] at hst1
      have eo := (hout1 _ (Option.some.inj hst1).symm).symm.symm
      refine W.endD hdr ?_
      subst eo
      exact W.vret hx hb hr (fun t ht hW => ⟨⟨fz2, rfl, hrfz2, ⟨by rw [ht]; exact hP, hD⟩⟩, hS.F ht⟩) hS.2.2 dX7_laysChosen_172
    · rw [if_neg c3] at hst1
      refine lv_iconst (v := 0) hx hb dX7_laysChosen_95 (by decide) ?_
      refine lv_istore_n (lv' := [(3, .int 0), (2, .int q3.1), (0, .ref (ad 0)), (1, .int p0)]) hx hb dX7_laysChosen_96 rfl hl (by decide) rfl (fun ls hl => ?_)
      refine loopMDe (g := g) hdr hst1 (fun (q4 : Int32 × IA × FA) => [(3, .int q4.1), (2, .int q3.1), (0, .ref (ad 0)), (1, .int p0)]) (fun (q4 : Int32 × IA × FA) (fz3 : FA) => wM g ad q4.2.1 fz3) (fun (q4 : Int32 × IA × FA) (fz3 : FA) => AL fz3 q4.2.2) fz2 hrfz2 hP hD hS (lv_sub hl [0, 1, 2, 3] rfl) (fun q4 r hst2 hin2 hout2 d H locs ls fz3 hdr hrfz3 hP hD hS hl => ?_)
      unfold sX7_laysChosen_L97 at hst2
      have hP : va_P g.1 vwCl (wM g ad q4.2.1 fz3) H := hP
      have hD : va_D Z (wM g ad q4.2.1 fz3) := hD
      refine lv_iload_n hx hb dX7_laysChosen_97 rfl (lv_at hl 0 rfl) ?_
      refine lv_bipush (v := 10) hx hb dX7_laysChosen_98 (by decide) ?_
      refine lv_icmp_ge (tgt := 166) hx hb dX7_laysChosen_100 (by decide) (fun c4 => ?_) (fun c4 => ?_)
      · rw [if_pos c4] at hst2
        refine lv_iinc (v := q3.1 + (-1)) (lv' := [(2, .int (q3.1 + (-1))), (3, .int q4.1), (0, .ref (ad 0)), (1, .int p0)]) hx hb dX7_laysChosen_166 hl (k := 1) rfl rfl (by decide) rfl (fun ls hl => ?_)
        refine lv_goto (tgt := 90) hx hb dX7_laysChosen_169 (by decide) ?_
        exact hin1 _ H locs ls fz3 _ (hout2 _ (Option.some.inj hst2).symm).symm hdr hrfz3 hP hD hS (lv_sub hl [0, 2, 3] rfl)
      · rw [if_neg c4] at hst2
        refine lv_aload_n hx hb dX7_laysChosen_103 rfl (lv_at hl 2 rfl) ?_
        refine lv_iload_n hx hb dX7_laysChosen_104 rfl (lv_at hl 0 rfl) ?_
        obtain ⟨x3, hc4, hst2⟩ := bn_some hst2
        refine pcV (C := RX7) (As := [.int q4.1]) (rest := []) ⟨hx, hb, hml, (hown d), (dr_words hts d)⟩ (hKK.drawn d) (cwV 1 (dr_words hts d) gX7_laysChosen_X7_gainOf rfl rfl rfl hdX7_gainOf ⟨Nat.le_of_ble_eq_true rfl, Nat.le_of_ble_eq_true rfl⟩) (kX7_gainOf (l := l) (g := g) hP hc4) (va_recv (hK d) hP (ci := 7) (q0 := 0) rfl rfl) rfl hl.1 rfl (Nat.le_of_ble_eq_true rfl) dX7_laysChosen_105 ⟨Nat.zero_le _, Nat.zero_le _⟩ ?_
        refine lv_iload_n hx hb dX7_laysChosen_108 rfl (lv_at hl 1 rfl) ?_
        refine lv_icmp_ne (tgt := 160) hx hb dX7_laysChosen_109 (by decide) (fun c5 => ?_) (fun c5 => ?_)
        · rw [if_neg c5] at hst2
          refine lv_iinc (v := q4.1 + 1) (lv' := [(3, .int (q4.1 + 1)), (2, .int q3.1), (0, .ref (ad 0)), (1, .int p0)]) hx hb dX7_laysChosen_160 hl (k := 0) rfl rfl (by decide) rfl (fun ls hl => ?_)
          refine lv_goto (tgt := 97) hx hb dX7_laysChosen_163 (by decide) ?_
          exact hin2 _ H locs ls fz3 _ (Option.some.inj hst2).symm hdr hrfz3 hP hD hS (lv_sub hl [0, 1, 2, 3] rfl)
        · rw [if_pos c5] at hst2
          refine lv_aload_n hx hb dX7_laysChosen_112 rfl (lv_at hl 2 rfl) ?_
          refine va_get (D := g.1) (ci := 7) (v := .float (fz3 12 0)) (C := RX7) (T := TX7) (N := 26) hx hb (dr_words hts d) (fun w h => List.mem_cons_of_mem _ (List.mem_append_right _ h)) (hown d) (hK d) hP 0 rfl rfl 12 (by decide) ((dr_words hts d) (.fieldLink RX7 159 "PauseRegionsModel" "foretold" "F") (List.mem_of_getElem? (i := 5) rfl)) (fun _ h9 => h9) rfl dX7_laysChosen_113 ?_
          refine lv_aload_n hx hb dX7_laysChosen_116 rfl (lv_at hl 2 rfl) ?_
          refine va_get (D := g.1) (ci := 7) (v := .ref (ad 2)) (C := RX7) (T := TX7) (N := 26) hx hb (dr_words hts d) (fun w h => List.mem_cons_of_mem _ (List.mem_append_right _ h)) (hown d) (hK d) hP 0 rfl rfl 2 (by decide) ((dr_words hts d) (.fieldLink RX7 13 "PauseRegionsModel" "learnt" "[F") (List.mem_of_getElem? (i := 4) rfl)) (fun _ h9 => h9) rfl dX7_laysChosen_117 ?_
          refine lv_iconst (v := 0) hx hb dX7_laysChosen_120 (by decide) ?_
          have h3 : vp_in 0 2 := inb_vp rfl
          refine va_fald (D := g.1) hx hb (hK d) hP 2 2 rfl rfl h3 dX7_laysChosen_121 ?_
          refine lv_aload_n hx hb dX7_laysChosen_122 rfl (lv_at hl 2 rfl) ?_
          refine lv_iload_n hx hb dX7_laysChosen_123 rfl (lv_at hl 0 rfl) ?_
          refine lv_iconst (v := 2) hx hb dX7_laysChosen_124 (by decide) ?_
          obtain ⟨x4, hc5, hst2⟩ := bn_some hst2
          refine pcV (C := RX7) (As := [.int q4.1, .int 2]) (rest := [.float ((fz3 2) (Int32.toNatClampNeg 0)), .float (fz3 12 0)]) ⟨hx, hb, hml, (hown d), (dr_words hts d)⟩ (hKK.drawn d) (cwV 2 (dr_words hts d) gX7_laysChosen_X7_ofRegion rfl rfl rfl hdX7_ofRegion ⟨Nat.le_of_ble_eq_true rfl, Nat.le_of_ble_eq_true rfl⟩) (kX7_ofRegion (l := l) (g := g) hP hc5) (va_recv (hK d) hP (ci := 7) (q0 := 0) rfl rfl) rfl hl.1 rfl (Nat.le_of_ble_eq_true rfl) dX7_laysChosen_125 ⟨Nat.zero_le _, Nat.zero_le _⟩ ?_
          refine lv_i2f hx hb dX7_laysChosen_128 ?_
          refine lv_fmul_any hdr lw_bits hx hb dX7_laysChosen_129 (fun y4 d hal hdr => ?_)
          have ay4 := al_fmul hal (hrfz3 2 _) (al_refl _)
          refine lv_fadd_any hdr lw_bits hx hb dX7_laysChosen_130 (fun y5 d hal hdr => ?_)
          have ay5 := al_fadd hal (hrfz3 12 0) ay4
          refine lv_fstore (lv' := [(4, .float y5), (3, .int q4.1), (2, .int q3.1), (0, .ref (ad 0)), (1, .int p0)]) hx hb dX7_laysChosen_131 hl (by decide) rfl (fun ls hl => ?_)
          refine lv_fload hx hb dX7_laysChosen_133 (lv_at hl 0 rfl) ?_
          refine lv_iload_n hx hb dX7_laysChosen_135 rfl (lv_at hl 4 rfl) ?_
          refine lv_i2f hx hb dX7_laysChosen_136 ?_
          refine lv_fcmp hx hb dX7_laysChosen_137 ?_
          rw [al_fcmp ay5 (al_refl _)]
          refine lv_if_le (tgt := 142) hx hb dX7_laysChosen_138 (by decide) (fun c6 => ?_) (fun c6 => ?_)
          · rw [if_pos c6] at hst2
            refine lv_aload_n hx hb dX7_laysChosen_142 rfl (lv_at hl 3 rfl) ?_
            refine lv_fload hx hb dX7_laysChosen_143 (lv_at hl 0 rfl) ?_
            refine va_put (D := g.1) (ci := 7) (v := .float y5) (ty := .float) (C := RX7) (T := TX7) (N := 26) hx hb (dr_words hts d) (fun w h => List.mem_cons_of_mem _ (List.mem_append_right _ h)) tyX7 tyX7_ok nmX7 (hown d) (hK d) hP hD hS 0 rfl rfl 12 (by decide) ((dr_words hts d) (.fieldLink RX7 159 "PauseRegionsModel" "foretold" "F") (List.mem_of_getElem? (i := 5) rfl)) (fun _ h9 => h9) rfl (by decide +kernel) rfl rfl (Nat.le_of_ble_eq_true rfl) dX7_laysChosen_145 (fun H locs hP hD hS => ?_)
            obtain ⟨F2, eF2⟩ : ∃ z, z = scF fz3 12 y5 := ⟨_, rfl⟩
            obtain ⟨F2c, eF2c, hst2⟩ := bd_some hst2
            have haF2 : AL F2 F2c := by rw [eF2, eF2c]; exact AL.sc hrfz3 ay5
            have hP : va_P g.1 vwCl (wM g ad q4.2.1 F2) H := by rw [eF2]; exact hP
            have hD : va_D Z (wM g ad q4.2.1 F2) := by rw [eF2]; exact hD
            refine lv_aload_n hx hb dX7_laysChosen_148 rfl (lv_at hl 3 rfl) ?_
            refine lv_dup hx hb dX7_laysChosen_149 rfl ?_
            refine va_get (D := g.1) (ci := 7) (v := .int (q4.2.1 11 0)) (C := RX7) (T := TX7) (N := 26) hx hb (dr_words hts d) (fun w h => List.mem_cons_of_mem _ (List.mem_append_right _ h)) (hown d) (hK d) hP 0 rfl rfl 11 (by decide) ((dr_words hts d) (.fieldLink RX7 152 "PauseRegionsModel" "chosen" "I") (List.mem_of_getElem? (i := 1) rfl)) (fun _ h9 => h9) rfl dX7_laysChosen_150 ?_
            refine lv_iconst (v := 1) hx hb dX7_laysChosen_153 (by decide) ?_
            refine lv_iload_n hx hb dX7_laysChosen_154 rfl (lv_at hl 1 rfl) ?_
            refine lv_ishl hx hb dX7_laysChosen_155 ?_
            refine lv_ior hx hb dX7_laysChosen_156 ?_
            refine va_put (D := g.1) (ci := 7) (v := .int ((q4.2.1 11 0) ||| (1 <<< (q4.1 &&& 31)))) (ty := .int) (C := RX7) (T := TX7) (N := 26) hx hb (dr_words hts d) (fun w h => List.mem_cons_of_mem _ (List.mem_append_right _ h)) tyX7 tyX7_ok nmX7 (hown d) (hK d) hP hD hS 0 rfl rfl 11 (by decide) ((dr_words hts d) (.fieldLink RX7 152 "PauseRegionsModel" "chosen" "I") (List.mem_of_getElem? (i := 1) rfl)) (fun _ h9 => h9) rfl (by decide +kernel) rfl rfl (Nat.le_of_ble_eq_true rfl) dX7_laysChosen_157 (fun H locs hP hD hS => ?_)
            obtain ⟨A5, eA5, hst2⟩ := bd_some hst2
            have hP : va_P g.1 vwCl (wM g ad A5 F2) H := by rw [eA5]; exact hP
            have hD : va_D Z (wM g ad A5 F2) := by rw [eA5]; exact hD
            refine lv_iinc (v := q4.1 + 1) (lv' := [(3, .int (q4.1 + 1)), (4, .float y5), (2, .int q3.1), (0, .ref (ad 0)), (1, .int p0)]) hx hb dX7_laysChosen_160 hl (k := 1) rfl rfl (by decide) rfl (fun ls hl => ?_)
            refine lv_goto (tgt := 97) hx hb dX7_laysChosen_163 (by decide) ?_
            exact hin2 _ H locs ls F2 _ (Option.some.inj hst2).symm hdr haF2 hP hD hS (lv_sub hl [0, 2, 3, 4] rfl)
          · rw [if_neg c6] at hst2
            have eo := (hout1 _ (hout2 _ (Option.some.inj hst2).symm).symm).symm.symm
            refine W.endD hdr ?_
            subst eo
            exact W.vret hx hb hr (fun t ht hW => ⟨⟨fz3, rfl, hrfz3, ⟨by rw [ht]; exact hP, hD⟩⟩, hS.F ht⟩) hS.2.2 dX7_laysChosen_141
  · unfold sX7_laysChosen_L12 at hst1
    have hP : va_P g.1 vwCl (wM g ad q1.2 F) H := hP
    have hD : va_D Z (wM g ad q1.2 F) := hD
    refine lv_iload_n hx hb dX7_laysChosen_12 rfl (lv_at hl 0 rfl) ?_
    refine lv_bipush (v := 10) hx hb dX7_laysChosen_13 (by decide) ?_
    refine lv_icmp_ge (tgt := 61) hx hb dX7_laysChosen_15 (by decide) (fun c1 => ?_) (fun c1 => ?_)
    · rw [if_pos c1] at hst1
      exact hout1 _ H locs ls () _ (Option.some.inj hst1).symm hdr trivial hP hD hS (lv_sub hl [1, 2] rfl)
    · rw [if_neg c1] at hst1
      refine lv_aload_n hx hb dX7_laysChosen_18 rfl (lv_at hl 1 rfl) ?_
      refine lv_iload_n hx hb dX7_laysChosen_19 rfl (lv_at hl 0 rfl) ?_
      refine lv_iconst (v := 0) hx hb dX7_laysChosen_20 (by decide) ?_
      obtain ⟨x1, hc1, hst1⟩ := bn_some hst1
      refine pcV (C := RX7) (As := [.int q1.1, .int 0]) (rest := []) ⟨hx, hb, hml, (hown d), (dr_words hts d)⟩ (hKK.drawn d) (cwV 2 (dr_words hts d) gX7_laysChosen_X7_ofRegion rfl rfl rfl hdX7_ofRegion ⟨Nat.le_of_ble_eq_true rfl, Nat.le_of_ble_eq_true rfl⟩) (kX7_ofRegion (l := l) (g := g) hP hc1) (va_recv (hK d) hP (ci := 7) (q0 := 0) rfl rfl) rfl hl.1 rfl (Nat.le_of_ble_eq_true rfl) dX7_laysChosen_21 ⟨Nat.zero_le _, Nat.zero_le _⟩ ?_
      refine lv_iconst (v := 1) hx hb dX7_laysChosen_24 (by decide) ?_
      refine lv_icmp_ne (tgt := 55) hx hb dX7_laysChosen_25 (by decide) (fun c2 => ?_) (fun c2 => ?_)
      · rw [if_neg c2] at hst1
        refine lv_iinc (v := q1.1 + 1) (lv' := [(2, .int (q1.1 + 1)), (0, .ref (ad 0)), (1, .int p0)]) hx hb dX7_laysChosen_55 hl (k := 0) rfl rfl (by decide) rfl (fun ls hl => ?_)
        refine lv_goto (tgt := 12) hx hb dX7_laysChosen_58 (by decide) ?_
        exact hin1 _ H locs ls () _ (Option.some.inj hst1).symm hdr trivial hP hD hS (lv_sub hl [0, 1, 2] rfl)
      · rw [if_pos c2] at hst1
        refine lv_aload_n hx hb dX7_laysChosen_28 rfl (lv_at hl 1 rfl) ?_
        refine lv_dup hx hb dX7_laysChosen_29 rfl ?_
        refine va_get (D := g.1) (ci := 7) (v := .int (q1.2 11 0)) (C := RX7) (T := TX7) (N := 26) hx hb (dr_words hts d) (fun w h => List.mem_cons_of_mem _ (List.mem_append_right _ h)) (hown d) (hK d) hP 0 rfl rfl 11 (by decide) ((dr_words hts d) (.fieldLink RX7 152 "PauseRegionsModel" "chosen" "I") (List.mem_of_getElem? (i := 1) rfl)) (fun _ h9 => h9) rfl dX7_laysChosen_30 ?_
        refine lv_iconst (v := 1) hx hb dX7_laysChosen_33 (by decide) ?_
        refine lv_iload_n hx hb dX7_laysChosen_34 rfl (lv_at hl 0 rfl) ?_
        refine lv_ishl hx hb dX7_laysChosen_35 ?_
        refine lv_ior hx hb dX7_laysChosen_36 ?_
        refine va_put (D := g.1) (ci := 7) (v := .int ((q1.2 11 0) ||| (1 <<< (q1.1 &&& 31)))) (ty := .int) (C := RX7) (T := TX7) (N := 26) hx hb (dr_words hts d) (fun w h => List.mem_cons_of_mem _ (List.mem_append_right _ h)) tyX7 tyX7_ok nmX7 (hown d) (hK d) hP hD hS 0 rfl rfl 11 (by decide) ((dr_words hts d) (.fieldLink RX7 152 "PauseRegionsModel" "chosen" "I") (List.mem_of_getElem? (i := 1) rfl)) (fun _ h9 => h9) rfl (by decide +kernel) rfl rfl (Nat.le_of_ble_eq_true rfl) dX7_laysChosen_37 (fun H locs hP hD hS => ?_)
        obtain ⟨A3, eA3, hst1⟩ := bd_some hst1
        have hP : va_P g.1 vwCl (wM g ad A3 F) H := by rw [eA3]; exact hP
        have hD : va_D Z (wM g ad A3 F) := by rw [eA3]; exact hD
        refine lv_aload_n hx hb dX7_laysChosen_40 rfl (lv_at hl 1 rfl) ?_
        refine lv_dup hx hb dX7_laysChosen_41 rfl ?_
        refine va_get (D := g.1) (ci := 7) (v := .int (A3 13 0)) (C := RX7) (T := TX7) (N := 26) hx hb (dr_words hts d) (fun w h => List.mem_cons_of_mem _ (List.mem_append_right _ h)) (hown d) (hK d) hP 0 rfl rfl 13 (by decide) ((dr_words hts d) (.fieldLink RX7 155 "PauseRegionsModel" "youngCells" "I") (List.mem_of_getElem? (i := 2) rfl)) (fun _ h9 => h9) rfl dX7_laysChosen_42 ?_
        refine lv_aload_n hx hb dX7_laysChosen_45 rfl (lv_at hl 1 rfl) ?_
        refine lv_iload_n hx hb dX7_laysChosen_46 rfl (lv_at hl 0 rfl) ?_
        refine lv_iconst (v := 1) hx hb dX7_laysChosen_47 (by decide) ?_
        obtain ⟨x2, hc2, hst1⟩ := bn_some hst1
        refine pcV (C := RX7) (As := [.int q1.1, .int 1]) (rest := [.int (A3 13 0), .ref (ad 0)]) ⟨hx, hb, hml, (hown d), (dr_words hts d)⟩ (hKK.drawn d) (cwV 2 (dr_words hts d) gX7_laysChosen_X7_ofRegion rfl rfl rfl hdX7_ofRegion ⟨Nat.le_of_ble_eq_true rfl, Nat.le_of_ble_eq_true rfl⟩) (kX7_ofRegion (l := l) (g := g) hP hc2) (va_recv (hK d) hP (ci := 7) (q0 := 0) rfl rfl) rfl hl.1 rfl (Nat.le_of_ble_eq_true rfl) dX7_laysChosen_48 ⟨Nat.zero_le _, Nat.zero_le _⟩ ?_
        refine lv_iadd hx hb dX7_laysChosen_51 ?_
        refine va_put (D := g.1) (ci := 7) (v := .int ((A3 13 0) + x2)) (ty := .int) (C := RX7) (T := TX7) (N := 26) hx hb (dr_words hts d) (fun w h => List.mem_cons_of_mem _ (List.mem_append_right _ h)) tyX7 tyX7_ok nmX7 (hown d) (hK d) hP hD hS 0 rfl rfl 13 (by decide) ((dr_words hts d) (.fieldLink RX7 155 "PauseRegionsModel" "youngCells" "I") (List.mem_of_getElem? (i := 2) rfl)) (fun _ h9 => h9) rfl (by decide +kernel) rfl rfl (Nat.le_of_ble_eq_true rfl) dX7_laysChosen_52 (fun H locs hP hD hS => ?_)
        obtain ⟨A4, eA4, hst1⟩ := bd_some hst1
        have hP : va_P g.1 vwCl (wM g ad A4 F) H := by rw [eA4]; exact hP
        have hD : va_D Z (wM g ad A4 F) := by rw [eA4]; exact hD
        refine lv_iinc (v := q1.1 + 1) (lv' := [(2, .int (q1.1 + 1)), (0, .ref (ad 0)), (1, .int p0)]) hx hb dX7_laysChosen_55 hl (k := 0) rfl rfl (by decide) rfl (fun ls hl => ?_)
        refine lv_goto (tgt := 12) hx hb dX7_laysChosen_58 (by decide) ?_
        exact hin1 _ H locs ls () _ (Option.some.inj hst1).symm hdr trivial hP hD hS (lv_sub hl [0, 1, 2] rfl)
def sX7_chooses (A : IA) (Fc : FA) (p0 : Int32) : Option (Int32 × IA × FA) :=
  bd (sc A 0 0) fun A1 => (sX7_isGoal p0).bind fun x1 => if x1 = 0 then (some (((-1), A1, Fc))) else ((sX7_laysChosen A1 Fc p0).bind fun z1 => some (((z1.1 11 0), z1.1, z1.2)))
abbrev rmX7_chooses : Room := { frames := 3, cells := 0, slots := 0, locals := 68 }
theorem hdX7_chooses : yX7_chooses.cls = RX7 ∧ yX7_chooses.cls ≠ "java/lang/invoke/MethodHandle" ∧ yX7_chooses.cls ≠ "java/lang/invoke/VarHandle" ∧ (parseMethodDescriptor yX7_chooses.desc).map (fun d => d.parameters.length) = some 1 := by decide +kernel
set_option maxHeartbeats 4000000 in
set_option maxRecDepth 100000 in
theorem kX7_chooses {l : Launch} {g : GG} {sz : Nat} {ad : Nat → Nat} {A : IA} {F : FA} {p0 : Int32} {Fc : FA} (hAL : AL F Fc) {b : Int32 × IA × FA} (hsem : sX7_chooses A Fc p0 = some b) : MetDI l yX7_chooses wsX7_chooses rmX7_chooses g [.ref (ad 0), .int p0] (wM g ad A F) sz b.1 (φ := FA) (fun u => AL u b.2.2) (fun u => wM g ad b.2.1 u) := by
  refine MetD.ofW (cc := cX7_chooses) (maxL := 2) (ret := (some .int)) (by decide) rfl ?_
  intro p e s m args below meth c s₁ B hml hv hdr
  obtain ⟨rfl, hsz, hP, hD0, hKK⟩ := hv
  subst hsz
  have hx := B.exec
  have hb := B.bytes
  have hr := B.returns
  have hts := atoms_spec (ws := wsX7_chooses) B.pre
  have hown : ∀ d, (s.setDrawn d).vm.findClass RX7 = some m.cls := fun _ => findClass_of_methodNamed B.named
  have hlocks := B.notSynchronized
  have hK : ∀ d, va_K g.1 vwCl (KT g) (s.setDrawn d) := fun d => (hKK.drawn d).1
  have hD := hD0.self (sz := s.heap.size)
  generalize hZe : va_A (wM g ad A F) s.heap.size = Z at hD ⊢
  have hZ : ∀ q : Nat, s.heap.size ≤ q → Z q := fun q h => by rw [← hZe]; exact Or.inr h
  have hS : va_S Z s.heap s.heap [] := va_S.rf
  have hP : va_P g.1 vwCl (wM g ad A F) s.heap := hP
  have hD : va_D Z (wM g ad A F) := hD
  obtain ⟨d, hdr, hdd⟩ : ∃ d, s.drawn.sameBut d lw_cs ∧ s.drawn = d := ⟨_, hdr, rfl⟩
  rw [hdd]
  have hl := lv_entry ([.ref (ad 0), .int p0]) (n := 2) (Nat.le_of_ble_eq_true rfl)
  rw [lg_entry_eq]
  generalize (lg_sl ([.ref (ad 0), .int p0]) ++ List.replicate (2 - (lg_sl ([.ref (ad 0), .int p0])).length) Slot.unset).toArray = ls at hl ⊢
  have hl : lv_has ls 2 [(0, .ref (ad 0)), (1, .int p0)] := hl
  unfold sX7_chooses at hsem
  refine lv_aload_n hx hb dX7_chooses_0 rfl (lv_at hl 0 rfl) ?_
  refine lv_iconst (v := 0) hx hb dX7_chooses_1 (by decide) ?_
  refine va_put (D := g.1) (ci := 7) (v := .int 0) (ty := .int) (C := RX7) (T := TX7) (N := 26) hx hb (dr_words hts d) (fun w h => List.mem_cons_of_mem _ (List.mem_append_right _ h)) tyX7 tyX7_ok nmX7 (hown d) (hK d) hP hD hS 0 rfl rfl 0 (by decide) ((dr_words hts d) (.fieldLink RX7 55 "PauseRegionsModel" "thrown" "I") (List.mem_of_getElem? (i := 1) rfl)) (fun _ h9 => h9) rfl (by decide +kernel) rfl rfl (Nat.le_of_ble_eq_true rfl) dX7_chooses_2 (fun H locs hP hD hS => ?_)
  obtain ⟨A1, eA1, hsem⟩ := bd_some hsem
  have hP : va_P g.1 vwCl (wM g ad A1 F) H := by rw [eA1]; exact hP
  have hD : va_D Z (wM g ad A1 F) := by rw [eA1]; exact hD
  refine lv_iload_n hx hb dX7_chooses_5 rfl (lv_at hl 1 rfl) ?_
  obtain ⟨x1, hc1, hsem⟩ := bn_some hsem
  refine pcS (As := [.int p0]) (rest := []) ⟨hx, hb, hml, (hown d), (dr_words hts d)⟩ (hKK.drawn d) (va_cwS 1 (dr_words hts d) gX7_chooses_X7_isGoal rfl rfl rfl hdX7_isGoal ⟨Nat.le_of_ble_eq_true rfl, Nat.le_of_ble_eq_true rfl⟩) (kX7_isGoal (l := l) (g := g) hc1) rfl hl.1 rfl (Nat.le_of_ble_eq_true rfl) dX7_chooses_6 ⟨Nat.zero_le _, Nat.zero_le _⟩ ?_
  refine lv_if_ne (tgt := 14) hx hb dX7_chooses_9 (by decide) (fun c1 => ?_) (fun c1 => ?_)
  · rw [if_neg c1] at hsem
    refine lv_aload_n hx hb dX7_chooses_14 rfl (lv_at hl 0 rfl) ?_
    refine lv_iload_n hx hb dX7_chooses_15 rfl (lv_at hl 1 rfl) ?_
    obtain ⟨z1, hc2, hsem⟩ := bn_some hsem
    refine dcV (C := RX7) (As := [.int p0]) (rest := []) hdr ⟨hx, hb, hml, (hown d), (dr_words hts d)⟩ (hKK.drawn d) hP hD hS hZ (cwV 1 (dr_words hts d) gX7_chooses_X7_laysChosen rfl rfl rfl hdX7_laysChosen ⟨Nat.le_of_ble_eq_true rfl, Nat.le_of_ble_eq_true rfl⟩) (kX7_laysChosen (l := l) (g := g) (ad := ad) (A := A1) (F := F) (Fc := Fc) hAL hc2) (va_recv (hK d) hP (ci := 7) (q0 := 0) rfl rfl) rfl hl.1 rfl (Nat.le_of_ble_eq_true rfl) dX7_chooses_16 ⟨Nat.zero_le _, Nat.zero_le _⟩ (fun u1 H locs d hpo hP hD hS hdr => ?_)
    have hq1 := hpo
    have hP : va_P g.1 vwCl (wM g ad z1.1 u1) H := hP
    have hD : va_D Z (wM g ad z1.1 u1) := hD
    refine lv_aload_n hx hb dX7_chooses_19 rfl (lv_at hl 0 rfl) ?_
    refine va_get (D := g.1) (ci := 7) (v := .int (z1.1 11 0)) (C := RX7) (T := TX7) (N := 26) hx hb (dr_words hts d) (fun w h => List.mem_cons_of_mem _ (List.mem_append_right _ h)) (hown d) (hK d) hP 0 rfl rfl 11 (by decide) ((dr_words hts d) (.fieldLink RX7 152 "PauseRegionsModel" "chosen" "I") (List.mem_of_getElem? (i := 2) rfl)) (fun _ h9 => h9) rfl dX7_chooses_20 ?_
    have eo := (Option.some.inj hsem).symm.symm
    refine W.endD hdr ?_
    subst eo
    exact W.iret (v := (z1.1 11 0)) hx hb hr (fun t ht hW => ⟨⟨_, u1, rfl, ⟨rfl, hq1⟩, ⟨by rw [ht]; exact hP, hD⟩⟩, hS.F ht⟩) hS.2.2 dX7_chooses_23
  · rw [if_pos c1] at hsem
    refine lv_iconst (v := (-1)) hx hb dX7_chooses_12 (by decide) ?_
    have eo := (Option.some.inj hsem).symm.symm
    refine W.endD hdr ?_
    subst eo
    exact W.iret (v := (-1)) hx hb hr (fun t ht hW => ⟨⟨_, F, rfl, ⟨rfl, hAL⟩, ⟨by rw [ht]; exact hP, hD⟩⟩, hS.F ht⟩) hS.2.2 dX7_chooses_13
def sX7_lowestFree_L15 (A : IA) (p0 : Int32) (q1 : Int32) (q2 : Int32 × Int32) : Option ((Int32 × Int32) ⊕ (Int32)) :=
  if (q1 + p0) ≤ q2.2 then (some (.inr q2.1)) else (if q2.1 = 0 then (some (.inl (0, q2.2 + 1))) else ((sX7_ofRegion A q2.2 0).bind fun x1 => if x1 = 0 then (some (.inl (1, q2.2 + 1))) else (some (.inl (0, q2.2 + 1)))))
def sX7_lowestFree_L2 (A : IA) (p0 : Int32) (q1 : Int32) : Option ((Int32) ⊕ (Int32)) :=
  if 10 < (q1 + p0) then (some (.inr (-9))) else ((loopN (sX7_lowestFree_L15 A p0 q1) 2000 (1, q1)).bind fun q3 => if q3 = 0 then (some (.inl (q1 + 1))) else (some (.inr q1)))
def sX7_lowestFree (A : IA) (p0 : Int32) : Option (Int32) :=
  loopN (sX7_lowestFree_L2 A p0) 2000 0
abbrev rmX7_lowestFree : Room := { frames := 1, cells := 0, slots := 0, locals := 22 }
theorem hdX7_lowestFree : yX7_lowestFree.cls = RX7 ∧ yX7_lowestFree.cls ≠ "java/lang/invoke/MethodHandle" ∧ yX7_lowestFree.cls ≠ "java/lang/invoke/VarHandle" ∧ (parseMethodDescriptor yX7_lowestFree.desc).map (fun d => d.parameters.length) = some 1 := by decide +kernel
set_option maxHeartbeats 4000000 in
set_option maxRecDepth 100000 in
theorem kX7_lowestFree {l : Launch} {g : GG} {H0 : Heap} {ad : Nat → Nat} {A : IA} {F : FA} {p0 : Int32} {b : Int32} (hP : va_P g.1 vwCl (wM g ad A F) H0) (hsem : sX7_lowestFree A p0 = some b) : MetP l yX7_lowestFree wsX7_lowestFree rmX7_lowestFree g H0 [.ref (ad 0), .int p0] b := by
  refine Met.ofW (cc := cX7_lowestFree) (maxL := 5) (ret := (some .int)) (by decide) rfl ?_
  intro p e s m args below meth c s₁ B hml hv
  obtain ⟨rfl, hH, hKK⟩ := hv
  subst hH
  have hx := B.exec
  have hb := B.bytes
  have hr := B.returns
  have hts := atoms_spec (ws := wsX7_lowestFree) B.pre
  have hown : s.vm.findClass RX7 = some m.cls := findClass_of_methodNamed B.named
  have hlocks := B.notSynchronized
  have hK := hKK.1
  have hl := lv_entry ([.ref (ad 0), .int p0]) (n := 5) (Nat.le_of_ble_eq_true rfl)
  rw [lg_entry_eq]
  generalize (lg_sl ([.ref (ad 0), .int p0]) ++ List.replicate (5 - (lg_sl ([.ref (ad 0), .int p0])).length) Slot.unset).toArray = ls at hl ⊢
  have hl : lv_has ls 5 [(0, .ref (ad 0)), (1, .int p0)] := hl
  unfold sX7_lowestFree at hsem
  refine lv_iconst (v := 0) hx hb dX7_lowestFree_0 (by decide) ?_
  refine lv_istore_n (lv' := [(2, .int 0), (0, .ref (ad 0)), (1, .int p0)]) hx hb dX7_lowestFree_1 rfl hl (by decide) rfl (fun ls hl => ?_)
  refine loopPe hsem (fun (q1 : Int32) => [(2, .int q1), (0, .ref (ad 0)), (1, .int p0)]) (lv_sub hl [0, 1, 2] rfl) (fun q1 r hst1 hin1 hout1 ls hl => ?_)
  unfold sX7_lowestFree_L2 at hst1
  refine lv_iload_n hx hb dX7_lowestFree_2 rfl (lv_at hl 0 rfl) ?_
  refine lv_iload_n hx hb dX7_lowestFree_3 rfl (lv_at hl 2 rfl) ?_
  refine lv_iadd hx hb dX7_lowestFree_4 ?_
  refine lv_bipush (v := 10) hx hb dX7_lowestFree_5 (by decide) ?_
  refine lv_icmp_gt (tgt := 61) hx hb dX7_lowestFree_7 (by decide) (fun c1 => ?_) (fun c1 => ?_)
  · rw [if_pos c1] at hst1
    refine lv_bipush (v := (-9)) hx hb dX7_lowestFree_61 (by decide) ?_
    have eo := (hout1 _ (Option.some.inj hst1).symm).symm.symm
    exact W.iret (v := (-9)) hx hb hr (fun t ht hW => ⟨⟨_, (), rfl, eo, ht⟩, (va_S.rf (A := fun _ => False) (H0 := s.heap)).F ht⟩) (fun q hq => absurd hq List.not_mem_nil) dX7_lowestFree_63
  · rw [if_neg c1] at hst1
    refine lv_iconst (v := 1) hx hb dX7_lowestFree_10 (by decide) ?_
    refine lv_istore_n (lv' := [(3, .int 1), (2, .int q1), (0, .ref (ad 0)), (1, .int p0)]) hx hb dX7_lowestFree_11 rfl hl (by decide) rfl (fun ls hl => ?_)
    refine lv_iload_n hx hb dX7_lowestFree_12 rfl (lv_at hl 1 rfl) ?_
    refine lv_istore (lv' := [(4, .int q1), (3, .int 1), (2, .int q1), (0, .ref (ad 0)), (1, .int p0)]) hx hb dX7_lowestFree_13 hl (by decide) rfl (fun ls hl => ?_)
    obtain ⟨q3, hc2, hst1⟩ := bn_some hst1
    refine loopP hc2 (fun (q2 : Int32 × Int32) => [(4, .int q2.2), (3, .int q2.1), (2, .int q1), (0, .ref (ad 0)), (1, .int p0)]) (fun (q2 : Int32) => [(3, .int q2), (2, .int q1), (0, .ref (ad 0)), (1, .int p0)]) (exit := 49) (lv_sub hl [0, 1, 2, 3, 4] rfl) (fun ls hl => ?_) (fun q2 r hst2 hin2 hout2 ls hl => ?_)
    · skip
      refine lv_iload_n hx hb dX7_lowestFree_49 rfl (lv_at hl 0 rfl) ?_
      refine lv_if_eq (tgt := 55) hx hb dX7_lowestFree_50 (by decide) (fun c5 => ?_) (fun c5 => ?_)
      · rw [if_pos c5] at hst1
        refine lv_iinc (v := q1 + 1) (lv' := [(2, .int (q1 + 1)), (3, .int q3), (0, .ref (ad 0)), (1, .int p0)]) hx hb dX7_lowestFree_55 hl (k := 1) rfl rfl (by decide) rfl (fun ls hl => ?_)
        refine lv_goto (tgt := 2) hx hb dX7_lowestFree_58 (by decide) ?_
        exact hin1 ls _ (Option.some.inj hst1).symm (lv_sub hl [0, 2, 3] rfl)
      · rw [if_neg c5] at hst1
        refine lv_iload_n hx hb dX7_lowestFree_53 rfl (lv_at hl 1 rfl) ?_
        have eo := (hout1 _ (Option.some.inj hst1).symm).symm.symm
        exact W.iret (v := q1) hx hb hr (fun t ht hW => ⟨⟨_, (), rfl, eo, ht⟩, (va_S.rf (A := fun _ => False) (H0 := s.heap)).F ht⟩) (fun q hq => absurd hq List.not_mem_nil) dX7_lowestFree_54
    · unfold sX7_lowestFree_L15 at hst2
      refine lv_iload hx hb dX7_lowestFree_15 (lv_at hl 0 rfl) ?_
      refine lv_iload_n hx hb dX7_lowestFree_17 rfl (lv_at hl 2 rfl) ?_
      refine lv_iload_n hx hb dX7_lowestFree_18 rfl (lv_at hl 4 rfl) ?_
      refine lv_iadd hx hb dX7_lowestFree_19 ?_
      refine lv_icmp_ge (tgt := 49) hx hb dX7_lowestFree_20 (by decide) (fun c2 => ?_) (fun c2 => ?_)
      · rw [if_pos c2] at hst2
        exact hout2 ls _ (Option.some.inj hst2).symm (lv_sub hl [1, 2, 3, 4] rfl)
      · rw [if_neg c2] at hst2
        refine lv_iload_n hx hb dX7_lowestFree_23 rfl (lv_at hl 1 rfl) ?_
        refine lv_if_eq (tgt := 41) hx hb dX7_lowestFree_24 (by decide) (fun c3 => ?_) (fun c3 => ?_)
        · rw [if_pos c3] at hst2
          refine lv_iconst (v := 0) hx hb dX7_lowestFree_41 (by decide) ?_
          refine lv_istore_n (lv' := [(3, .int 0), (4, .int q2.2), (2, .int q1), (0, .ref (ad 0)), (1, .int p0)]) hx hb dX7_lowestFree_42 rfl hl (by decide) rfl (fun ls hl => ?_)
          refine lv_iinc (v := q2.2 + 1) (lv' := [(4, .int (q2.2 + 1)), (3, .int 0), (2, .int q1), (0, .ref (ad 0)), (1, .int p0)]) hx hb dX7_lowestFree_43 hl (k := 1) rfl rfl (by decide) rfl (fun ls hl => ?_)
          refine lv_goto (tgt := 15) hx hb dX7_lowestFree_46 (by decide) ?_
          exact hin2 ls _ (Option.some.inj hst2).symm (lv_sub hl [0, 1, 2, 3, 4] rfl)
        · rw [if_neg c3] at hst2
          refine lv_aload_n hx hb dX7_lowestFree_27 rfl (lv_at hl 3 rfl) ?_
          refine lv_iload hx hb dX7_lowestFree_28 (lv_at hl 0 rfl) ?_
          refine lv_iconst (v := 0) hx hb dX7_lowestFree_30 (by decide) ?_
          obtain ⟨x1, hc1, hst2⟩ := bn_some hst2
          refine pcV (C := RX7) (As := [.int q2.2, .int 0]) (rest := []) ⟨hx, hb, hml, hown, hts⟩ hKK (cwV 2 hts gX7_lowestFree_X7_ofRegion rfl rfl rfl hdX7_ofRegion ⟨Nat.le_of_ble_eq_true rfl, Nat.le_of_ble_eq_true rfl⟩) (kX7_ofRegion (l := l) (g := g) hP hc1) (va_recv hK hP (ci := 7) (q0 := 0) rfl rfl) rfl hl.1 rfl (Nat.le_of_ble_eq_true rfl) dX7_lowestFree_31 ⟨Nat.zero_le _, Nat.zero_le _⟩ ?_
          refine lv_if_ne (tgt := 41) hx hb dX7_lowestFree_34 (by decide) (fun c4 => ?_) (fun c4 => ?_)
          · rw [if_neg c4] at hst2
            refine lv_iconst (v := 0) hx hb dX7_lowestFree_41 (by decide) ?_
            refine lv_istore_n (lv' := [(3, .int 0), (4, .int q2.2), (2, .int q1), (0, .ref (ad 0)), (1, .int p0)]) hx hb dX7_lowestFree_42 rfl hl (by decide) rfl (fun ls hl => ?_)
            refine lv_iinc (v := q2.2 + 1) (lv' := [(4, .int (q2.2 + 1)), (3, .int 0), (2, .int q1), (0, .ref (ad 0)), (1, .int p0)]) hx hb dX7_lowestFree_43 hl (k := 1) rfl rfl (by decide) rfl (fun ls hl => ?_)
            refine lv_goto (tgt := 15) hx hb dX7_lowestFree_46 (by decide) ?_
            exact hin2 ls _ (Option.some.inj hst2).symm (lv_sub hl [0, 1, 2, 3, 4] rfl)
          · rw [if_pos c4] at hst2
            refine lv_iconst (v := 1) hx hb dX7_lowestFree_37 (by decide) ?_
            refine lv_goto (tgt := 42) hx hb dX7_lowestFree_38 (by decide) ?_
            refine lv_istore_n (lv' := [(3, .int 1), (4, .int q2.2), (2, .int q1), (0, .ref (ad 0)), (1, .int p0)]) hx hb dX7_lowestFree_42 rfl hl (by decide) rfl (fun ls hl => ?_)
            refine lv_iinc (v := q2.2 + 1) (lv' := [(4, .int (q2.2 + 1)), (3, .int 1), (2, .int q1), (0, .ref (ad 0)), (1, .int p0)]) hx hb dX7_lowestFree_43 hl (k := 1) rfl rfl (by decide) rfl (fun ls hl => ?_)
            refine lv_goto (tgt := 15) hx hb dX7_lowestFree_46 (by decide) ?_
            exact hin2 ls _ (Option.some.inj hst2).symm (lv_sub hl [0, 1, 2, 3, 4] rfl)
def sX7_copies (A : IA) (p0 : Int32) : Option (IA) :=
  (sX7_ofThing A p0 0).bind fun x1 => if (A 19 0) = (-9) then ((sX7_lowestFree A 1).bind fun x2 => if x2 = (-9) then (bd (sc A 20 ((A 20 0) ||| (1 <<< (p0 &&& 31)))) fun A5 => bd (sc A5 22 ((A5 22 0) + 1)) fun A6 => some A6) else (bd (sc A 19 x2) fun A1 => (sX7_setsRegion A1 x2 0 2).bind fun z1 => ck ((6 * p0) + 1) 296 (bd (wr z1 1 (((6 * p0) + 1).toNatClampNeg) (z1 19 0)) fun A2 => (sX7_ofRegion A2 (A2 19 0) 1).bind fun x3 => ck ((6 * p0) + 2) 296 (bd (wr A2 1 (((6 * p0) + 2).toNatClampNeg) x3) fun A3 => (sX7_ofRegion A3 (A3 19 0) 1).bind fun x4 => (sX7_setsRegion A3 (A3 19 0) 1 (x4 + x1)).bind fun z2 => bd (sc z2 21 ((z2 21 0) + x1)) fun A4 => some A4)))) else ((sX7_ofRegion A (A 19 0) 1).bind fun x5 => if (x5 + x1) ≤ 8 then (ck ((6 * p0) + 1) 296 (bd (wr A 1 (((6 * p0) + 1).toNatClampNeg) (A 19 0)) fun A7 => (sX7_ofRegion A7 (A7 19 0) 1).bind fun x6 => ck ((6 * p0) + 2) 296 (bd (wr A7 1 (((6 * p0) + 2).toNatClampNeg) x6) fun A8 => (sX7_ofRegion A8 (A8 19 0) 1).bind fun x7 => (sX7_setsRegion A8 (A8 19 0) 1 (x7 + x1)).bind fun z3 => bd (sc z3 21 ((z3 21 0) + x1)) fun A9 => some A9))) else ((sX7_lowestFree A 1).bind fun x8 => if x8 = (-9) then (bd (sc A 20 ((A 20 0) ||| (1 <<< (p0 &&& 31)))) fun A14 => bd (sc A14 22 ((A14 22 0) + 1)) fun A15 => some A15) else (bd (sc A 19 x8) fun A10 => (sX7_setsRegion A10 x8 0 2).bind fun z4 => ck ((6 * p0) + 1) 296 (bd (wr z4 1 (((6 * p0) + 1).toNatClampNeg) (z4 19 0)) fun A11 => (sX7_ofRegion A11 (A11 19 0) 1).bind fun x9 => ck ((6 * p0) + 2) 296 (bd (wr A11 1 (((6 * p0) + 2).toNatClampNeg) x9) fun A12 => (sX7_ofRegion A12 (A12 19 0) 1).bind fun x10 => (sX7_setsRegion A12 (A12 19 0) 1 (x10 + x1)).bind fun z5 => bd (sc z5 21 ((z5 21 0) + x1)) fun A13 => some A13)))))
abbrev rmX7_copies : Room := { frames := 2, cells := 0, slots := 0, locals := 46 }
theorem hdX7_copies : yX7_copies.cls = RX7 ∧ yX7_copies.cls ≠ "java/lang/invoke/MethodHandle" ∧ yX7_copies.cls ≠ "java/lang/invoke/VarHandle" ∧ (parseMethodDescriptor yX7_copies.desc).map (fun d => d.parameters.length) = some 1 := by decide +kernel
set_option maxHeartbeats 4000000 in
set_option maxRecDepth 100000 in
theorem kX7_copies {l : Launch} {g : GG} {sz : Nat} {ad : Nat → Nat} {A : IA} {F : FA} {p0 : Int32} {b : IA} (hsem : sX7_copies A p0 = some b) : MetV l yX7_copies wsX7_copies rmX7_copies g [.ref (ad 0), .int p0] (wM g ad A F) sz (wM g ad b F) := by
  refine Met.ofW (cc := cX7_copies) (maxL := 4) (ret := none) (by decide) rfl ?_
  intro p e s m args below meth c s₁ B hml hv
  obtain ⟨rfl, hsz, hP, hD0, hKK⟩ := hv
  subst hsz
  have hx := B.exec
  have hb := B.bytes
  have hr := B.returns
  have hts := atoms_spec (ws := wsX7_copies) B.pre
  have hown : s.vm.findClass RX7 = some m.cls := findClass_of_methodNamed B.named
  have hlocks := B.notSynchronized
  have hK := hKK.1
  have hD := hD0.self (sz := s.heap.size)
  generalize hZe : va_A (wM g ad A F) s.heap.size = Z at hD ⊢
  have hZ : ∀ q : Nat, s.heap.size ≤ q → Z q := fun q h => by rw [← hZe]; exact Or.inr h
  have hS : va_S Z s.heap s.heap [] := va_S.rf
  have hP : va_P g.1 vwCl (wM g ad A F) s.heap := hP
  have hD : va_D Z (wM g ad A F) := hD
  have hl := lv_entry ([.ref (ad 0), .int p0]) (n := 4) (Nat.le_of_ble_eq_true rfl)
  rw [lg_entry_eq]
  generalize (lg_sl ([.ref (ad 0), .int p0]) ++ List.replicate (4 - (lg_sl ([.ref (ad 0), .int p0])).length) Slot.unset).toArray = ls at hl ⊢
  have hl : lv_has ls 4 [(0, .ref (ad 0)), (1, .int p0)] := hl
  unfold sX7_copies at hsem
  refine lv_aload_n hx hb dX7_copies_0 rfl (lv_at hl 0 rfl) ?_
  refine lv_iload_n hx hb dX7_copies_1 rfl (lv_at hl 1 rfl) ?_
  refine lv_iconst (v := 0) hx hb dX7_copies_2 (by decide) ?_
  obtain ⟨x1, hc1, hsem⟩ := bn_some hsem
  refine pcV (C := RX7) (As := [.int p0, .int 0]) (rest := []) ⟨hx, hb, hml, hown, hts⟩ hKK (cwV 2 hts gX7_copies_X7_ofThing rfl rfl rfl hdX7_ofThing ⟨Nat.le_of_ble_eq_true rfl, Nat.le_of_ble_eq_true rfl⟩) (kX7_ofThing (l := l) (g := g) hP hc1) (va_recv hK hP (ci := 7) (q0 := 0) rfl rfl) rfl hl.1 rfl (Nat.le_of_ble_eq_true rfl) dX7_copies_3 ⟨Nat.zero_le _, Nat.zero_le _⟩ ?_
  refine lv_istore_n (lv' := [(2, .int x1), (0, .ref (ad 0)), (1, .int p0)]) hx hb dX7_copies_6 rfl hl (by decide) rfl (fun ls hl => ?_)
  refine lv_aload_n hx hb dX7_copies_7 rfl (lv_at hl 1 rfl) ?_
  refine va_get (D := g.1) (ci := 7) (v := .int (A 19 0)) (C := RX7) (T := TX7) (N := 26) hx hb hts (fun w h => List.mem_cons_of_mem _ (List.mem_append_right _ h)) hown hK hP 0 rfl rfl 19 (by decide) (hts (.fieldLink RX7 181 "PauseRegionsModel" "into" "I") (List.mem_of_getElem? (i := 1) rfl)) (fun _ h9 => h9) rfl dX7_copies_8 ?_
  refine lv_bipush (v := (-9)) hx hb dX7_copies_11 (by decide) ?_
  refine lv_icmp_eq (tgt := 32) hx hb dX7_copies_13 (by decide) (fun c1 => ?_) (fun c1 => ?_)
  · rw [if_pos c1] at hsem
    refine lv_aload_n hx hb dX7_copies_32 rfl (lv_at hl 1 rfl) ?_
    refine lv_iconst (v := 1) hx hb dX7_copies_33 (by decide) ?_
    obtain ⟨x2, hc2, hsem⟩ := bn_some hsem
    refine pcV (C := RX7) (As := [.int 1]) (rest := []) ⟨hx, hb, hml, hown, hts⟩ hKK (cwV 1 hts gX7_copies_X7_lowestFree rfl rfl rfl hdX7_lowestFree ⟨Nat.le_of_ble_eq_true rfl, Nat.le_of_ble_eq_true rfl⟩) (kX7_lowestFree (l := l) (g := g) hP hc2) (va_recv hK hP (ci := 7) (q0 := 0) rfl rfl) rfl hl.1 rfl (Nat.le_of_ble_eq_true rfl) dX7_copies_34 ⟨Nat.zero_le _, Nat.zero_le _⟩ ?_
    refine lv_istore_n (lv' := [(3, .int x2), (2, .int x1), (0, .ref (ad 0)), (1, .int p0)]) hx hb dX7_copies_37 rfl hl (by decide) rfl (fun ls hl => ?_)
    refine lv_iload_n hx hb dX7_copies_38 rfl (lv_at hl 0 rfl) ?_
    refine lv_bipush (v := (-9)) hx hb dX7_copies_39 (by decide) ?_
    refine lv_icmp_ne (tgt := 67) hx hb dX7_copies_41 (by decide) (fun c2 => ?_) (fun c2 => ?_)
    · rw [if_neg c2] at hsem
      refine lv_aload_n hx hb dX7_copies_67 rfl (lv_at hl 2 rfl) ?_
      refine lv_iload_n hx hb dX7_copies_68 rfl (lv_at hl 0 rfl) ?_
      refine va_put (D := g.1) (ci := 7) (v := .int x2) (ty := .int) (C := RX7) (T := TX7) (N := 26) hx hb hts (fun w h => List.mem_cons_of_mem _ (List.mem_append_right _ h)) tyX7 tyX7_ok nmX7 hown hK hP hD hS 0 rfl rfl 19 (by decide) (hts (.fieldLink RX7 181 "PauseRegionsModel" "into" "I") (List.mem_of_getElem? (i := 1) rfl)) (fun _ h9 => h9) rfl (by decide +kernel) rfl rfl (Nat.le_of_ble_eq_true rfl) dX7_copies_69 (fun H locs hP hD hS => ?_)
      obtain ⟨A1, eA1, hsem⟩ := bd_some hsem
      have hP : va_P g.1 vwCl (wM g ad A1 F) H := by rw [eA1]; exact hP
      have hD : va_D Z (wM g ad A1 F) := by rw [eA1]; exact hD
      refine lv_aload_n hx hb dX7_copies_72 rfl (lv_at hl 2 rfl) ?_
      refine lv_iload_n hx hb dX7_copies_73 rfl (lv_at hl 0 rfl) ?_
      refine lv_iconst (v := 0) hx hb dX7_copies_74 (by decide) ?_
      refine lv_iconst (v := 2) hx hb dX7_copies_75 (by decide) ?_
      obtain ⟨z1, hc3, hsem⟩ := bn_some hsem
      refine mcV (C := RX7) (As := [.int x2, .int 0, .int 2]) (rest := []) ⟨hx, hb, hml, hown, hts⟩ hKK hP hD hS hZ (cwV 3 hts gX7_copies_X7_setsRegion rfl rfl rfl hdX7_setsRegion ⟨Nat.le_of_ble_eq_true rfl, Nat.le_of_ble_eq_true rfl⟩) (kX7_setsRegion (l := l) (g := g) (ad := ad) (A := A1) (F := F) hc3) (va_recv hK hP (ci := 7) (q0 := 0) rfl rfl) rfl hl.1 rfl (Nat.le_of_ble_eq_true rfl) dX7_copies_76 ⟨Nat.zero_le _, Nat.zero_le _⟩ (fun H locs hP hD hS => ?_)
      have hP : va_P g.1 vwCl (wM g ad z1 F) H := hP
      have hD : va_D Z (wM g ad z1 F) := hD
      refine lv_aload_n hx hb dX7_copies_79 rfl (lv_at hl 2 rfl) ?_
      refine va_get (D := g.1) (ci := 7) (v := .ref (ad 1)) (C := RX7) (T := TX7) (N := 26) hx hb hts (fun w h => List.mem_cons_of_mem _ (List.mem_append_right _ h)) hown hK hP 0 rfl rfl 1 (by decide) (hts (.fieldLink RX7 7 "PauseRegionsModel" "s" "[I") (List.mem_of_getElem? (i := 4) rfl)) (fun _ h9 => h9) rfl dX7_copies_80 ?_
      refine lv_bipush (v := 6) hx hb dX7_copies_83 (by decide) ?_
      refine lv_iload_n hx hb dX7_copies_85 rfl (lv_at hl 3 rfl) ?_
      refine lv_imul hx hb dX7_copies_86 ?_
      refine lv_iconst (v := 1) hx hb dX7_copies_87 (by decide) ?_
      refine lv_iadd hx hb dX7_copies_88 ?_
      refine lv_aload_n hx hb dX7_copies_89 rfl (lv_at hl 2 rfl) ?_
      refine va_get (D := g.1) (ci := 7) (v := .int (z1 19 0)) (C := RX7) (T := TX7) (N := 26) hx hb hts (fun w h => List.mem_cons_of_mem _ (List.mem_append_right _ h)) hown hK hP 0 rfl rfl 19 (by decide) (hts (.fieldLink RX7 181 "PauseRegionsModel" "into" "I") (List.mem_of_getElem? (i := 1) rfl)) (fun _ h9 => h9) rfl dX7_copies_90 ?_
      obtain ⟨h1, hsem⟩ := ck_some hsem
      refine va_iast (D := g.1) hx hb hK hP hD hS 1 0 rfl rfl h1 dX7_copies_93 (fun H locs hP hD hS => ?_)
      obtain ⟨A2, eA2, hsem⟩ := bd_some hsem
      have hP : va_P g.1 vwCl (wM g ad A2 F) H := by rw [eA2]; exact hP
      have hD : va_D Z (wM g ad A2 F) := by rw [eA2]; exact hD
      refine lv_aload_n hx hb dX7_copies_94 rfl (lv_at hl 2 rfl) ?_
      refine va_get (D := g.1) (ci := 7) (v := .ref (ad 1)) (C := RX7) (T := TX7) (N := 26) hx hb hts (fun w h => List.mem_cons_of_mem _ (List.mem_append_right _ h)) hown hK hP 0 rfl rfl 1 (by decide) (hts (.fieldLink RX7 7 "PauseRegionsModel" "s" "[I") (List.mem_of_getElem? (i := 4) rfl)) (fun _ h9 => h9) rfl dX7_copies_95 ?_
      refine lv_bipush (v := 6) hx hb dX7_copies_98 (by decide) ?_
      refine lv_iload_n hx hb dX7_copies_100 rfl (lv_at hl 3 rfl) ?_
      refine lv_imul hx hb dX7_copies_101 ?_
      refine lv_iconst (v := 2) hx hb dX7_copies_102 (by decide) ?_
      refine lv_iadd hx hb dX7_copies_103 ?_
      refine lv_aload_n hx hb dX7_copies_104 rfl (lv_at hl 2 rfl) ?_
      refine lv_aload_n hx hb dX7_copies_105 rfl (lv_at hl 2 rfl) ?_
      refine va_get (D := g.1) (ci := 7) (v := .int (A2 19 0)) (C := RX7) (T := TX7) (N := 26) hx hb hts (fun w h => List.mem_cons_of_mem _ (List.mem_append_right _ h)) hown hK hP 0 rfl rfl 19 (by decide) (hts (.fieldLink RX7 181 "PauseRegionsModel" "into" "I") (List.mem_of_getElem? (i := 1) rfl)) (fun _ h9 => h9) rfl dX7_copies_106 ?_
      refine lv_iconst (v := 1) hx hb dX7_copies_109 (by decide) ?_
      obtain ⟨x3, hc4, hsem⟩ := bn_some hsem
      refine pcV (C := RX7) (As := [.int (A2 19 0), .int 1]) (rest := [.int ((6 * p0) + 2), .ref (ad 1)]) ⟨hx, hb, hml, hown, hts⟩ hKK (cwV 2 hts gX7_copies_X7_ofRegion rfl rfl rfl hdX7_ofRegion ⟨Nat.le_of_ble_eq_true rfl, Nat.le_of_ble_eq_true rfl⟩) (kX7_ofRegion (l := l) (g := g) hP hc4) (va_recv hK hP (ci := 7) (q0 := 0) rfl rfl) rfl hl.1 rfl (Nat.le_of_ble_eq_true rfl) dX7_copies_110 ⟨Nat.zero_le _, Nat.zero_le _⟩ ?_
      obtain ⟨h2, hsem⟩ := ck_some hsem
      refine va_iast (D := g.1) hx hb hK hP hD hS 1 0 rfl rfl h2 dX7_copies_113 (fun H locs hP hD hS => ?_)
      obtain ⟨A3, eA3, hsem⟩ := bd_some hsem
      have hP : va_P g.1 vwCl (wM g ad A3 F) H := by rw [eA3]; exact hP
      have hD : va_D Z (wM g ad A3 F) := by rw [eA3]; exact hD
      refine lv_aload_n hx hb dX7_copies_114 rfl (lv_at hl 2 rfl) ?_
      refine lv_aload_n hx hb dX7_copies_115 rfl (lv_at hl 2 rfl) ?_
      refine va_get (D := g.1) (ci := 7) (v := .int (A3 19 0)) (C := RX7) (T := TX7) (N := 26) hx hb hts (fun w h => List.mem_cons_of_mem _ (List.mem_append_right _ h)) hown hK hP 0 rfl rfl 19 (by decide) (hts (.fieldLink RX7 181 "PauseRegionsModel" "into" "I") (List.mem_of_getElem? (i := 1) rfl)) (fun _ h9 => h9) rfl dX7_copies_116 ?_
      refine lv_iconst (v := 1) hx hb dX7_copies_119 (by decide) ?_
      refine lv_aload_n hx hb dX7_copies_120 rfl (lv_at hl 2 rfl) ?_
      refine lv_aload_n hx hb dX7_copies_121 rfl (lv_at hl 2 rfl) ?_
      refine va_get (D := g.1) (ci := 7) (v := .int (A3 19 0)) (C := RX7) (T := TX7) (N := 26) hx hb hts (fun w h => List.mem_cons_of_mem _ (List.mem_append_right _ h)) hown hK hP 0 rfl rfl 19 (by decide) (hts (.fieldLink RX7 181 "PauseRegionsModel" "into" "I") (List.mem_of_getElem? (i := 1) rfl)) (fun _ h9 => h9) rfl dX7_copies_122 ?_
      refine lv_iconst (v := 1) hx hb dX7_copies_125 (by decide) ?_
      obtain ⟨x4, hc5, hsem⟩ := bn_some hsem
      refine pcV (C := RX7) (As := [.int (A3 19 0), .int 1]) (rest := [.int 1, .int (A3 19 0), .ref (ad 0)]) ⟨hx, hb, hml, hown, hts⟩ hKK (cwV 2 hts gX7_copies_X7_ofRegion rfl rfl rfl hdX7_ofRegion ⟨Nat.le_of_ble_eq_true rfl, Nat.le_of_ble_eq_true rfl⟩) (kX7_ofRegion (l := l) (g := g) hP hc5) (va_recv hK hP (ci := 7) (q0 := 0) rfl rfl) rfl hl.1 rfl (Nat.le_of_ble_eq_true rfl) dX7_copies_126 ⟨Nat.zero_le _, Nat.zero_le _⟩ ?_
      refine lv_iload_n hx hb dX7_copies_129 rfl (lv_at hl 1 rfl) ?_
      refine lv_iadd hx hb dX7_copies_130 ?_
      obtain ⟨z2, hc6, hsem⟩ := bn_some hsem
      refine mcV (C := RX7) (As := [.int (A3 19 0), .int 1, .int (x4 + x1)]) (rest := []) ⟨hx, hb, hml, hown, hts⟩ hKK hP hD hS hZ (cwV 3 hts gX7_copies_X7_setsRegion rfl rfl rfl hdX7_setsRegion ⟨Nat.le_of_ble_eq_true rfl, Nat.le_of_ble_eq_true rfl⟩) (kX7_setsRegion (l := l) (g := g) (ad := ad) (A := A3) (F := F) hc6) (va_recv hK hP (ci := 7) (q0 := 0) rfl rfl) rfl hl.1 rfl (Nat.le_of_ble_eq_true rfl) dX7_copies_131 ⟨Nat.zero_le _, Nat.zero_le _⟩ (fun H locs hP hD hS => ?_)
      have hP : va_P g.1 vwCl (wM g ad z2 F) H := hP
      have hD : va_D Z (wM g ad z2 F) := hD
      refine lv_aload_n hx hb dX7_copies_134 rfl (lv_at hl 2 rfl) ?_
      refine lv_dup hx hb dX7_copies_135 rfl ?_
      refine va_get (D := g.1) (ci := 7) (v := .int (z2 21 0)) (C := RX7) (T := TX7) (N := 26) hx hb hts (fun w h => List.mem_cons_of_mem _ (List.mem_append_right _ h)) hown hK hP 0 rfl rfl 21 (by decide) (hts (.fieldLink RX7 190 "PauseRegionsModel" "copied" "I") (List.mem_of_getElem? (i := 5) rfl)) (fun _ h9 => h9) rfl dX7_copies_136 ?_
      refine lv_iload_n hx hb dX7_copies_139 rfl (lv_at hl 1 rfl) ?_
      refine lv_iadd hx hb dX7_copies_140 ?_
      refine va_put (D := g.1) (ci := 7) (v := .int ((z2 21 0) + x1)) (ty := .int) (C := RX7) (T := TX7) (N := 26) hx hb hts (fun w h => List.mem_cons_of_mem _ (List.mem_append_right _ h)) tyX7 tyX7_ok nmX7 hown hK hP hD hS 0 rfl rfl 21 (by decide) (hts (.fieldLink RX7 190 "PauseRegionsModel" "copied" "I") (List.mem_of_getElem? (i := 5) rfl)) (fun _ h9 => h9) rfl (by decide +kernel) rfl rfl (Nat.le_of_ble_eq_true rfl) dX7_copies_141 (fun H locs hP hD hS => ?_)
      obtain ⟨A4, eA4, hsem⟩ := bd_some hsem
      have hP : va_P g.1 vwCl (wM g ad A4 F) H := by rw [eA4]; exact hP
      have hD : va_D Z (wM g ad A4 F) := by rw [eA4]; exact hD
      have eo := (Option.some.inj hsem).symm.symm
      subst eo
      exact W.vret hx hb hr (fun t ht hW => ⟨⟨(), rfl, trivial, ⟨by rw [ht]; exact hP, hD⟩⟩, hS.F ht⟩) hS.2.2 dX7_copies_144
    · rw [if_pos c2] at hsem
      refine lv_aload_n hx hb dX7_copies_44 rfl (lv_at hl 2 rfl) ?_
      refine lv_dup hx hb dX7_copies_45 rfl ?_
      refine va_get (D := g.1) (ci := 7) (v := .int (A 20 0)) (C := RX7) (T := TX7) (N := 26) hx hb hts (fun w h => List.mem_cons_of_mem _ (List.mem_append_right _ h)) hown hK hP 0 rfl rfl 20 (by decide) (hts (.fieldLink RX7 184 "PauseRegionsModel" "stay" "I") (List.mem_of_getElem? (i := 2) rfl)) (fun _ h9 => h9) rfl dX7_copies_46 ?_
      refine lv_iconst (v := 1) hx hb dX7_copies_49 (by decide) ?_
      refine lv_iload_n hx hb dX7_copies_50 rfl (lv_at hl 3 rfl) ?_
      refine lv_ishl hx hb dX7_copies_51 ?_
      refine lv_ior hx hb dX7_copies_52 ?_
      refine va_put (D := g.1) (ci := 7) (v := .int ((A 20 0) ||| (1 <<< (p0 &&& 31)))) (ty := .int) (C := RX7) (T := TX7) (N := 26) hx hb hts (fun w h => List.mem_cons_of_mem _ (List.mem_append_right _ h)) tyX7 tyX7_ok nmX7 hown hK hP hD hS 0 rfl rfl 20 (by decide) (hts (.fieldLink RX7 184 "PauseRegionsModel" "stay" "I") (List.mem_of_getElem? (i := 2) rfl)) (fun _ h9 => h9) rfl (by decide +kernel) rfl rfl (Nat.le_of_ble_eq_true rfl) dX7_copies_53 (fun H locs hP hD hS => ?_)
      obtain ⟨A5, eA5, hsem⟩ := bd_some hsem
      have hP : va_P g.1 vwCl (wM g ad A5 F) H := by rw [eA5]; exact hP
      have hD : va_D Z (wM g ad A5 F) := by rw [eA5]; exact hD
      refine lv_aload_n hx hb dX7_copies_56 rfl (lv_at hl 2 rfl) ?_
      refine lv_dup hx hb dX7_copies_57 rfl ?_
      refine va_get (D := g.1) (ci := 7) (v := .int (A5 22 0)) (C := RX7) (T := TX7) (N := 26) hx hb hts (fun w h => List.mem_cons_of_mem _ (List.mem_append_right _ h)) hown hK hP 0 rfl rfl 22 (by decide) (hts (.fieldLink RX7 187 "PauseRegionsModel" "stays" "I") (List.mem_of_getElem? (i := 3) rfl)) (fun _ h9 => h9) rfl dX7_copies_58 ?_
      refine lv_iconst (v := 1) hx hb dX7_copies_61 (by decide) ?_
      refine lv_iadd hx hb dX7_copies_62 ?_
      refine va_put (D := g.1) (ci := 7) (v := .int ((A5 22 0) + 1)) (ty := .int) (C := RX7) (T := TX7) (N := 26) hx hb hts (fun w h => List.mem_cons_of_mem _ (List.mem_append_right _ h)) tyX7 tyX7_ok nmX7 hown hK hP hD hS 0 rfl rfl 22 (by decide) (hts (.fieldLink RX7 187 "PauseRegionsModel" "stays" "I") (List.mem_of_getElem? (i := 3) rfl)) (fun _ h9 => h9) rfl (by decide +kernel) rfl rfl (Nat.le_of_ble_eq_true rfl) dX7_copies_63 (fun H locs hP hD hS => ?_)
      obtain ⟨A6, eA6, hsem⟩ := bd_some hsem
      have hP : va_P g.1 vwCl (wM g ad A6 F) H := by rw [eA6]; exact hP
      have hD : va_D Z (wM g ad A6 F) := by rw [eA6]; exact hD
      have eo := (Option.some.inj hsem).symm.symm
      subst eo
      exact W.vret hx hb hr (fun t ht hW => ⟨⟨(), rfl, trivial, ⟨by rw [ht]; exact hP, hD⟩⟩, hS.F ht⟩) hS.2.2 dX7_copies_66
  · rw [if_neg c1] at hsem
    refine lv_aload_n hx hb dX7_copies_16 rfl (lv_at hl 1 rfl) ?_
    refine lv_aload_n hx hb dX7_copies_17 rfl (lv_at hl 1 rfl) ?_
    refine va_get (D := g.1) (ci := 7) (v := .int (A 19 0)) (C := RX7) (T := TX7) (N := 26) hx hb hts (fun w h => List.mem_cons_of_mem _ (List.mem_append_right _ h)) hown hK hP 0 rfl rfl 19 (by decide) (hts (.fieldLink RX7 181 "PauseRegionsModel" "into" "I") (List.mem_of_getElem? (i := 1) rfl)) (fun _ h9 => h9) rfl dX7_copies_18 ?_
    refine lv_iconst (v := 1) hx hb dX7_copies_21 (by decide) ?_
    obtain ⟨x5, hc7, hsem⟩ := bn_some hsem
    refine pcV (C := RX7) (As := [.int (A 19 0), .int 1]) (rest := []) ⟨hx, hb, hml, hown, hts⟩ hKK (cwV 2 hts gX7_copies_X7_ofRegion rfl rfl rfl hdX7_ofRegion ⟨Nat.le_of_ble_eq_true rfl, Nat.le_of_ble_eq_true rfl⟩) (kX7_ofRegion (l := l) (g := g) hP hc7) (va_recv hK hP (ci := 7) (q0 := 0) rfl rfl) rfl hl.1 rfl (Nat.le_of_ble_eq_true rfl) dX7_copies_22 ⟨Nat.zero_le _, Nat.zero_le _⟩ ?_
    refine lv_iload_n hx hb dX7_copies_25 rfl (lv_at hl 0 rfl) ?_
    refine lv_iadd hx hb dX7_copies_26 ?_
    refine lv_bipush (v := 8) hx hb dX7_copies_27 (by decide) ?_
    refine lv_icmp_le (tgt := 79) hx hb dX7_copies_29 (by decide) (fun c3 => ?_) (fun c3 => ?_)
    · rw [if_pos c3] at hsem
      refine lv_aload_n hx hb dX7_copies_79 rfl (lv_at hl 1 rfl) ?_
      refine va_get (D := g.1) (ci := 7) (v := .ref (ad 1)) (C := RX7) (T := TX7) (N := 26) hx hb hts (fun w h => List.mem_cons_of_mem _ (List.mem_append_right _ h)) hown hK hP 0 rfl rfl 1 (by decide) (hts (.fieldLink RX7 7 "PauseRegionsModel" "s" "[I") (List.mem_of_getElem? (i := 4) rfl)) (fun _ h9 => h9) rfl dX7_copies_80 ?_
      refine lv_bipush (v := 6) hx hb dX7_copies_83 (by decide) ?_
      refine lv_iload_n hx hb dX7_copies_85 rfl (lv_at hl 2 rfl) ?_
      refine lv_imul hx hb dX7_copies_86 ?_
      refine lv_iconst (v := 1) hx hb dX7_copies_87 (by decide) ?_
      refine lv_iadd hx hb dX7_copies_88 ?_
      refine lv_aload_n hx hb dX7_copies_89 rfl (lv_at hl 1 rfl) ?_
      refine va_get (D := g.1) (ci := 7) (v := .int (A 19 0)) (C := RX7) (T := TX7) (N := 26) hx hb hts (fun w h => List.mem_cons_of_mem _ (List.mem_append_right _ h)) hown hK hP 0 rfl rfl 19 (by decide) (hts (.fieldLink RX7 181 "PauseRegionsModel" "into" "I") (List.mem_of_getElem? (i := 1) rfl)) (fun _ h9 => h9) rfl dX7_copies_90 ?_
      obtain ⟨h3, hsem⟩ := ck_some hsem
      refine va_iast (D := g.1) hx hb hK hP hD hS 1 0 rfl rfl h3 dX7_copies_93 (fun H locs hP hD hS => ?_)
      obtain ⟨A7, eA7, hsem⟩ := bd_some hsem
      have hP : va_P g.1 vwCl (wM g ad A7 F) H := by rw [eA7]; exact hP
      have hD : va_D Z (wM g ad A7 F) := by rw [eA7]; exact hD
      refine lv_aload_n hx hb dX7_copies_94 rfl (lv_at hl 1 rfl) ?_
      refine va_get (D := g.1) (ci := 7) (v := .ref (ad 1)) (C := RX7) (T := TX7) (N := 26) hx hb hts (fun w h => List.mem_cons_of_mem _ (List.mem_append_right _ h)) hown hK hP 0 rfl rfl 1 (by decide) (hts (.fieldLink RX7 7 "PauseRegionsModel" "s" "[I") (List.mem_of_getElem? (i := 4) rfl)) (fun _ h9 => h9) rfl dX7_copies_95 ?_
      refine lv_bipush (v := 6) hx hb dX7_copies_98 (by decide) ?_
      refine lv_iload_n hx hb dX7_copies_100 rfl (lv_at hl 2 rfl) ?_
      refine lv_imul hx hb dX7_copies_101 ?_
      refine lv_iconst (v := 2) hx hb dX7_copies_102 (by decide) ?_
      refine lv_iadd hx hb dX7_copies_103 ?_
      refine lv_aload_n hx hb dX7_copies_104 rfl (lv_at hl 1 rfl) ?_
      refine lv_aload_n hx hb dX7_copies_105 rfl (lv_at hl 1 rfl) ?_
      refine va_get (D := g.1) (ci := 7) (v := .int (A7 19 0)) (C := RX7) (T := TX7) (N := 26) hx hb hts (fun w h => List.mem_cons_of_mem _ (List.mem_append_right _ h)) hown hK hP 0 rfl rfl 19 (by decide) (hts (.fieldLink RX7 181 "PauseRegionsModel" "into" "I") (List.mem_of_getElem? (i := 1) rfl)) (fun _ h9 => h9) rfl dX7_copies_106 ?_
      refine lv_iconst (v := 1) hx hb dX7_copies_109 (by decide) ?_
      obtain ⟨x6, hc8, hsem⟩ := bn_some hsem
      refine pcV (C := RX7) (As := [.int (A7 19 0), .int 1]) (rest := [.int ((6 * p0) + 2), .ref (ad 1)]) ⟨hx, hb, hml, hown, hts⟩ hKK (cwV 2 hts gX7_copies_X7_ofRegion rfl rfl rfl hdX7_ofRegion ⟨Nat.le_of_ble_eq_true rfl, Nat.le_of_ble_eq_true rfl⟩) (kX7_ofRegion (l := l) (g := g) hP hc8) (va_recv hK hP (ci := 7) (q0 := 0) rfl rfl) rfl hl.1 rfl (Nat.le_of_ble_eq_true rfl) dX7_copies_110 ⟨Nat.zero_le _, Nat.zero_le _⟩ ?_
      obtain ⟨h4, hsem⟩ := ck_some hsem
      refine va_iast (D := g.1) hx hb hK hP hD hS 1 0 rfl rfl h4 dX7_copies_113 (fun H locs hP hD hS => ?_)
      obtain ⟨A8, eA8, hsem⟩ := bd_some hsem
      have hP : va_P g.1 vwCl (wM g ad A8 F) H := by rw [eA8]; exact hP
      have hD : va_D Z (wM g ad A8 F) := by rw [eA8]; exact hD
      refine lv_aload_n hx hb dX7_copies_114 rfl (lv_at hl 1 rfl) ?_
      refine lv_aload_n hx hb dX7_copies_115 rfl (lv_at hl 1 rfl) ?_
      refine va_get (D := g.1) (ci := 7) (v := .int (A8 19 0)) (C := RX7) (T := TX7) (N := 26) hx hb hts (fun w h => List.mem_cons_of_mem _ (List.mem_append_right _ h)) hown hK hP 0 rfl rfl 19 (by decide) (hts (.fieldLink RX7 181 "PauseRegionsModel" "into" "I") (List.mem_of_getElem? (i := 1) rfl)) (fun _ h9 => h9) rfl dX7_copies_116 ?_
      refine lv_iconst (v := 1) hx hb dX7_copies_119 (by decide) ?_
      refine lv_aload_n hx hb dX7_copies_120 rfl (lv_at hl 1 rfl) ?_
      refine lv_aload_n hx hb dX7_copies_121 rfl (lv_at hl 1 rfl) ?_
      refine va_get (D := g.1) (ci := 7) (v := .int (A8 19 0)) (C := RX7) (T := TX7) (N := 26) hx hb hts (fun w h => List.mem_cons_of_mem _ (List.mem_append_right _ h)) hown hK hP 0 rfl rfl 19 (by decide) (hts (.fieldLink RX7 181 "PauseRegionsModel" "into" "I") (List.mem_of_getElem? (i := 1) rfl)) (fun _ h9 => h9) rfl dX7_copies_122 ?_
      refine lv_iconst (v := 1) hx hb dX7_copies_125 (by decide) ?_
      obtain ⟨x7, hc9, hsem⟩ := bn_some hsem
      refine pcV (C := RX7) (As := [.int (A8 19 0), .int 1]) (rest := [.int 1, .int (A8 19 0), .ref (ad 0)]) ⟨hx, hb, hml, hown, hts⟩ hKK (cwV 2 hts gX7_copies_X7_ofRegion rfl rfl rfl hdX7_ofRegion ⟨Nat.le_of_ble_eq_true rfl, Nat.le_of_ble_eq_true rfl⟩) (kX7_ofRegion (l := l) (g := g) hP hc9) (va_recv hK hP (ci := 7) (q0 := 0) rfl rfl) rfl hl.1 rfl (Nat.le_of_ble_eq_true rfl) dX7_copies_126 ⟨Nat.zero_le _, Nat.zero_le _⟩ ?_
      refine lv_iload_n hx hb dX7_copies_129 rfl (lv_at hl 0 rfl) ?_
      refine lv_iadd hx hb dX7_copies_130 ?_
      obtain ⟨z3, hc10, hsem⟩ := bn_some hsem
      refine mcV (C := RX7) (As := [.int (A8 19 0), .int 1, .int (x7 + x1)]) (rest := []) ⟨hx, hb, hml, hown, hts⟩ hKK hP hD hS hZ (cwV 3 hts gX7_copies_X7_setsRegion rfl rfl rfl hdX7_setsRegion ⟨Nat.le_of_ble_eq_true rfl, Nat.le_of_ble_eq_true rfl⟩) (kX7_setsRegion (l := l) (g := g) (ad := ad) (A := A8) (F := F) hc10) (va_recv hK hP (ci := 7) (q0 := 0) rfl rfl) rfl hl.1 rfl (Nat.le_of_ble_eq_true rfl) dX7_copies_131 ⟨Nat.zero_le _, Nat.zero_le _⟩ (fun H locs hP hD hS => ?_)
      have hP : va_P g.1 vwCl (wM g ad z3 F) H := hP
      have hD : va_D Z (wM g ad z3 F) := hD
      refine lv_aload_n hx hb dX7_copies_134 rfl (lv_at hl 1 rfl) ?_
      refine lv_dup hx hb dX7_copies_135 rfl ?_
      refine va_get (D := g.1) (ci := 7) (v := .int (z3 21 0)) (C := RX7) (T := TX7) (N := 26) hx hb hts (fun w h => List.mem_cons_of_mem _ (List.mem_append_right _ h)) hown hK hP 0 rfl rfl 21 (by decide) (hts (.fieldLink RX7 190 "PauseRegionsModel" "copied" "I") (List.mem_of_getElem? (i := 5) rfl)) (fun _ h9 => h9) rfl dX7_copies_136 ?_
      refine lv_iload_n hx hb dX7_copies_139 rfl (lv_at hl 0 rfl) ?_
      refine lv_iadd hx hb dX7_copies_140 ?_
      refine va_put (D := g.1) (ci := 7) (v := .int ((z3 21 0) + x1)) (ty := .int) (C := RX7) (T := TX7) (N := 26) hx hb hts (fun w h => List.mem_cons_of_mem _ (List.mem_append_right _ h)) tyX7 tyX7_ok nmX7 hown hK hP hD hS 0 rfl rfl 21 (by decide) (hts (.fieldLink RX7 190 "PauseRegionsModel" "copied" "I") (List.mem_of_getElem? (i := 5) rfl)) (fun _ h9 => h9) rfl (by decide +kernel) rfl rfl (Nat.le_of_ble_eq_true rfl) dX7_copies_141 (fun H locs hP hD hS => ?_)
      obtain ⟨A9, eA9, hsem⟩ := bd_some hsem
      have hP : va_P g.1 vwCl (wM g ad A9 F) H := by rw [eA9]; exact hP
      have hD : va_D Z (wM g ad A9 F) := by rw [eA9]; exact hD
      have eo := (Option.some.inj hsem).symm.symm
      subst eo
      exact W.vret hx hb hr (fun t ht hW => ⟨⟨(), rfl, trivial, ⟨by rw [ht]; exact hP, hD⟩⟩, hS.F ht⟩) hS.2.2 dX7_copies_144
    · rw [if_neg c3] at hsem
      refine lv_aload_n hx hb dX7_copies_32 rfl (lv_at hl 1 rfl) ?_
      refine lv_iconst (v := 1) hx hb dX7_copies_33 (by decide) ?_
      obtain ⟨x8, hc11, hsem⟩ := bn_some hsem
      refine pcV (C := RX7) (As := [.int 1]) (rest := []) ⟨hx, hb, hml, hown, hts⟩ hKK (cwV 1 hts gX7_copies_X7_lowestFree rfl rfl rfl hdX7_lowestFree ⟨Nat.le_of_ble_eq_true rfl, Nat.le_of_ble_eq_true rfl⟩) (kX7_lowestFree (l := l) (g := g) hP hc11) (va_recv hK hP (ci := 7) (q0 := 0) rfl rfl) rfl hl.1 rfl (Nat.le_of_ble_eq_true rfl) dX7_copies_34 ⟨Nat.zero_le _, Nat.zero_le _⟩ ?_
      refine lv_istore_n (lv' := [(3, .int x8), (2, .int x1), (0, .ref (ad 0)), (1, .int p0)]) hx hb dX7_copies_37 rfl hl (by decide) rfl (fun ls hl => ?_)
      refine lv_iload_n hx hb dX7_copies_38 rfl (lv_at hl 0 rfl) ?_
      refine lv_bipush (v := (-9)) hx hb dX7_copies_39 (by decide) ?_
      refine lv_icmp_ne (tgt := 67) hx hb dX7_copies_41 (by decide) (fun c4 => ?_) (fun c4 => ?_)
      · rw [if_neg c4] at hsem
        refine lv_aload_n hx hb dX7_copies_67 rfl (lv_at hl 2 rfl) ?_
        refine lv_iload_n hx hb dX7_copies_68 rfl (lv_at hl 0 rfl) ?_
        refine va_put (D := g.1) (ci := 7) (v := .int x8) (ty := .int) (C := RX7) (T := TX7) (N := 26) hx hb hts (fun w h => List.mem_cons_of_mem _ (List.mem_append_right _ h)) tyX7 tyX7_ok nmX7 hown hK hP hD hS 0 rfl rfl 19 (by decide) (hts (.fieldLink RX7 181 "PauseRegionsModel" "into" "I") (List.mem_of_getElem? (i := 1) rfl)) (fun _ h9 => h9) rfl (by decide +kernel) rfl rfl (Nat.le_of_ble_eq_true rfl) dX7_copies_69 (fun H locs hP hD hS => ?_)
        obtain ⟨A10, eA10, hsem⟩ := bd_some hsem
        have hP : va_P g.1 vwCl (wM g ad A10 F) H := by rw [eA10]; exact hP
        have hD : va_D Z (wM g ad A10 F) := by rw [eA10]; exact hD
        refine lv_aload_n hx hb dX7_copies_72 rfl (lv_at hl 2 rfl) ?_
        refine lv_iload_n hx hb dX7_copies_73 rfl (lv_at hl 0 rfl) ?_
        refine lv_iconst (v := 0) hx hb dX7_copies_74 (by decide) ?_
        refine lv_iconst (v := 2) hx hb dX7_copies_75 (by decide) ?_
        obtain ⟨z4, hc12, hsem⟩ := bn_some hsem
        refine mcV (C := RX7) (As := [.int x8, .int 0, .int 2]) (rest := []) ⟨hx, hb, hml, hown, hts⟩ hKK hP hD hS hZ (cwV 3 hts gX7_copies_X7_setsRegion rfl rfl rfl hdX7_setsRegion ⟨Nat.le_of_ble_eq_true rfl, Nat.le_of_ble_eq_true rfl⟩) (kX7_setsRegion (l := l) (g := g) (ad := ad) (A := A10) (F := F) hc12) (va_recv hK hP (ci := 7) (q0 := 0) rfl rfl) rfl hl.1 rfl (Nat.le_of_ble_eq_true rfl) dX7_copies_76 ⟨Nat.zero_le _, Nat.zero_le _⟩ (fun H locs hP hD hS => ?_)
        have hP : va_P g.1 vwCl (wM g ad z4 F) H := hP
        have hD : va_D Z (wM g ad z4 F) := hD
        refine lv_aload_n hx hb dX7_copies_79 rfl (lv_at hl 2 rfl) ?_
        refine va_get (D := g.1) (ci := 7) (v := .ref (ad 1)) (C := RX7) (T := TX7) (N := 26) hx hb hts (fun w h => List.mem_cons_of_mem _ (List.mem_append_right _ h)) hown hK hP 0 rfl rfl 1 (by decide) (hts (.fieldLink RX7 7 "PauseRegionsModel" "s" "[I") (List.mem_of_getElem? (i := 4) rfl)) (fun _ h9 => h9) rfl dX7_copies_80 ?_
        refine lv_bipush (v := 6) hx hb dX7_copies_83 (by decide) ?_
        refine lv_iload_n hx hb dX7_copies_85 rfl (lv_at hl 3 rfl) ?_
        refine lv_imul hx hb dX7_copies_86 ?_
        refine lv_iconst (v := 1) hx hb dX7_copies_87 (by decide) ?_
        refine lv_iadd hx hb dX7_copies_88 ?_
        refine lv_aload_n hx hb dX7_copies_89 rfl (lv_at hl 2 rfl) ?_
        refine va_get (D := g.1) (ci := 7) (v := .int (z4 19 0)) (C := RX7) (T := TX7) (N := 26) hx hb hts (fun w h => List.mem_cons_of_mem _ (List.mem_append_right _ h)) hown hK hP 0 rfl rfl 19 (by decide) (hts (.fieldLink RX7 181 "PauseRegionsModel" "into" "I") (List.mem_of_getElem? (i := 1) rfl)) (fun _ h9 => h9) rfl dX7_copies_90 ?_
        obtain ⟨h5, hsem⟩ := ck_some hsem
        refine va_iast (D := g.1) hx hb hK hP hD hS 1 0 rfl rfl h5 dX7_copies_93 (fun H locs hP hD hS => ?_)
        obtain ⟨A11, eA11, hsem⟩ := bd_some hsem
        have hP : va_P g.1 vwCl (wM g ad A11 F) H := by rw [eA11]; exact hP
        have hD : va_D Z (wM g ad A11 F) := by rw [eA11]; exact hD
        refine lv_aload_n hx hb dX7_copies_94 rfl (lv_at hl 2 rfl) ?_
        refine va_get (D := g.1) (ci := 7) (v := .ref (ad 1)) (C := RX7) (T := TX7) (N := 26) hx hb hts (fun w h => List.mem_cons_of_mem _ (List.mem_append_right _ h)) hown hK hP 0 rfl rfl 1 (by decide) (hts (.fieldLink RX7 7 "PauseRegionsModel" "s" "[I") (List.mem_of_getElem? (i := 4) rfl)) (fun _ h9 => h9) rfl dX7_copies_95 ?_
        refine lv_bipush (v := 6) hx hb dX7_copies_98 (by decide) ?_
        refine lv_iload_n hx hb dX7_copies_100 rfl (lv_at hl 3 rfl) ?_
        refine lv_imul hx hb dX7_copies_101 ?_
        refine lv_iconst (v := 2) hx hb dX7_copies_102 (by decide) ?_
        refine lv_iadd hx hb dX7_copies_103 ?_
        refine lv_aload_n hx hb dX7_copies_104 rfl (lv_at hl 2 rfl) ?_
        refine lv_aload_n hx hb dX7_copies_105 rfl (lv_at hl 2 rfl) ?_
        refine va_get (D := g.1) (ci := 7) (v := .int (A11 19 0)) (C := RX7) (T := TX7) (N := 26) hx hb hts (fun w h => List.mem_cons_of_mem _ (List.mem_append_right _ h)) hown hK hP 0 rfl rfl 19 (by decide) (hts (.fieldLink RX7 181 "PauseRegionsModel" "into" "I") (List.mem_of_getElem? (i := 1) rfl)) (fun _ h9 => h9) rfl dX7_copies_106 ?_
        refine lv_iconst (v := 1) hx hb dX7_copies_109 (by decide) ?_
        obtain ⟨x9, hc13, hsem⟩ := bn_some hsem
        refine pcV (C := RX7) (As := [.int (A11 19 0), .int 1]) (rest := [.int ((6 * p0) + 2), .ref (ad 1)]) ⟨hx, hb, hml, hown, hts⟩ hKK (cwV 2 hts gX7_copies_X7_ofRegion rfl rfl rfl hdX7_ofRegion ⟨Nat.le_of_ble_eq_true rfl, Nat.le_of_ble_eq_true rfl⟩) (kX7_ofRegion (l := l) (g := g) hP hc13) (va_recv hK hP (ci := 7) (q0 := 0) rfl rfl) rfl hl.1 rfl (Nat.le_of_ble_eq_true rfl) dX7_copies_110 ⟨Nat.zero_le _, Nat.zero_le _⟩ ?_
        obtain ⟨h6, hsem⟩ := ck_some hsem
        refine va_iast (D := g.1) hx hb hK hP hD hS 1 0 rfl rfl h6 dX7_copies_113 (fun H locs hP hD hS => ?_)
        obtain ⟨A12, eA12, hsem⟩ := bd_some hsem
        have hP : va_P g.1 vwCl (wM g ad A12 F) H := by rw [eA12]; exact hP
        have hD : va_D Z (wM g ad A12 F) := by rw [eA12]; exact hD
        refine lv_aload_n hx hb dX7_copies_114 rfl (lv_at hl 2 rfl) ?_
        refine lv_aload_n hx hb dX7_copies_115 rfl (lv_at hl 2 rfl) ?_
        refine va_get (D := g.1) (ci := 7) (v := .int (A12 19 0)) (C := RX7) (T := TX7) (N := 26) hx hb hts (fun w h => List.mem_cons_of_mem _ (List.mem_append_right _ h)) hown hK hP 0 rfl rfl 19 (by decide) (hts (.fieldLink RX7 181 "PauseRegionsModel" "into" "I") (List.mem_of_getElem? (i := 1) rfl)) (fun _ h9 => h9) rfl dX7_copies_116 ?_
        refine lv_iconst (v := 1) hx hb dX7_copies_119 (by decide) ?_
        refine lv_aload_n hx hb dX7_copies_120 rfl (lv_at hl 2 rfl) ?_
        refine lv_aload_n hx hb dX7_copies_121 rfl (lv_at hl 2 rfl) ?_
        refine va_get (D := g.1) (ci := 7) (v := .int (A12 19 0)) (C := RX7) (T := TX7) (N := 26) hx hb hts (fun w h => List.mem_cons_of_mem _ (List.mem_append_right _ h)) hown hK hP 0 rfl rfl 19 (by decide) (hts (.fieldLink RX7 181 "PauseRegionsModel" "into" "I") (List.mem_of_getElem? (i := 1) rfl)) (fun _ h9 => h9) rfl dX7_copies_122 ?_
        refine lv_iconst (v := 1) hx hb dX7_copies_125 (by decide) ?_
        obtain ⟨x10, hc14, hsem⟩ := bn_some hsem
        refine pcV (C := RX7) (As := [.int (A12 19 0), .int 1]) (rest := [.int 1, .int (A12 19 0), .ref (ad 0)]) ⟨hx, hb, hml, hown, hts⟩ hKK (cwV 2 hts gX7_copies_X7_ofRegion rfl rfl rfl hdX7_ofRegion ⟨Nat.le_of_ble_eq_true rfl, Nat.le_of_ble_eq_true rfl⟩) (kX7_ofRegion (l := l) (g := g) hP hc14) (va_recv hK hP (ci := 7) (q0 := 0) rfl rfl) rfl hl.1 rfl (Nat.le_of_ble_eq_true rfl) dX7_copies_126 ⟨Nat.zero_le _, Nat.zero_le _⟩ ?_
        refine lv_iload_n hx hb dX7_copies_129 rfl (lv_at hl 1 rfl) ?_
        refine lv_iadd hx hb dX7_copies_130 ?_
        obtain ⟨z5, hc15, hsem⟩ := bn_some hsem
        refine mcV (C := RX7) (As := [.int (A12 19 0), .int 1, .int (x10 + x1)]) (rest := []) ⟨hx, hb, hml, hown, hts⟩ hKK hP hD hS hZ (cwV 3 hts gX7_copies_X7_setsRegion rfl rfl rfl hdX7_setsRegion ⟨Nat.le_of_ble_eq_true rfl, Nat.le_of_ble_eq_true rfl⟩) (kX7_setsRegion (l := l) (g := g) (ad := ad) (A := A12) (F := F) hc15) (va_recv hK hP (ci := 7) (q0 := 0) rfl rfl) rfl hl.1 rfl (Nat.le_of_ble_eq_true rfl) dX7_copies_131 ⟨Nat.zero_le _, Nat.zero_le _⟩ (fun H locs hP hD hS => ?_)
        have hP : va_P g.1 vwCl (wM g ad z5 F) H := hP
        have hD : va_D Z (wM g ad z5 F) := hD
        refine lv_aload_n hx hb dX7_copies_134 rfl (lv_at hl 2 rfl) ?_
        refine lv_dup hx hb dX7_copies_135 rfl ?_
        refine va_get (D := g.1) (ci := 7) (v := .int (z5 21 0)) (C := RX7) (T := TX7) (N := 26) hx hb hts (fun w h => List.mem_cons_of_mem _ (List.mem_append_right _ h)) hown hK hP 0 rfl rfl 21 (by decide) (hts (.fieldLink RX7 190 "PauseRegionsModel" "copied" "I") (List.mem_of_getElem? (i := 5) rfl)) (fun _ h9 => h9) rfl dX7_copies_136 ?_
        refine lv_iload_n hx hb dX7_copies_139 rfl (lv_at hl 1 rfl) ?_
        refine lv_iadd hx hb dX7_copies_140 ?_
        refine va_put (D := g.1) (ci := 7) (v := .int ((z5 21 0) + x1)) (ty := .int) (C := RX7) (T := TX7) (N := 26) hx hb hts (fun w h => List.mem_cons_of_mem _ (List.mem_append_right _ h)) tyX7 tyX7_ok nmX7 hown hK hP hD hS 0 rfl rfl 21 (by decide) (hts (.fieldLink RX7 190 "PauseRegionsModel" "copied" "I") (List.mem_of_getElem? (i := 5) rfl)) (fun _ h9 => h9) rfl (by decide +kernel) rfl rfl (Nat.le_of_ble_eq_true rfl) dX7_copies_141 (fun H locs hP hD hS => ?_)
        obtain ⟨A13, eA13, hsem⟩ := bd_some hsem
        have hP : va_P g.1 vwCl (wM g ad A13 F) H := by rw [eA13]; exact hP
        have hD : va_D Z (wM g ad A13 F) := by rw [eA13]; exact hD
        have eo := (Option.some.inj hsem).symm.symm
        subst eo
        exact W.vret hx hb hr (fun t ht hW => ⟨⟨(), rfl, trivial, ⟨by rw [ht]; exact hP, hD⟩⟩, hS.F ht⟩) hS.2.2 dX7_copies_144
      · rw [if_pos c4] at hsem
        refine lv_aload_n hx hb dX7_copies_44 rfl (lv_at hl 2 rfl) ?_
        refine lv_dup hx hb dX7_copies_45 rfl ?_
        refine va_get (D := g.1) (ci := 7) (v := .int (A 20 0)) (C := RX7) (T := TX7) (N := 26) hx hb hts (fun w h => List.mem_cons_of_mem _ (List.mem_append_right _ h)) hown hK hP 0 rfl rfl 20 (by decide) (hts (.fieldLink RX7 184 "PauseRegionsModel" "stay" "I") (List.mem_of_getElem? (i := 2) rfl)) (fun _ h9 => h9) rfl dX7_copies_46 ?_
        refine lv_iconst (v := 1) hx hb dX7_copies_49 (by decide) ?_
        refine lv_iload_n hx hb dX7_copies_50 rfl (lv_at hl 3 rfl) ?_
        refine lv_ishl hx hb dX7_copies_51 ?_
        refine lv_ior hx hb dX7_copies_52 ?_
        refine va_put (D := g.1) (ci := 7) (v := .int ((A 20 0) ||| (1 <<< (p0 &&& 31)))) (ty := .int) (C := RX7) (T := TX7) (N := 26) hx hb hts (fun w h => List.mem_cons_of_mem _ (List.mem_append_right _ h)) tyX7 tyX7_ok nmX7 hown hK hP hD hS 0 rfl rfl 20 (by decide) (hts (.fieldLink RX7 184 "PauseRegionsModel" "stay" "I") (List.mem_of_getElem? (i := 2) rfl)) (fun _ h9 => h9) rfl (by decide +kernel) rfl rfl (Nat.le_of_ble_eq_true rfl) dX7_copies_53 (fun H locs hP hD hS => ?_)
        obtain ⟨A14, eA14, hsem⟩ := bd_some hsem
        have hP : va_P g.1 vwCl (wM g ad A14 F) H := by rw [eA14]; exact hP
        have hD : va_D Z (wM g ad A14 F) := by rw [eA14]; exact hD
        refine lv_aload_n hx hb dX7_copies_56 rfl (lv_at hl 2 rfl) ?_
        refine lv_dup hx hb dX7_copies_57 rfl ?_
        refine va_get (D := g.1) (ci := 7) (v := .int (A14 22 0)) (C := RX7) (T := TX7) (N := 26) hx hb hts (fun w h => List.mem_cons_of_mem _ (List.mem_append_right _ h)) hown hK hP 0 rfl rfl 22 (by decide) (hts (.fieldLink RX7 187 "PauseRegionsModel" "stays" "I") (List.mem_of_getElem? (i := 3) rfl)) (fun _ h9 => h9) rfl dX7_copies_58 ?_
        refine lv_iconst (v := 1) hx hb dX7_copies_61 (by decide) ?_
        refine lv_iadd hx hb dX7_copies_62 ?_
        refine va_put (D := g.1) (ci := 7) (v := .int ((A14 22 0) + 1)) (ty := .int) (C := RX7) (T := TX7) (N := 26) hx hb hts (fun w h => List.mem_cons_of_mem _ (List.mem_append_right _ h)) tyX7 tyX7_ok nmX7 hown hK hP hD hS 0 rfl rfl 22 (by decide) (hts (.fieldLink RX7 187 "PauseRegionsModel" "stays" "I") (List.mem_of_getElem? (i := 3) rfl)) (fun _ h9 => h9) rfl (by decide +kernel) rfl rfl (Nat.le_of_ble_eq_true rfl) dX7_copies_63 (fun H locs hP hD hS => ?_)
        obtain ⟨A15, eA15, hsem⟩ := bd_some hsem
        have hP : va_P g.1 vwCl (wM g ad A15 F) H := by rw [eA15]; exact hP
        have hD : va_D Z (wM g ad A15 F) := by rw [eA15]; exact hD
        have eo := (Option.some.inj hsem).symm.symm
        subst eo
        exact W.vret hx hb hr (fun t ht hW => ⟨⟨(), rfl, trivial, ⟨by rw [ht]; exact hP, hD⟩⟩, hS.F ht⟩) hS.2.2 dX7_copies_66
def sX7_regionsOf_L4 (A : IA) (p0 : Int32) (q1 : Int32 × Int32) : Option ((Int32 × Int32) ⊕ (Int32)) :=
  if 10 ≤ q1.2 then (some (.inr q1.1)) else ((sX7_ofRegion A q1.2 0).bind fun x1 => if x1 = p0 then (bd (q1.1 + 1) fun x3 => some (.inl (x3, q1.2 + 1))) else (bd (q1.1 + 0) fun x2 => some (.inl (x2, q1.2 + 1))))
def sX7_regionsOf (A : IA) (p0 : Int32) : Option (Int32) :=
  (loopN (sX7_regionsOf_L4 A p0) 2000 (0, 0)).bind fun q2 => some q2
abbrev rmX7_regionsOf : Room := { frames := 1, cells := 0, slots := 0, locals := 22 }
theorem hdX7_regionsOf : yX7_regionsOf.cls = RX7 ∧ yX7_regionsOf.cls ≠ "java/lang/invoke/MethodHandle" ∧ yX7_regionsOf.cls ≠ "java/lang/invoke/VarHandle" ∧ (parseMethodDescriptor yX7_regionsOf.desc).map (fun d => d.parameters.length) = some 1 := by decide +kernel
set_option maxHeartbeats 4000000 in
set_option maxRecDepth 100000 in
theorem kX7_regionsOf {l : Launch} {g : GG} {H0 : Heap} {ad : Nat → Nat} {A : IA} {F : FA} {p0 : Int32} {b : Int32} (hP : va_P g.1 vwCl (wM g ad A F) H0) (hsem : sX7_regionsOf A p0 = some b) : MetP l yX7_regionsOf wsX7_regionsOf rmX7_regionsOf g H0 [.ref (ad 0), .int p0] b := by
  refine Met.ofW (cc := cX7_regionsOf) (maxL := 4) (ret := (some .int)) (by decide) rfl ?_
  intro p e s m args below meth c s₁ B hml hv
  obtain ⟨rfl, hH, hKK⟩ := hv
  subst hH
  have hx := B.exec
  have hb := B.bytes
  have hr := B.returns
  have hts := atoms_spec (ws := wsX7_regionsOf) B.pre
  have hown : s.vm.findClass RX7 = some m.cls := findClass_of_methodNamed B.named
  have hlocks := B.notSynchronized
  have hK := hKK.1
  have hl := lv_entry ([.ref (ad 0), .int p0]) (n := 4) (Nat.le_of_ble_eq_true rfl)
  rw [lg_entry_eq]
  generalize (lg_sl ([.ref (ad 0), .int p0]) ++ List.replicate (4 - (lg_sl ([.ref (ad 0), .int p0])).length) Slot.unset).toArray = ls at hl ⊢
  have hl : lv_has ls 4 [(0, .ref (ad 0)), (1, .int p0)] := hl
  unfold sX7_regionsOf at hsem
  refine lv_iconst (v := 0) hx hb dX7_regionsOf_0 (by decide) ?_
  refine lv_istore_n (lv' := [(2, .int 0), (0, .ref (ad 0)), (1, .int p0)]) hx hb dX7_regionsOf_1 rfl hl (by decide) rfl (fun ls hl => ?_)
  refine lv_iconst (v := 0) hx hb dX7_regionsOf_2 (by decide) ?_
  refine lv_istore_n (lv' := [(3, .int 0), (2, .int 0), (0, .ref (ad 0)), (1, .int p0)]) hx hb dX7_regionsOf_3 rfl hl (by decide) rfl (fun ls hl => ?_)
  obtain ⟨q2, hc2, hsem⟩ := bn_some hsem
  refine loopP hc2 (fun (q1 : Int32 × Int32) => [(3, .int q1.2), (2, .int q1.1), (0, .ref (ad 0)), (1, .int p0)]) (fun (q1 : Int32) => [(2, .int q1)]) (exit := 34) (lv_sub hl [0, 1, 2, 3] rfl) (fun ls hl => ?_) (fun q1 r hst1 hin1 hout1 ls hl => ?_)
  · skip
    refine lv_iload_n hx hb dX7_regionsOf_34 rfl (lv_at hl 0 rfl) ?_
    have eo := (Option.some.inj hsem).symm.symm
    exact W.iret (v := q2) hx hb hr (fun t ht hW => ⟨⟨_, (), rfl, eo, ht⟩, (va_S.rf (A := fun _ => False) (H0 := s.heap)).F ht⟩) (fun q hq => absurd hq List.not_mem_nil) dX7_regionsOf_35
  · unfold sX7_regionsOf_L4 at hst1
    refine lv_iload_n hx hb dX7_regionsOf_4 rfl (lv_at hl 0 rfl) ?_
    refine lv_bipush (v := 10) hx hb dX7_regionsOf_5 (by decide) ?_
    refine lv_icmp_ge (tgt := 34) hx hb dX7_regionsOf_7 (by decide) (fun c1 => ?_) (fun c1 => ?_)
    · rw [if_pos c1] at hst1
      exact hout1 ls _ (Option.some.inj hst1).symm (lv_sub hl [1] rfl)
    · rw [if_neg c1] at hst1
      refine lv_iload_n hx hb dX7_regionsOf_10 rfl (lv_at hl 1 rfl) ?_
      refine lv_aload_n hx hb dX7_regionsOf_11 rfl (lv_at hl 2 rfl) ?_
      refine lv_iload_n hx hb dX7_regionsOf_12 rfl (lv_at hl 0 rfl) ?_
      refine lv_iconst (v := 0) hx hb dX7_regionsOf_13 (by decide) ?_
      obtain ⟨x1, hc1, hst1⟩ := bn_some hst1
      refine pcV (C := RX7) (As := [.int q1.2, .int 0]) (rest := [.int q1.1]) ⟨hx, hb, hml, hown, hts⟩ hKK (cwV 2 hts gX7_regionsOf_X7_ofRegion rfl rfl rfl hdX7_ofRegion ⟨Nat.le_of_ble_eq_true rfl, Nat.le_of_ble_eq_true rfl⟩) (kX7_ofRegion (l := l) (g := g) hP hc1) (va_recv hK hP (ci := 7) (q0 := 0) rfl rfl) rfl hl.1 rfl (Nat.le_of_ble_eq_true rfl) dX7_regionsOf_14 ⟨Nat.zero_le _, Nat.zero_le _⟩ ?_
      refine lv_iload_n hx hb dX7_regionsOf_17 rfl (lv_at hl 3 rfl) ?_
      refine lv_icmp_ne (tgt := 25) hx hb dX7_regionsOf_18 (by decide) (fun c2 => ?_) (fun c2 => ?_)
      · rw [if_neg c2] at hst1
        refine lv_iconst (v := 0) hx hb dX7_regionsOf_25 (by decide) ?_
        refine lv_iadd hx hb dX7_regionsOf_26 ?_
        obtain ⟨x2, ex2, hst1⟩ := bd_some hst1
        rw [← ex2]
        refine lv_istore_n (lv' := [(2, .int x2), (3, .int q1.2), (0, .ref (ad 0)), (1, .int p0)]) hx hb dX7_regionsOf_27 rfl hl (by decide) rfl (fun ls hl => ?_)
        refine lv_iinc (v := q1.2 + 1) (lv' := [(3, .int (q1.2 + 1)), (2, .int x2), (0, .ref (ad 0)), (1, .int p0)]) hx hb dX7_regionsOf_28 hl (k := 1) rfl rfl (by decide) rfl (fun ls hl => ?_)
        refine lv_goto (tgt := 4) hx hb dX7_regionsOf_31 (by decide) ?_
        exact hin1 ls _ (Option.some.inj hst1).symm (lv_sub hl [0, 1, 2, 3] rfl)
      · rw [if_pos c2] at hst1
        refine lv_iconst (v := 1) hx hb dX7_regionsOf_21 (by decide) ?_
        refine lv_goto (tgt := 26) hx hb dX7_regionsOf_22 (by decide) ?_
        refine lv_iadd hx hb dX7_regionsOf_26 ?_
        obtain ⟨x3, ex3, hst1⟩ := bd_some hst1
        rw [← ex3]
        refine lv_istore_n (lv' := [(2, .int x3), (3, .int q1.2), (0, .ref (ad 0)), (1, .int p0)]) hx hb dX7_regionsOf_27 rfl hl (by decide) rfl (fun ls hl => ?_)
        refine lv_iinc (v := q1.2 + 1) (lv' := [(3, .int (q1.2 + 1)), (2, .int x3), (0, .ref (ad 0)), (1, .int p0)]) hx hb dX7_regionsOf_28 hl (k := 1) rfl rfl (by decide) rfl (fun ls hl => ?_)
        refine lv_goto (tgt := 4) hx hb dX7_regionsOf_31 (by decide) ?_
        exact hin1 ls _ (Option.some.inj hst1).symm (lv_sub hl [0, 1, 2, 3] rfl)
def sX7_count (A : IA) (p0 : Int32) : Option (Int32 × IA) :=
  bd (sc A 0 0) fun A1 => if p0 = 0 then ((sX7_things A1).bind fun x1 => some (x1, A1)) else (if p0 = 1 then ((sX7_regionsOf A1 0).bind fun x2 => some (x2, A1)) else (if p0 = 2 then ((sX7_regionsOf A1 1).bind fun x3 => some (x3, A1)) else (if p0 = 3 then (some (((A1 1) (Int32.toNatClampNeg 258), A1))) else (if p0 = 4 then (if ((A1 1) (Int32.toNatClampNeg 292)) = 1 then (some (((A1 1) (Int32.toNatClampNeg 291), A1))) else (some (0, A1))) else (if p0 = 5 then (some (((A1 1) (Int32.toNatClampNeg 292), A1))) else (if p0 = 6 then (some (((A1 1) (Int32.toNatClampNeg 293), A1))) else (if p0 = 7 then (some (((A1 1) (Int32.toNatClampNeg 294), A1))) else (if p0 = 8 then (some (((A1 5 0), A1))) else (some (((-1), A1)))))))))))
abbrev rmX7_count : Room := { frames := 3, cells := 0, slots := 0, locals := 65 }
theorem hdX7_count : yX7_count.cls = RX7 ∧ yX7_count.cls ≠ "java/lang/invoke/MethodHandle" ∧ yX7_count.cls ≠ "java/lang/invoke/VarHandle" ∧ (parseMethodDescriptor yX7_count.desc).map (fun d => d.parameters.length) = some 1 := by decide +kernel
set_option maxHeartbeats 4000000 in
set_option maxRecDepth 100000 in
theorem kX7_count {l : Launch} {g : GG} {sz : Nat} {ad : Nat → Nat} {A : IA} {F : FA} {p0 : Int32} {b : Int32 × IA} (hsem : sX7_count A p0 = some b) : MetI l yX7_count wsX7_count rmX7_count g [.ref (ad 0), .int p0] (wM g ad A F) sz b.1 (wM g ad b.2 F) := by
  refine Met.ofW (cc := cX7_count) (maxL := 2) (ret := (some .int)) (by decide) rfl ?_
  intro p e s m args below meth c s₁ B hml hv
  obtain ⟨rfl, hsz, hP, hD0, hKK⟩ := hv
  subst hsz
  have hx := B.exec
  have hb := B.bytes
  have hr := B.returns
  have hts := atoms_spec (ws := wsX7_count) B.pre
  have hown : s.vm.findClass RX7 = some m.cls := findClass_of_methodNamed B.named
  have hlocks := B.notSynchronized
  have hK := hKK.1
  have hD := hD0.self (sz := s.heap.size)
  generalize hZe : va_A (wM g ad A F) s.heap.size = Z at hD ⊢
  have hZ : ∀ q : Nat, s.heap.size ≤ q → Z q := fun q h => by rw [← hZe]; exact Or.inr h
  have hS : va_S Z s.heap s.heap [] := va_S.rf
  have hP : va_P g.1 vwCl (wM g ad A F) s.heap := hP
  have hD : va_D Z (wM g ad A F) := hD
  have hl := lv_entry ([.ref (ad 0), .int p0]) (n := 2) (Nat.le_of_ble_eq_true rfl)
  rw [lg_entry_eq]
  generalize (lg_sl ([.ref (ad 0), .int p0]) ++ List.replicate (2 - (lg_sl ([.ref (ad 0), .int p0])).length) Slot.unset).toArray = ls at hl ⊢
  have hl : lv_has ls 2 [(0, .ref (ad 0)), (1, .int p0)] := hl
  unfold sX7_count at hsem
  refine lv_aload_n hx hb dX7_count_0 rfl (lv_at hl 0 rfl) ?_
  refine lv_iconst (v := 0) hx hb dX7_count_1 (by decide) ?_
  refine va_put (D := g.1) (ci := 7) (v := .int 0) (ty := .int) (C := RX7) (T := TX7) (N := 26) hx hb hts (fun w h => List.mem_cons_of_mem _ (List.mem_append_right _ h)) tyX7 tyX7_ok nmX7 hown hK hP hD hS 0 rfl rfl 0 (by decide) (hts (.fieldLink RX7 55 "PauseRegionsModel" "thrown" "I") (List.mem_of_getElem? (i := 1) rfl)) (fun _ h9 => h9) rfl (by decide +kernel) rfl rfl (Nat.le_of_ble_eq_true rfl) dX7_count_2 (fun H locs hP hD hS => ?_)
  obtain ⟨A1, eA1, hsem⟩ := bd_some hsem
  have hP : va_P g.1 vwCl (wM g ad A1 F) H := by rw [eA1]; exact hP
  have hD : va_D Z (wM g ad A1 F) := by rw [eA1]; exact hD
  refine lv_iload_n hx hb dX7_count_5 rfl (lv_at hl 1 rfl) ?_
  by_cases c1 : p0 = 0
  · rw [if_pos c1] at hsem
    refine lv_tableIn (off := 50) (tgt := 56) hx hb dX7_count_6 (by rw [c1]; decide) (by rw [c1]; decide) (by rw [c1]; rfl) (by decide) ?_
    refine lv_aload_n hx hb dX7_count_56 rfl (lv_at hl 0 rfl) ?_
    obtain ⟨x1, hc1, hsem⟩ := bn_some hsem
    refine pcV (C := RX7) (As := []) (rest := []) ⟨hx, hb, hml, hown, hts⟩ hKK (cwV 0 hts gX7_count_X7_things rfl rfl rfl hdX7_things ⟨Nat.le_of_ble_eq_true rfl, Nat.le_of_ble_eq_true rfl⟩) (kX7_things (l := l) (g := g) hP hc1) (va_recv hK hP (ci := 7) (q0 := 0) rfl rfl) rfl hl.1 rfl (Nat.le_of_ble_eq_true rfl) dX7_count_57 ⟨Nat.zero_le _, Nat.zero_le _⟩ ?_
    have eo := (Option.some.inj hsem).symm.symm
    subst eo
    exact W.iret (v := x1) hx hb hr (fun t ht hW => ⟨⟨_, (), rfl, rfl, ⟨by rw [ht]; exact hP, hD⟩⟩, hS.F ht⟩) hS.2.2 dX7_count_60
  rw [if_neg c1] at hsem
  by_cases c2 : p0 = 1
  · rw [if_pos c2] at hsem
    refine lv_tableIn (off := 55) (tgt := 61) hx hb dX7_count_6 (by rw [c2]; decide) (by rw [c2]; decide) (by rw [c2]; rfl) (by decide) ?_
    refine lv_aload_n hx hb dX7_count_61 rfl (lv_at hl 0 rfl) ?_
    refine lv_iconst (v := 0) hx hb dX7_count_62 (by decide) ?_
    obtain ⟨x2, hc2, hsem⟩ := bn_some hsem
    refine pcV (C := RX7) (As := [.int 0]) (rest := []) ⟨hx, hb, hml, hown, hts⟩ hKK (cwV 1 hts gX7_count_X7_regionsOf rfl rfl rfl hdX7_regionsOf ⟨Nat.le_of_ble_eq_true rfl, Nat.le_of_ble_eq_true rfl⟩) (kX7_regionsOf (l := l) (g := g) hP hc2) (va_recv hK hP (ci := 7) (q0 := 0) rfl rfl) rfl hl.1 rfl (Nat.le_of_ble_eq_true rfl) dX7_count_63 ⟨Nat.zero_le _, Nat.zero_le _⟩ ?_
    have eo := (Option.some.inj hsem).symm.symm
    subst eo
    exact W.iret (v := x2) hx hb hr (fun t ht hW => ⟨⟨_, (), rfl, rfl, ⟨by rw [ht]; exact hP, hD⟩⟩, hS.F ht⟩) hS.2.2 dX7_count_66
  rw [if_neg c2] at hsem
  by_cases c3 : p0 = 2
  · rw [if_pos c3] at hsem
    refine lv_tableIn (off := 61) (tgt := 67) hx hb dX7_count_6 (by rw [c3]; decide) (by rw [c3]; decide) (by rw [c3]; rfl) (by decide) ?_
    refine lv_aload_n hx hb dX7_count_67 rfl (lv_at hl 0 rfl) ?_
    refine lv_iconst (v := 1) hx hb dX7_count_68 (by decide) ?_
    obtain ⟨x3, hc3, hsem⟩ := bn_some hsem
    refine pcV (C := RX7) (As := [.int 1]) (rest := []) ⟨hx, hb, hml, hown, hts⟩ hKK (cwV 1 hts gX7_count_X7_regionsOf rfl rfl rfl hdX7_regionsOf ⟨Nat.le_of_ble_eq_true rfl, Nat.le_of_ble_eq_true rfl⟩) (kX7_regionsOf (l := l) (g := g) hP hc3) (va_recv hK hP (ci := 7) (q0 := 0) rfl rfl) rfl hl.1 rfl (Nat.le_of_ble_eq_true rfl) dX7_count_69 ⟨Nat.zero_le _, Nat.zero_le _⟩ ?_
    have eo := (Option.some.inj hsem).symm.symm
    subst eo
    exact W.iret (v := x3) hx hb hr (fun t ht hW => ⟨⟨_, (), rfl, rfl, ⟨by rw [ht]; exact hP, hD⟩⟩, hS.F ht⟩) hS.2.2 dX7_count_72
  rw [if_neg c3] at hsem
  by_cases c4 : p0 = 3
  · rw [if_pos c4] at hsem
    refine lv_tableIn (off := 67) (tgt := 73) hx hb dX7_count_6 (by rw [c4]; decide) (by rw [c4]; decide) (by rw [c4]; rfl) (by decide) ?_
    refine lv_aload_n hx hb dX7_count_73 rfl (lv_at hl 0 rfl) ?_
    refine va_get (D := g.1) (ci := 7) (v := .ref (ad 1)) (C := RX7) (T := TX7) (N := 26) hx hb hts (fun w h => List.mem_cons_of_mem _ (List.mem_append_right _ h)) hown hK hP 0 rfl rfl 1 (by decide) (hts (.fieldLink RX7 7 "PauseRegionsModel" "s" "[I") (List.mem_of_getElem? (i := 2) rfl)) (fun _ h9 => h9) rfl dX7_count_74 ?_
    refine lv_sipush (v := 258) hx hb dX7_count_77 (by decide) ?_
    have h1 : vp_in 258 296 := inb_vp rfl
    refine va_iald (D := g.1) hx hb hK hP 1 0 rfl rfl h1 dX7_count_80 ?_
    have eo := (Option.some.inj hsem).symm.symm
    subst eo
    exact W.iret (v := (A1 1) (Int32.toNatClampNeg 258)) hx hb hr (fun t ht hW => ⟨⟨_, (), rfl, rfl, ⟨by rw [ht]; exact hP, hD⟩⟩, hS.F ht⟩) hS.2.2 dX7_count_81
  rw [if_neg c4] at hsem
  by_cases c5 : p0 = 4
  · rw [if_pos c5] at hsem
    refine lv_tableIn (off := 76) (tgt := 82) hx hb dX7_count_6 (by rw [c5]; decide) (by rw [c5]; decide) (by rw [c5]; rfl) (by decide) ?_
    refine lv_aload_n hx hb dX7_count_82 rfl (lv_at hl 0 rfl) ?_
    refine va_get (D := g.1) (ci := 7) (v := .ref (ad 1)) (C := RX7) (T := TX7) (N := 26) hx hb hts (fun w h => List.mem_cons_of_mem _ (List.mem_append_right _ h)) hown hK hP 0 rfl rfl 1 (by decide) (hts (.fieldLink RX7 7 "PauseRegionsModel" "s" "[I") (List.mem_of_getElem? (i := 2) rfl)) (fun _ h9 => h9) rfl dX7_count_83 ?_
    refine lv_sipush (v := 292) hx hb dX7_count_86 (by decide) ?_
    have h2 : vp_in 292 296 := inb_vp rfl
    refine va_iald (D := g.1) hx hb hK hP 1 0 rfl rfl h2 dX7_count_89 ?_
    refine lv_iconst (v := 1) hx hb dX7_count_90 (by decide) ?_
    refine lv_icmp_ne (tgt := 105) hx hb dX7_count_91 (by decide) (fun c6 => ?_) (fun c6 => ?_)
    · rw [if_neg c6] at hsem
      refine lv_iconst (v := 0) hx hb dX7_count_105 (by decide) ?_
      have eo := (Option.some.inj hsem).symm.symm
      subst eo
      exact W.iret (v := 0) hx hb hr (fun t ht hW => ⟨⟨_, (), rfl, rfl, ⟨by rw [ht]; exact hP, hD⟩⟩, hS.F ht⟩) hS.2.2 dX7_count_106
    · rw [if_pos c6] at hsem
      refine lv_aload_n hx hb dX7_count_94 rfl (lv_at hl 0 rfl) ?_
      refine va_get (D := g.1) (ci := 7) (v := .ref (ad 1)) (C := RX7) (T := TX7) (N := 26) hx hb hts (fun w h => List.mem_cons_of_mem _ (List.mem_append_right _ h)) hown hK hP 0 rfl rfl 1 (by decide) (hts (.fieldLink RX7 7 "PauseRegionsModel" "s" "[I") (List.mem_of_getElem? (i := 2) rfl)) (fun _ h9 => h9) rfl dX7_count_95 ?_
      refine lv_sipush (v := 291) hx hb dX7_count_98 (by decide) ?_
      have h3 : vp_in 291 296 := inb_vp rfl
      refine va_iald (D := g.1) hx hb hK hP 1 0 rfl rfl h3 dX7_count_101 ?_
      refine lv_goto (tgt := 106) hx hb dX7_count_102 (by decide) ?_
      have eo := (Option.some.inj hsem).symm.symm
      subst eo
      exact W.iret (v := (A1 1) (Int32.toNatClampNeg 291)) hx hb hr (fun t ht hW => ⟨⟨_, (), rfl, rfl, ⟨by rw [ht]; exact hP, hD⟩⟩, hS.F ht⟩) hS.2.2 dX7_count_106
  rw [if_neg c5] at hsem
  by_cases c7 : p0 = 5
  · rw [if_pos c7] at hsem
    refine lv_tableIn (off := 101) (tgt := 107) hx hb dX7_count_6 (by rw [c7]; decide) (by rw [c7]; decide) (by rw [c7]; rfl) (by decide) ?_
    refine lv_aload_n hx hb dX7_count_107 rfl (lv_at hl 0 rfl) ?_
    refine va_get (D := g.1) (ci := 7) (v := .ref (ad 1)) (C := RX7) (T := TX7) (N := 26) hx hb hts (fun w h => List.mem_cons_of_mem _ (List.mem_append_right _ h)) hown hK hP 0 rfl rfl 1 (by decide) (hts (.fieldLink RX7 7 "PauseRegionsModel" "s" "[I") (List.mem_of_getElem? (i := 2) rfl)) (fun _ h9 => h9) rfl dX7_count_108 ?_
    refine lv_sipush (v := 292) hx hb dX7_count_111 (by decide) ?_
    have h4 : vp_in 292 296 := inb_vp rfl
    refine va_iald (D := g.1) hx hb hK hP 1 0 rfl rfl h4 dX7_count_114 ?_
    have eo := (Option.some.inj hsem).symm.symm
    subst eo
    exact W.iret (v := (A1 1) (Int32.toNatClampNeg 292)) hx hb hr (fun t ht hW => ⟨⟨_, (), rfl, rfl, ⟨by rw [ht]; exact hP, hD⟩⟩, hS.F ht⟩) hS.2.2 dX7_count_115
  rw [if_neg c7] at hsem
  by_cases c8 : p0 = 6
  · rw [if_pos c8] at hsem
    refine lv_tableIn (off := 110) (tgt := 116) hx hb dX7_count_6 (by rw [c8]; decide) (by rw [c8]; decide) (by rw [c8]; rfl) (by decide) ?_
    refine lv_aload_n hx hb dX7_count_116 rfl (lv_at hl 0 rfl) ?_
    refine va_get (D := g.1) (ci := 7) (v := .ref (ad 1)) (C := RX7) (T := TX7) (N := 26) hx hb hts (fun w h => List.mem_cons_of_mem _ (List.mem_append_right _ h)) hown hK hP 0 rfl rfl 1 (by decide) (hts (.fieldLink RX7 7 "PauseRegionsModel" "s" "[I") (List.mem_of_getElem? (i := 2) rfl)) (fun _ h9 => h9) rfl dX7_count_117 ?_
    refine lv_sipush (v := 293) hx hb dX7_count_120 (by decide) ?_
    have h5 : vp_in 293 296 := inb_vp rfl
    refine va_iald (D := g.1) hx hb hK hP 1 0 rfl rfl h5 dX7_count_123 ?_
    have eo := (Option.some.inj hsem).symm.symm
    subst eo
    exact W.iret (v := (A1 1) (Int32.toNatClampNeg 293)) hx hb hr (fun t ht hW => ⟨⟨_, (), rfl, rfl, ⟨by rw [ht]; exact hP, hD⟩⟩, hS.F ht⟩) hS.2.2 dX7_count_124
  rw [if_neg c8] at hsem
  by_cases c9 : p0 = 7
  · rw [if_pos c9] at hsem
    refine lv_tableIn (off := 119) (tgt := 125) hx hb dX7_count_6 (by rw [c9]; decide) (by rw [c9]; decide) (by rw [c9]; rfl) (by decide) ?_
    refine lv_aload_n hx hb dX7_count_125 rfl (lv_at hl 0 rfl) ?_
    refine va_get (D := g.1) (ci := 7) (v := .ref (ad 1)) (C := RX7) (T := TX7) (N := 26) hx hb hts (fun w h => List.mem_cons_of_mem _ (List.mem_append_right _ h)) hown hK hP 0 rfl rfl 1 (by decide) (hts (.fieldLink RX7 7 "PauseRegionsModel" "s" "[I") (List.mem_of_getElem? (i := 2) rfl)) (fun _ h9 => h9) rfl dX7_count_126 ?_
    refine lv_sipush (v := 294) hx hb dX7_count_129 (by decide) ?_
    have h6 : vp_in 294 296 := inb_vp rfl
    refine va_iald (D := g.1) hx hb hK hP 1 0 rfl rfl h6 dX7_count_132 ?_
    have eo := (Option.some.inj hsem).symm.symm
    subst eo
    exact W.iret (v := (A1 1) (Int32.toNatClampNeg 294)) hx hb hr (fun t ht hW => ⟨⟨_, (), rfl, rfl, ⟨by rw [ht]; exact hP, hD⟩⟩, hS.F ht⟩) hS.2.2 dX7_count_133
  rw [if_neg c9] at hsem
  by_cases c10 : p0 = 8
  · rw [if_pos c10] at hsem
    refine lv_tableIn (off := 128) (tgt := 134) hx hb dX7_count_6 (by rw [c10]; decide) (by rw [c10]; decide) (by rw [c10]; rfl) (by decide) ?_
    refine lv_aload_n hx hb dX7_count_134 rfl (lv_at hl 0 rfl) ?_
    refine va_get (D := g.1) (ci := 7) (v := .int (A1 5 0)) (C := RX7) (T := TX7) (N := 26) hx hb hts (fun w h => List.mem_cons_of_mem _ (List.mem_append_right _ h)) hown hK hP 0 rfl rfl 5 (by decide) (hts (.fieldLink RX7 70 "PauseRegionsModel" "undos" "I") (List.mem_of_getElem? (i := 3) rfl)) (fun _ h9 => h9) rfl dX7_count_135 ?_
    have eo := (Option.some.inj hsem).symm.symm
    subst eo
    exact W.iret (v := (A1 5 0)) hx hb hr (fun t ht hW => ⟨⟨_, (), rfl, rfl, ⟨by rw [ht]; exact hP, hD⟩⟩, hS.F ht⟩) hS.2.2 dX7_count_138
  rw [if_neg c10] at hsem
  refine lv_tableOut (tgt := 139) hx hb dX7_count_6 (sw_out 8 rfl (fun n hn => by
    match n, hn with
    | 0, _ => exact sw_ne c1 rfl
    | 1, _ => exact sw_ne c2 rfl
    | 2, _ => exact sw_ne c3 rfl
    | 3, _ => exact sw_ne c4 rfl
    | 4, _ => exact sw_ne c5 rfl
    | 5, _ => exact sw_ne c7 rfl
    | 6, _ => exact sw_ne c8 rfl
    | 7, _ => exact sw_ne c9 rfl
    | 8, _ => exact sw_ne c10 rfl
    | n + 9, h => omega)) (by decide) ?_
  refine lv_iconst (v := (-1)) hx hb dX7_count_139 (by decide) ?_
  have eo := (Option.some.inj hsem).symm.symm
  subst eo
  exact W.iret (v := (-1)) hx hb hr (fun t ht hW => ⟨⟨_, (), rfl, rfl, ⟨by rw [ht]; exact hP, hD⟩⟩, hS.F ht⟩) hS.2.2 dX7_count_140
def sX7_dirty (A : IA) (p0 : Int32) : Option (Int32 × IA) :=
  bd (sc A 0 0) fun A1 => if 0 ≤ p0 then (if ((A1 1) (Int32.toNatClampNeg 258)) ≤ p0 then (some (((-9), A1))) else (ck (238 + p0) 296 (some (((A1 1) (238 + p0).toNatClampNeg, A1))))) else (some (((-1), A1)))
abbrev rmX7_dirty : Room := { frames := 0, cells := 0, slots := 0, locals := 0 }
theorem hdX7_dirty : yX7_dirty.cls = RX7 ∧ yX7_dirty.cls ≠ "java/lang/invoke/MethodHandle" ∧ yX7_dirty.cls ≠ "java/lang/invoke/VarHandle" ∧ (parseMethodDescriptor yX7_dirty.desc).map (fun d => d.parameters.length) = some 1 := by decide +kernel
set_option maxHeartbeats 4000000 in
set_option maxRecDepth 100000 in
theorem kX7_dirty {l : Launch} {g : GG} {sz : Nat} {ad : Nat → Nat} {A : IA} {F : FA} {p0 : Int32} {b : Int32 × IA} (hsem : sX7_dirty A p0 = some b) : MetI l yX7_dirty wsX7_dirty rmX7_dirty g [.ref (ad 0), .int p0] (wM g ad A F) sz b.1 (wM g ad b.2 F) := by
  refine Met.ofW (cc := cX7_dirty) (maxL := 2) (ret := (some .int)) (by decide) rfl ?_
  intro p e s m args below meth c s₁ B hml hv
  obtain ⟨rfl, hsz, hP, hD0, hKK⟩ := hv
  subst hsz
  have hx := B.exec
  have hb := B.bytes
  have hr := B.returns
  have hts := atoms_spec (ws := wsX7_dirty) B.pre
  have hown : s.vm.findClass RX7 = some m.cls := findClass_of_methodNamed B.named
  have hlocks := B.notSynchronized
  have hK := hKK.1
  have hD := hD0.self (sz := s.heap.size)
  generalize hZe : va_A (wM g ad A F) s.heap.size = Z at hD ⊢
  have hZ : ∀ q : Nat, s.heap.size ≤ q → Z q := fun q h => by rw [← hZe]; exact Or.inr h
  have hS : va_S Z s.heap s.heap [] := va_S.rf
  have hP : va_P g.1 vwCl (wM g ad A F) s.heap := hP
  have hD : va_D Z (wM g ad A F) := hD
  have hl := lv_entry ([.ref (ad 0), .int p0]) (n := 2) (Nat.le_of_ble_eq_true rfl)
  rw [lg_entry_eq]
  generalize (lg_sl ([.ref (ad 0), .int p0]) ++ List.replicate (2 - (lg_sl ([.ref (ad 0), .int p0])).length) Slot.unset).toArray = ls at hl ⊢
  have hl : lv_has ls 2 [(0, .ref (ad 0)), (1, .int p0)] := hl
  unfold sX7_dirty at hsem
  refine lv_aload_n hx hb dX7_dirty_0 rfl (lv_at hl 0 rfl) ?_
  refine lv_iconst (v := 0) hx hb dX7_dirty_1 (by decide) ?_
  refine va_put (D := g.1) (ci := 7) (v := .int 0) (ty := .int) (C := RX7) (T := TX7) (N := 26) hx hb hts (fun w h => List.mem_cons_of_mem _ (List.mem_append_right _ h)) tyX7 tyX7_ok nmX7 hown hK hP hD hS 0 rfl rfl 0 (by decide) (hts (.fieldLink RX7 55 "PauseRegionsModel" "thrown" "I") (List.mem_of_getElem? (i := 1) rfl)) (fun _ h9 => h9) rfl (by decide +kernel) rfl rfl (Nat.le_of_ble_eq_true rfl) dX7_dirty_2 (fun H locs hP hD hS => ?_)
  obtain ⟨A1, eA1, hsem⟩ := bd_some hsem
  have hP : va_P g.1 vwCl (wM g ad A1 F) H := by rw [eA1]; exact hP
  have hD : va_D Z (wM g ad A1 F) := by rw [eA1]; exact hD
  refine lv_iload_n hx hb dX7_dirty_5 rfl (lv_at hl 1 rfl) ?_
  refine lv_if_ge (tgt := 13) hx hb dX7_dirty_6 (by decide) (fun c1 => ?_) (fun c1 => ?_)
  · rw [if_pos c1] at hsem
    refine lv_iload_n hx hb dX7_dirty_13 rfl (lv_at hl 1 rfl) ?_
    refine lv_aload_n hx hb dX7_dirty_14 rfl (lv_at hl 0 rfl) ?_
    refine va_get (D := g.1) (ci := 7) (v := .ref (ad 1)) (C := RX7) (T := TX7) (N := 26) hx hb hts (fun w h => List.mem_cons_of_mem _ (List.mem_append_right _ h)) hown hK hP 0 rfl rfl 1 (by decide) (hts (.fieldLink RX7 7 "PauseRegionsModel" "s" "[I") (List.mem_of_getElem? (i := 2) rfl)) (fun _ h9 => h9) rfl dX7_dirty_15 ?_
    refine lv_sipush (v := 258) hx hb dX7_dirty_18 (by decide) ?_
    have h1 : vp_in 258 296 := inb_vp rfl
    refine va_iald (D := g.1) hx hb hK hP 1 0 rfl rfl h1 dX7_dirty_21 ?_
    refine lv_icmp_ge (tgt := 38) hx hb dX7_dirty_22 (by decide) (fun c2 => ?_) (fun c2 => ?_)
    · rw [if_pos c2] at hsem
      refine lv_bipush (v := (-9)) hx hb dX7_dirty_38 (by decide) ?_
      have eo := (Option.some.inj hsem).symm.symm
      subst eo
      exact W.iret (v := (-9)) hx hb hr (fun t ht hW => ⟨⟨_, (), rfl, rfl, ⟨by rw [ht]; exact hP, hD⟩⟩, hS.F ht⟩) hS.2.2 dX7_dirty_40
    · rw [if_neg c2] at hsem
      refine lv_aload_n hx hb dX7_dirty_25 rfl (lv_at hl 0 rfl) ?_
      refine va_get (D := g.1) (ci := 7) (v := .ref (ad 1)) (C := RX7) (T := TX7) (N := 26) hx hb hts (fun w h => List.mem_cons_of_mem _ (List.mem_append_right _ h)) hown hK hP 0 rfl rfl 1 (by decide) (hts (.fieldLink RX7 7 "PauseRegionsModel" "s" "[I") (List.mem_of_getElem? (i := 2) rfl)) (fun _ h9 => h9) rfl dX7_dirty_26 ?_
      refine lv_sipush (v := 238) hx hb dX7_dirty_29 (by decide) ?_
      refine lv_iload_n hx hb dX7_dirty_32 rfl (lv_at hl 1 rfl) ?_
      refine lv_iadd hx hb dX7_dirty_33 ?_
      obtain ⟨h2, hsem⟩ := ck_some hsem
      refine va_iald (D := g.1) hx hb hK hP 1 0 rfl rfl h2 dX7_dirty_34 ?_
      refine lv_goto (tgt := 40) hx hb dX7_dirty_35 (by decide) ?_
      have eo := (Option.some.inj hsem).symm.symm
      subst eo
      exact W.iret (v := (A1 1) (238 + p0).toNatClampNeg) hx hb hr (fun t ht hW => ⟨⟨_, (), rfl, rfl, ⟨by rw [ht]; exact hP, hD⟩⟩, hS.F ht⟩) hS.2.2 dX7_dirty_40
  · rw [if_neg c1] at hsem
    refine lv_iconst (v := (-1)) hx hb dX7_dirty_9 (by decide) ?_
    refine lv_goto (tgt := 40) hx hb dX7_dirty_10 (by decide) ?_
    have eo := (Option.some.inj hsem).symm.symm
    subst eo
    exact W.iret (v := (-1)) hx hb hr (fun t ht hW => ⟨⟨_, (), rfl, rfl, ⟨by rw [ht]; exact hP, hD⟩⟩, hS.F ht⟩) hS.2.2 dX7_dirty_40
