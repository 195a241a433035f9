def sX7_hasStaying_L4 (A : IA) (p0 : Int32) (q1 : Int32 × Int32) : Option ((Int32 × Int32) ⊕ (Int32)) :=
  if 32 ≤ q1.2 then (some (.inr q1.1)) else (if q1.1 = 0 then (if (((A 20 0) >>> (q1.2 &&& 31)) &&& 1) = 1 then ((sX7_ofThing A q1.2 1).bind fun x1 => if x1 = p0 then (some (.inl (1, q1.2 + 1))) else (some (.inl (0, q1.2 + 1)))) else (some (.inl (0, q1.2 + 1)))) else (some (.inl (1, q1.2 + 1))))
def sX7_hasStaying (A : IA) (p0 : Int32) : Option (Int32) :=
  (loopN (sX7_hasStaying_L4 A p0) 2000 (0, 0)).bind fun q2 => ckb q2 (some q2)
abbrev rmX7_hasStaying : Room := { frames := 1, cells := 0, slots := 0, locals := 22 }
theorem hdX7_hasStaying : yX7_hasStaying.cls = RX7 ∧ yX7_hasStaying.cls ≠ "java/lang/invoke/MethodHandle" ∧ yX7_hasStaying.cls ≠ "java/lang/invoke/VarHandle" ∧ (parseMethodDescriptor yX7_hasStaying.desc).map (fun d => d.parameters.length) = some 1 := by decide +kernel
set_option maxHeartbeats 4000000 in
set_option maxRecDepth 100000 in
theorem kX7_hasStaying {l : Launch} {g : GG} {H0 : Heap} {ad : Nat → Nat} {A : IA} {F : FA} {p0 : Int32} {b : Int32} (hP : va_P g.1 vwCl (wM g ad A F) H0) (hsem : sX7_hasStaying A p0 = some b) : MetP l yX7_hasStaying wsX7_hasStaying rmX7_hasStaying g H0 [.ref (ad 0), .int p0] b := by
  refine Met.ofW (cc := cX7_hasStaying) (maxL := 4) (ret := (some .boolean)) (by decide) rfl ?_
  intro p e s m args below meth c s₁ B hml hv
  obtain ⟨rfl, hH, hKK⟩ := hv
  subst hH
  have hx := B.exec
  have hb := B.bytes
  have hr := B.returns
  have hts := atoms_spec (ws := wsX7_hasStaying) B.pre
  have hown : s.vm.findClass RX7 = some m.cls := findClass_of_methodNamed B.named
  have hlocks := B.notSynchronized
  have hK := hKK.1
  have hl := lv_entry ([.ref (ad 0), .int p0]) (n := 4) (Nat.le_of_ble_eq_true rfl)
  rw [lg_entry_eq]
  generalize (lg_sl ([.ref (ad 0), .int p0]) ++ List.replicate (4 - (lg_sl ([.ref (ad 0), .int p0])).length) Slot.unset).toArray = ls at hl ⊢
  have hl : lv_has ls 4 [(0, .ref (ad 0)), (1, .int p0)] := hl
  unfold sX7_hasStaying at hsem
  refine lv_iconst (v := 0) hx hb dX7_hasStaying_0 (by decide) ?_
  refine lv_istore_n (lv' := [(2, .int 0), (0, .ref (ad 0)), (1, .int p0)]) hx hb dX7_hasStaying_1 rfl hl (by decide) rfl (fun ls hl => ?_)
  refine lv_iconst (v := 0) hx hb dX7_hasStaying_2 (by decide) ?_
  refine lv_istore_n (lv' := [(3, .int 0), (2, .int 0), (0, .ref (ad 0)), (1, .int p0)]) hx hb dX7_hasStaying_3 rfl hl (by decide) rfl (fun ls hl => ?_)
  obtain ⟨q2, hc2, hsem⟩ := bn_some hsem
  refine loopP hc2 (fun (q1 : Int32 × Int32) => [(3, .int q1.2), (2, .int q1.1), (0, .ref (ad 0)), (1, .int p0)]) (fun (q1 : Int32) => [(2, .int q1)]) (exit := 48) (lv_sub hl [0, 1, 2, 3] rfl) (fun ls hl => ?_) (fun q1 r hst1 hin1 hout1 ls hl => ?_)
  · skip
    refine lv_iload_n hx hb dX7_hasStaying_48 rfl (lv_at hl 0 rfl) ?_
    obtain ⟨h1, hsem⟩ := ckb_some hsem
    have eo := (Option.some.inj hsem).symm.symm
    exact W.zret (v := q2) hx hb hr (nar_bool h1) (fun t ht hW => ⟨⟨_, (), rfl, eo, ht⟩, (va_S.rf (A := fun _ => False) (H0 := s.heap)).F ht⟩) (fun q hq => absurd hq List.not_mem_nil) dX7_hasStaying_49
  · unfold sX7_hasStaying_L4 at hst1
    refine lv_iload_n hx hb dX7_hasStaying_4 rfl (lv_at hl 0 rfl) ?_
    refine lv_bipush (v := 32) hx hb dX7_hasStaying_5 (by decide) ?_
    refine lv_icmp_ge (tgt := 48) hx hb dX7_hasStaying_7 (by decide) (fun c1 => ?_) (fun c1 => ?_)
    · rw [if_pos c1] at hst1
      exact hout1 ls _ (Option.some.inj hst1).symm (lv_sub hl [1] rfl)
    · rw [if_neg c1] at hst1
      refine lv_iload_n hx hb dX7_hasStaying_10 rfl (lv_at hl 1 rfl) ?_
      refine lv_if_ne (tgt := 36) hx hb dX7_hasStaying_11 (by decide) (fun c2 => ?_) (fun c2 => ?_)
      · rw [if_neg c2] at hst1
        refine lv_iconst (v := 1) hx hb dX7_hasStaying_36 (by decide) ?_
        refine lv_goto (tgt := 41) hx hb dX7_hasStaying_37 (by decide) ?_
        refine lv_istore_n (lv' := [(2, .int 1), (3, .int q1.2), (0, .ref (ad 0)), (1, .int p0)]) hx hb dX7_hasStaying_41 rfl hl (by decide) rfl (fun ls hl => ?_)
        refine lv_iinc (v := q1.2 + 1) (lv' := [(3, .int (q1.2 + 1)), (2, .int 1), (0, .ref (ad 0)), (1, .int p0)]) hx hb dX7_hasStaying_42 hl (k := 1) rfl rfl (by decide) rfl (fun ls hl => ?_)
        refine lv_goto (tgt := 4) hx hb dX7_hasStaying_45 (by decide) ?_
        exact hin1 ls _ (Option.some.inj hst1).symm (lv_sub hl [0, 1, 2, 3] rfl)
      · rw [if_pos c2] at hst1
        refine lv_aload_n hx hb dX7_hasStaying_14 rfl (lv_at hl 2 rfl) ?_
        refine va_get (D := g.1) (ci := 7) (v := .int (A 20 0)) (C := RX7) (T := TX7) (N := 26) hx hb hts (fun w h => List.mem_cons_of_mem _ (List.mem_append_right _ h)) hown hK hP 0 rfl rfl 20 (by decide) (hts (.fieldLink RX7 184 "PauseRegionsModel" "stay" "I") (List.mem_of_getElem? (i := 1) rfl)) (fun _ h9 => h9) rfl dX7_hasStaying_15 ?_
        refine lv_iload_n hx hb dX7_hasStaying_18 rfl (lv_at hl 0 rfl) ?_
        refine lv_ishr hx hb dX7_hasStaying_19 ?_
        refine lv_iconst (v := 1) hx hb dX7_hasStaying_20 (by decide) ?_
        refine lv_iand hx hb dX7_hasStaying_21 ?_
        refine lv_iconst (v := 1) hx hb dX7_hasStaying_22 (by decide) ?_
        refine lv_icmp_ne (tgt := 40) hx hb dX7_hasStaying_23 (by decide) (fun c3 => ?_) (fun c3 => ?_)
        · rw [if_neg c3] at hst1
          refine lv_iconst (v := 0) hx hb dX7_hasStaying_40 (by decide) ?_
          refine lv_istore_n (lv' := [(2, .int 0), (3, .int q1.2), (0, .ref (ad 0)), (1, .int p0)]) hx hb dX7_hasStaying_41 rfl hl (by decide) rfl (fun ls hl => ?_)
          refine lv_iinc (v := q1.2 + 1) (lv' := [(3, .int (q1.2 + 1)), (2, .int 0), (0, .ref (ad 0)), (1, .int p0)]) hx hb dX7_hasStaying_42 hl (k := 1) rfl rfl (by decide) rfl (fun ls hl => ?_)
          refine lv_goto (tgt := 4) hx hb dX7_hasStaying_45 (by decide) ?_
          exact hin1 ls _ (Option.some.inj hst1).symm (lv_sub hl [0, 1, 2, 3] rfl)
        · rw [if_pos c3] at hst1
          refine lv_aload_n hx hb dX7_hasStaying_26 rfl (lv_at hl 2 rfl) ?_
          refine lv_iload_n hx hb dX7_hasStaying_27 rfl (lv_at hl 0 rfl) ?_
          refine lv_iconst (v := 1) hx hb dX7_hasStaying_28 (by decide) ?_
          obtain ⟨x1, hc1, hst1⟩ := bn_some hst1
          refine pcV (C := RX7) (As := [.int q1.2, .int 1]) (rest := []) ⟨hx, hb, hml, hown, hts⟩ hKK (cwV 2 hts gX7_hasStaying_X7_ofThing rfl rfl rfl hdX7_ofThing ⟨Nat.le_of_ble_eq_true rfl, Nat.le_of_ble_eq_true rfl⟩) (kX7_ofThing (l := l) (g := g) hP hc1) (va_recv hK hP (ci := 7) (q0 := 0) rfl rfl) rfl hl.1 rfl (Nat.le_of_ble_eq_true rfl) dX7_hasStaying_29 ⟨Nat.zero_le _, Nat.zero_le _⟩ ?_
          refine lv_iload_n hx hb dX7_hasStaying_32 rfl (lv_at hl 3 rfl) ?_
          refine lv_icmp_ne (tgt := 40) hx hb dX7_hasStaying_33 (by decide) (fun c4 => ?_) (fun c4 => ?_)
          · rw [if_neg c4] at hst1
            refine lv_iconst (v := 0) hx hb dX7_hasStaying_40 (by decide) ?_
            refine lv_istore_n (lv' := [(2, .int 0), (3, .int q1.2), (0, .ref (ad 0)), (1, .int p0)]) hx hb dX7_hasStaying_41 rfl hl (by decide) rfl (fun ls hl => ?_)
            refine lv_iinc (v := q1.2 + 1) (lv' := [(3, .int (q1.2 + 1)), (2, .int 0), (0, .ref (ad 0)), (1, .int p0)]) hx hb dX7_hasStaying_42 hl (k := 1) rfl rfl (by decide) rfl (fun ls hl => ?_)
            refine lv_goto (tgt := 4) hx hb dX7_hasStaying_45 (by decide) ?_
            exact hin1 ls _ (Option.some.inj hst1).symm (lv_sub hl [0, 1, 2, 3] rfl)
          · rw [if_pos c4] at hst1
            refine lv_iconst (v := 1) hx hb dX7_hasStaying_36 (by decide) ?_
            refine lv_goto (tgt := 41) hx hb dX7_hasStaying_37 (by decide) ?_
            refine lv_istore_n (lv' := [(2, .int 1), (3, .int q1.2), (0, .ref (ad 0)), (1, .int p0)]) hx hb dX7_hasStaying_41 rfl hl (by decide) rfl (fun ls hl => ?_)
            refine lv_iinc (v := q1.2 + 1) (lv' := [(3, .int (q1.2 + 1)), (2, .int 1), (0, .ref (ad 0)), (1, .int p0)]) hx hb dX7_hasStaying_42 hl (k := 1) rfl rfl (by decide) rfl (fun ls hl => ?_)
            refine lv_goto (tgt := 4) hx hb dX7_hasStaying_45 (by decide) ?_
            exact hin1 ls _ (Option.some.inj hst1).symm (lv_sub hl [0, 1, 2, 3] rfl)
def sX7_empties_L2 (q1 : Int32 × IA) : Option ((Int32 × IA) ⊕ (IA)) :=
  if 10 ≤ q1.1 then (some (.inr q1.2)) else (if (((q1.2 11 0) >>> (q1.1 &&& 31)) &&& 1) = 1 then ((sX7_emptied q1.2 q1.1 (q1.2 20 0)).bind fun z1 => (sX7_hasStaying z1 q1.1).bind fun x1 => if x1 = 0 then ((sX7_becomesFree z1 q1.1).bind fun z2 => some (.inl (q1.1 + 1, z2))) else ((sX7_setsRegion z1 q1.1 0 2).bind fun z3 => (sX7_setsRegion z3 q1.1 2 (-9)).bind fun z4 => some (.inl (q1.1 + 1, z4)))) else (some (.inl (q1.1 + 1, q1.2))))
def sX7_empties (A : IA) : Option (IA) :=
  (loopN (sX7_empties_L2) 2000 (0, A)).bind fun q2 => some q2
abbrev rmX7_empties : Room := { frames := 4, cells := 0, slots := 0, locals := 91 }
theorem hdX7_empties : yX7_empties.cls = RX7 ∧ yX7_empties.cls ≠ "java/lang/invoke/MethodHandle" ∧ yX7_empties.cls ≠ "java/lang/invoke/VarHandle" ∧ (parseMethodDescriptor yX7_empties.desc).map (fun d => d.parameters.length) = some 0 := by decide +kernel
set_option maxHeartbeats 4000000 in
set_option maxRecDepth 100000 in
theorem kX7_empties {l : Launch} {g : GG} {sz : Nat} {ad : Nat → Nat} {A : IA} {F : FA} {b : IA} (hsem : sX7_empties A = some b) : MetV l yX7_empties wsX7_empties rmX7_empties g [.ref (ad 0)] (wM g ad A F) sz (wM g ad b F) := by
  refine Met.ofW (cc := cX7_empties) (maxL := 2) (ret := none) (by decide) rfl ?_
  intro p e s m args below meth c s₁ B hml hv
  obtain ⟨rfl, hsz, hP, hD0, hKK⟩ := hv
  subst hsz
  have hx := B.exec
  have hb := B.bytes
  have hr := B.returns
  have hts := atoms_spec (ws := wsX7_empties) B.pre
  have hown : s.vm.findClass RX7 = some m.cls := findClass_of_methodNamed B.named
  have hlocks := B.notSynchronized
  have hK := hKK.1
  have hD := hD0.self (sz := s.heap.size)
  generalize hZe : va_A (wM g ad A F) s.heap.size = Z at hD ⊢
  have hZ : ∀ q : Nat, s.heap.size ≤ q → Z q := fun q h => by rw [← hZe]; exact Or.inr h
  have hS : va_S Z s.heap s.heap [] := va_S.rf
  have hP : va_P g.1 vwCl (wM g ad A F) s.heap := hP
  have hD : va_D Z (wM g ad A F) := hD
  have hl := lv_entry ([.ref (ad 0)]) (n := 2) (Nat.le_of_ble_eq_true rfl)
  rw [lg_entry_eq]
  generalize (lg_sl ([.ref (ad 0)]) ++ List.replicate (2 - (lg_sl ([.ref (ad 0)])).length) Slot.unset).toArray = ls at hl ⊢
  have hl : lv_has ls 2 [(0, .ref (ad 0))] := hl
  unfold sX7_empties at hsem
  refine lv_iconst (v := 0) hx hb dX7_empties_0 (by decide) ?_
  refine lv_istore_n (lv' := [(1, .int 0), (0, .ref (ad 0))]) hx hb dX7_empties_1 rfl hl (by decide) rfl (fun ls hl => ?_)
  obtain ⟨q2, hc6, hsem⟩ := bn_some hsem
  refine loopM (g := g) hc6 (fun (q1 : Int32 × IA) => [(1, .int q1.1), (0, .ref (ad 0))]) (fun (q1 : IA) => []) (exit := 66) (fun (q1 : Int32 × IA) => wM g ad q1.2 F) (fun (q1 : IA) => wM g ad q1 F) hP hD hS (lv_sub hl [0, 1] rfl) (fun H locs ls hP hD hS hl => ?_) (fun q1 r hst1 hin1 hout1 H locs ls hP hD hS hl => ?_)
  · have hP : va_P g.1 vwCl (wM g ad q2 F) H := hP
    have hD : va_D Z (wM g ad q2 F) := hD
    have eo := (Option.some.inj hsem).symm.symm
    subst eo
    exact W.vret hx hb hr (fun t ht hW => ⟨⟨(), rfl, trivial, ⟨by rw [ht]; exact hP, hD⟩⟩, hS.F ht⟩) hS.2.2 dX7_empties_66
  · unfold sX7_empties_L2 at hst1
    have hP : va_P g.1 vwCl (wM g ad q1.2 F) H := hP
    have hD : va_D Z (wM g ad q1.2 F) := hD
    refine lv_iload_n hx hb dX7_empties_2 rfl (lv_at hl 0 rfl) ?_
    refine lv_bipush (v := 10) hx hb dX7_empties_3 (by decide) ?_
    refine lv_icmp_ge (tgt := 66) hx hb dX7_empties_5 (by decide) (fun c1 => ?_) (fun c1 => ?_)
    · rw [if_pos c1] at hst1
      exact hout1 H locs ls _ (Option.some.inj hst1).symm hP hD hS (lv_sub hl [] rfl)
    · rw [if_neg c1] at hst1
      refine lv_aload_n hx hb dX7_empties_8 rfl (lv_at hl 1 rfl) ?_
      refine va_get (D := g.1) (ci := 7) (v := .int (q1.2 11 0)) (C := RX7) (T := TX7) (N := 26) hx hb hts (fun w h => List.mem_cons_of_mem _ (List.mem_append_right _ h)) hown hK hP 0 rfl rfl 11 (by decide) (hts (.fieldLink RX7 152 "PauseRegionsModel" "chosen" "I") (List.mem_of_getElem? (i := 1) rfl)) (fun _ h9 => h9) rfl dX7_empties_9 ?_
      refine lv_iload_n hx hb dX7_empties_12 rfl (lv_at hl 0 rfl) ?_
      refine lv_ishr hx hb dX7_empties_13 ?_
      refine lv_iconst (v := 1) hx hb dX7_empties_14 (by decide) ?_
      refine lv_iand hx hb dX7_empties_15 ?_
      refine lv_iconst (v := 1) hx hb dX7_empties_16 (by decide) ?_
      refine lv_icmp_ne (tgt := 60) hx hb dX7_empties_17 (by decide) (fun c2 => ?_) (fun c2 => ?_)
      · rw [if_neg c2] at hst1
        refine lv_iinc (v := q1.1 + 1) (lv' := [(1, .int (q1.1 + 1)), (0, .ref (ad 0))]) hx hb dX7_empties_60 hl (k := 0) rfl rfl (by decide) rfl (fun ls hl => ?_)
        refine lv_goto (tgt := 2) hx hb dX7_empties_63 (by decide) ?_
        exact hin1 H locs ls _ (Option.some.inj hst1).symm hP hD hS (lv_sub hl [0, 1] rfl)
      · rw [if_pos c2] at hst1
        refine lv_aload_n hx hb dX7_empties_20 rfl (lv_at hl 1 rfl) ?_
        refine lv_iload_n hx hb dX7_empties_21 rfl (lv_at hl 0 rfl) ?_
        refine lv_aload_n hx hb dX7_empties_22 rfl (lv_at hl 1 rfl) ?_
        refine va_get (D := g.1) (ci := 7) (v := .int (q1.2 20 0)) (C := RX7) (T := TX7) (N := 26) hx hb hts (fun w h => List.mem_cons_of_mem _ (List.mem_append_right _ h)) hown hK hP 0 rfl rfl 20 (by decide) (hts (.fieldLink RX7 184 "PauseRegionsModel" "stay" "I") (List.mem_of_getElem? (i := 2) rfl)) (fun _ h9 => h9) rfl dX7_empties_23 ?_
        obtain ⟨z1, hc1, hst1⟩ := bn_some hst1
        refine mcV (C := RX7) (As := [.int q1.1, .int (q1.2 20 0)]) (rest := []) ⟨hx, hb, hml, hown, hts⟩ hKK hP hD hS hZ (cwV 2 hts gX7_empties_X7_emptied rfl rfl rfl hdX7_emptied ⟨Nat.le_of_ble_eq_true rfl, Nat.le_of_ble_eq_true rfl⟩) (kX7_emptied (l := l) (g := g) (ad := ad) (A := q1.2) (F := F) hc1) (va_recv hK hP (ci := 7) (q0 := 0) rfl rfl) rfl hl.1 rfl (Nat.le_of_ble_eq_true rfl) dX7_empties_26 ⟨Nat.zero_le _, Nat.zero_le _⟩ (fun H locs hP hD hS => ?_)
        have hP : va_P g.1 vwCl (wM g ad z1 F) H := hP
        have hD : va_D Z (wM g ad z1 F) := hD
        refine lv_aload_n hx hb dX7_empties_29 rfl (lv_at hl 1 rfl) ?_
        refine lv_iload_n hx hb dX7_empties_30 rfl (lv_at hl 0 rfl) ?_
        obtain ⟨x1, hc2, hst1⟩ := bn_some hst1
        refine pcV (C := RX7) (As := [.int q1.1]) (rest := []) ⟨hx, hb, hml, hown, hts⟩ hKK (cwV 1 hts gX7_empties_X7_hasStaying rfl rfl rfl hdX7_hasStaying ⟨Nat.le_of_ble_eq_true rfl, Nat.le_of_ble_eq_true rfl⟩) (kX7_hasStaying (l := l) (g := g) hP hc2) (va_recv hK hP (ci := 7) (q0 := 0) rfl rfl) rfl hl.1 rfl (Nat.le_of_ble_eq_true rfl) dX7_empties_31 ⟨Nat.zero_le _, Nat.zero_le _⟩ ?_
        refine lv_if_eq (tgt := 55) hx hb dX7_empties_34 (by decide) (fun c3 => ?_) (fun c3 => ?_)
        · rw [if_pos c3] at hst1
          refine lv_aload_n hx hb dX7_empties_55 rfl (lv_at hl 1 rfl) ?_
          refine lv_iload_n hx hb dX7_empties_56 rfl (lv_at hl 0 rfl) ?_
          obtain ⟨z2, hc3, hst1⟩ := bn_some hst1
          refine mcV (C := RX7) (As := [.int q1.1]) (rest := []) ⟨hx, hb, hml, hown, hts⟩ hKK hP hD hS hZ (cwV 1 hts gX7_empties_X7_becomesFree rfl rfl rfl hdX7_becomesFree ⟨Nat.le_of_ble_eq_true rfl, Nat.le_of_ble_eq_true rfl⟩) (kX7_becomesFree (l := l) (g := g) (ad := ad) (A := z1) (F := F) hc3) (va_recv hK hP (ci := 7) (q0 := 0) rfl rfl) rfl hl.1 rfl (Nat.le_of_ble_eq_true rfl) dX7_empties_57 ⟨Nat.zero_le _, Nat.zero_le _⟩ (fun H locs hP hD hS => ?_)
          have hP : va_P g.1 vwCl (wM g ad z2 F) H := hP
          have hD : va_D Z (wM g ad z2 F) := hD
          refine lv_iinc (v := q1.1 + 1) (lv' := [(1, .int (q1.1 + 1)), (0, .ref (ad 0))]) hx hb dX7_empties_60 hl (k := 0) rfl rfl (by decide) rfl (fun ls hl => ?_)
          refine lv_goto (tgt := 2) hx hb dX7_empties_63 (by decide) ?_
          exact hin1 H locs ls _ (Option.some.inj hst1).symm hP hD hS (lv_sub hl [0, 1] rfl)
        · rw [if_neg c3] at hst1
          refine lv_aload_n hx hb dX7_empties_37 rfl (lv_at hl 1 rfl) ?_
          refine lv_iload_n hx hb dX7_empties_38 rfl (lv_at hl 0 rfl) ?_
          refine lv_iconst (v := 0) hx hb dX7_empties_39 (by decide) ?_
          refine lv_iconst (v := 2) hx hb dX7_empties_40 (by decide) ?_
          obtain ⟨z3, hc4, hst1⟩ := bn_some hst1
          refine mcV (C := RX7) (As := [.int q1.1, .int 0, .int 2]) (rest := []) ⟨hx, hb, hml, hown, hts⟩ hKK hP hD hS hZ (cwV 3 hts gX7_empties_X7_setsRegion rfl rfl rfl hdX7_setsRegion ⟨Nat.le_of_ble_eq_true rfl, Nat.le_of_ble_eq_true rfl⟩) (kX7_setsRegion (l := l) (g := g) (ad := ad) (A := z1) (F := F) hc4) (va_recv hK hP (ci := 7) (q0 := 0) rfl rfl) rfl hl.1 rfl (Nat.le_of_ble_eq_true rfl) dX7_empties_41 ⟨Nat.zero_le _, Nat.zero_le _⟩ (fun H locs hP hD hS => ?_)
          have hP : va_P g.1 vwCl (wM g ad z3 F) H := hP
          have hD : va_D Z (wM g ad z3 F) := hD
          refine lv_aload_n hx hb dX7_empties_44 rfl (lv_at hl 1 rfl) ?_
          refine lv_iload_n hx hb dX7_empties_45 rfl (lv_at hl 0 rfl) ?_
          refine lv_iconst (v := 2) hx hb dX7_empties_46 (by decide) ?_
          refine lv_bipush (v := (-9)) hx hb dX7_empties_47 (by decide) ?_
          obtain ⟨z4, hc5, hst1⟩ := bn_some hst1
          refine mcV (C := RX7) (As := [.int q1.1, .int 2, .int (-9)]) (rest := []) ⟨hx, hb, hml, hown, hts⟩ hKK hP hD hS hZ (cwV 3 hts gX7_empties_X7_setsRegion rfl rfl rfl hdX7_setsRegion ⟨Nat.le_of_ble_eq_true rfl, Nat.le_of_ble_eq_true rfl⟩) (kX7_setsRegion (l := l) (g := g) (ad := ad) (A := z3) (F := F) hc5) (va_recv hK hP (ci := 7) (q0 := 0) rfl rfl) rfl hl.1 rfl (Nat.le_of_ble_eq_true rfl) dX7_empties_49 ⟨Nat.zero_le _, Nat.zero_le _⟩ (fun H locs hP hD hS => ?_)
          have hP : va_P g.1 vwCl (wM g ad z4 F) H := hP
          have hD : va_D Z (wM g ad z4 F) := hD
          refine lv_goto (tgt := 60) hx hb dX7_empties_52 (by decide) ?_
          refine lv_iinc (v := q1.1 + 1) (lv' := [(1, .int (q1.1 + 1)), (0, .ref (ad 0))]) hx hb dX7_empties_60 hl (k := 0) rfl rfl (by decide) rfl (fun ls hl => ?_)
          refine lv_goto (tgt := 2) hx hb dX7_empties_63 (by decide) ?_
          exact hin1 H locs ls _ (Option.some.inj hst1).symm hP hD hS (lv_sub hl [0, 1] rfl)
def sX7_finds (A : IA) (p0 : Int32) : Option (IA) :=
  if p0 = (-5) then (some A) else (ck p0 32 (if (((A 11 0) >>> (((A 17) p0.toNatClampNeg) &&& 31)) &&& 1) = 1 then (ck p0 32 (if ((A 16) p0.toNatClampNeg) = 0 then (ck p0 32 (bd (wr A 16 p0.toNatClampNeg 1) fun A1 => ck (A1 14 0) 32 (bd (wr A1 15 ((A1 14 0).toNatClampNeg) p0) fun A2 => bd (sc A2 14 ((A2 14 0) + 1)) fun A3 => some A3))) else (some A))) else (some A)))
abbrev rmX7_finds : Room := { frames := 0, cells := 0, slots := 0, locals := 0 }
theorem hdX7_finds : yX7_finds.cls = RX7 ∧ yX7_finds.cls ≠ "java/lang/invoke/MethodHandle" ∧ yX7_finds.cls ≠ "java/lang/invoke/VarHandle" ∧ (parseMethodDescriptor yX7_finds.desc).map (fun d => d.parameters.length) = some 1 := by decide +kernel
set_option maxHeartbeats 4000000 in
set_option maxRecDepth 100000 in
theorem kX7_finds {l : Launch} {g : GG} {sz : Nat} {ad : Nat → Nat} {A : IA} {F : FA} {p0 : Int32} {b : IA} (hsem : sX7_finds A p0 = some b) : MetV l yX7_finds wsX7_finds rmX7_finds g [.ref (ad 0), .int p0] (wM g ad A F) sz (wM g ad b F) := by
  refine Met.ofW (cc := cX7_finds) (maxL := 2) (ret := none) (by decide) rfl ?_
  intro p e s m args below meth c s₁ B hml hv
  obtain ⟨rfl, hsz, hP, hD0, hKK⟩ := hv
  subst hsz
  have hx := B.exec
  have hb := B.bytes
  have hr := B.returns
  have hts := atoms_spec (ws := wsX7_finds) B.pre
  have hown : s.vm.findClass RX7 = some m.cls := findClass_of_methodNamed B.named
  have hlocks := B.notSynchronized
  have hK := hKK.1
  have hD := hD0.self (sz := s.heap.size)
  generalize hZe : va_A (wM g ad A F) s.heap.size = Z at hD ⊢
  have hZ : ∀ q : Nat, s.heap.size ≤ q → Z q := fun q h => by rw [← hZe]; exact Or.inr h
  have hS : va_S Z s.heap s.heap [] := va_S.rf
  have hP : va_P g.1 vwCl (wM g ad A F) s.heap := hP
  have hD : va_D Z (wM g ad A F) := hD
  have hl := lv_entry ([.ref (ad 0), .int p0]) (n := 2) (Nat.le_of_ble_eq_true rfl)
  rw [lg_entry_eq]
  generalize (lg_sl ([.ref (ad 0), .int p0]) ++ List.replicate (2 - (lg_sl ([.ref (ad 0), .int p0])).length) Slot.unset).toArray = ls at hl ⊢
  have hl : lv_has ls 2 [(0, .ref (ad 0)), (1, .int p0)] := hl
  unfold sX7_finds at hsem
  refine lv_iload_n hx hb dX7_finds_0 rfl (lv_at hl 1 rfl) ?_
  refine lv_bipush (v := (-5)) hx hb dX7_finds_1 (by decide) ?_
  refine lv_icmp_eq (tgt := 59) hx hb dX7_finds_3 (by decide) (fun c1 => ?_) (fun c1 => ?_)
  · rw [if_pos c1] at hsem
    have eo := (Option.some.inj hsem).symm.symm
    subst eo
    exact W.vret hx hb hr (fun t ht hW => ⟨⟨(), rfl, trivial, ⟨by rw [ht]; exact hP, hD⟩⟩, hS.F ht⟩) hS.2.2 dX7_finds_59
  · rw [if_neg c1] at hsem
    refine lv_aload_n hx hb dX7_finds_6 rfl (lv_at hl 0 rfl) ?_
    refine va_get (D := g.1) (ci := 7) (v := .int (A 11 0)) (C := RX7) (T := TX7) (N := 26) hx hb hts (fun w h => List.mem_cons_of_mem _ (List.mem_append_right _ h)) hown hK hP 0 rfl rfl 11 (by decide) (hts (.fieldLink RX7 152 "PauseRegionsModel" "chosen" "I") (List.mem_of_getElem? (i := 1) rfl)) (fun _ h9 => h9) rfl dX7_finds_7 ?_
    refine lv_aload_n hx hb dX7_finds_10 rfl (lv_at hl 0 rfl) ?_
    refine va_get (D := g.1) (ci := 7) (v := .ref (ad 12)) (C := RX7) (T := TX7) (N := 26) hx hb hts (fun w h => List.mem_cons_of_mem _ (List.mem_append_right _ h)) hown hK hP 0 rfl rfl 17 (by decide) (hts (.fieldLink RX7 45 "PauseRegionsModel" "lay" "[I") (List.mem_of_getElem? (i := 2) rfl)) (fun _ h9 => h9) rfl dX7_finds_11 ?_
    refine lv_iload_n hx hb dX7_finds_14 rfl (lv_at hl 1 rfl) ?_
    obtain ⟨h1, hsem⟩ := ck_some hsem
    refine va_iald (D := g.1) hx hb hK hP 12 0 rfl rfl h1 dX7_finds_15 ?_
    refine lv_ishr hx hb dX7_finds_16 ?_
    refine lv_iconst (v := 1) hx hb dX7_finds_17 (by decide) ?_
    refine lv_iand hx hb dX7_finds_18 ?_
    refine lv_iconst (v := 1) hx hb dX7_finds_19 (by decide) ?_
    refine lv_icmp_ne (tgt := 59) hx hb dX7_finds_20 (by decide) (fun c2 => ?_) (fun c2 => ?_)
    · rw [if_neg c2] at hsem
      have eo := (Option.some.inj hsem).symm.symm
      subst eo
      exact W.vret hx hb hr (fun t ht hW => ⟨⟨(), rfl, trivial, ⟨by rw [ht]; exact hP, hD⟩⟩, hS.F ht⟩) hS.2.2 dX7_finds_59
    · rw [if_pos c2] at hsem
      refine lv_aload_n hx hb dX7_finds_23 rfl (lv_at hl 0 rfl) ?_
      refine va_get (D := g.1) (ci := 7) (v := .ref (ad 11)) (C := RX7) (T := TX7) (N := 26) hx hb hts (fun w h => List.mem_cons_of_mem _ (List.mem_append_right _ h)) hown hK hP 0 rfl rfl 16 (by decide) (hts (.fieldLink RX7 42 "PauseRegionsModel" "isFound" "[Z") (List.mem_of_getElem? (i := 3) rfl)) (fun _ h9 => h9) rfl dX7_finds_24 ?_
      refine lv_iload_n hx hb dX7_finds_27 rfl (lv_at hl 1 rfl) ?_
      obtain ⟨h2, hsem⟩ := ck_some hsem
      refine va_zald (D := g.1) hx hb hK hP 11 1 rfl rfl h2 dX7_finds_28 ?_
      refine lv_if_ne (tgt := 59) hx hb dX7_finds_29 (by decide) (fun c3 => ?_) (fun c3 => ?_)
      · rw [if_neg c3] at hsem
        have eo := (Option.some.inj hsem).symm.symm
        subst eo
        exact W.vret hx hb hr (fun t ht hW => ⟨⟨(), rfl, trivial, ⟨by rw [ht]; exact hP, hD⟩⟩, hS.F ht⟩) hS.2.2 dX7_finds_59
      · rw [if_pos c3] at hsem
        refine lv_aload_n hx hb dX7_finds_32 rfl (lv_at hl 0 rfl) ?_
        refine va_get (D := g.1) (ci := 7) (v := .ref (ad 11)) (C := RX7) (T := TX7) (N := 26) hx hb hts (fun w h => List.mem_cons_of_mem _ (List.mem_append_right _ h)) hown hK hP 0 rfl rfl 16 (by decide) (hts (.fieldLink RX7 42 "PauseRegionsModel" "isFound" "[Z") (List.mem_of_getElem? (i := 3) rfl)) (fun _ h9 => h9) rfl dX7_finds_33 ?_
        refine lv_iload_n hx hb dX7_finds_36 rfl (lv_at hl 1 rfl) ?_
        refine lv_iconst (v := 1) hx hb dX7_finds_37 (by decide) ?_
        obtain ⟨h3, hsem⟩ := ck_some hsem
        refine va_zast (D := g.1) hx hb hK hP hD hS 11 1 rfl rfl h3 dX7_finds_38 (fun H locs hP hD hS => ?_)
        obtain ⟨A1, eA1, hsem⟩ := bd_some hsem
        have hP : va_P g.1 vwCl (wM g ad A1 F) H := by rw [eA1]; exact hP
        have hD : va_D Z (wM g ad A1 F) := by rw [eA1]; exact hD
        refine lv_aload_n hx hb dX7_finds_39 rfl (lv_at hl 0 rfl) ?_
        refine va_get (D := g.1) (ci := 7) (v := .ref (ad 10)) (C := RX7) (T := TX7) (N := 26) hx hb hts (fun w h => List.mem_cons_of_mem _ (List.mem_append_right _ h)) hown hK hP 0 rfl rfl 15 (by decide) (hts (.fieldLink RX7 39 "PauseRegionsModel" "row" "[I") (List.mem_of_getElem? (i := 4) rfl)) (fun _ h9 => h9) rfl dX7_finds_40 ?_
        refine lv_aload_n hx hb dX7_finds_43 rfl (lv_at hl 0 rfl) ?_
        refine va_get (D := g.1) (ci := 7) (v := .int (A1 14 0)) (C := RX7) (T := TX7) (N := 26) hx hb hts (fun w h => List.mem_cons_of_mem _ (List.mem_append_right _ h)) hown hK hP 0 rfl rfl 14 (by decide) (hts (.fieldLink RX7 166 "PauseRegionsModel" "found" "I") (List.mem_of_getElem? (i := 5) rfl)) (fun _ h9 => h9) rfl dX7_finds_44 ?_
        refine lv_iload_n hx hb dX7_finds_47 rfl (lv_at hl 1 rfl) ?_
        obtain ⟨h4, hsem⟩ := ck_some hsem
        refine va_iast (D := g.1) hx hb hK hP hD hS 10 0 rfl rfl h4 dX7_finds_48 (fun H locs hP hD hS => ?_)
        obtain ⟨A2, eA2, hsem⟩ := bd_some hsem
        have hP : va_P g.1 vwCl (wM g ad A2 F) H := by rw [eA2]; exact hP
        have hD : va_D Z (wM g ad A2 F) := by rw [eA2]; exact hD
        refine lv_aload_n hx hb dX7_finds_49 rfl (lv_at hl 0 rfl) ?_
        refine lv_dup hx hb dX7_finds_50 rfl ?_
        refine va_get (D := g.1) (ci := 7) (v := .int (A2 14 0)) (C := RX7) (T := TX7) (N := 26) hx hb hts (fun w h => List.mem_cons_of_mem _ (List.mem_append_right _ h)) hown hK hP 0 rfl rfl 14 (by decide) (hts (.fieldLink RX7 166 "PauseRegionsModel" "found" "I") (List.mem_of_getElem? (i := 5) rfl)) (fun _ h9 => h9) rfl dX7_finds_51 ?_
        refine lv_iconst (v := 1) hx hb dX7_finds_54 (by decide) ?_
        refine lv_iadd hx hb dX7_finds_55 ?_
        refine va_put (D := g.1) (ci := 7) (v := .int ((A2 14 0) + 1)) (ty := .int) (C := RX7) (T := TX7) (N := 26) hx hb hts (fun w h => List.mem_cons_of_mem _ (List.mem_append_right _ h)) tyX7 tyX7_ok nmX7 hown hK hP hD hS 0 rfl rfl 14 (by decide) (hts (.fieldLink RX7 166 "PauseRegionsModel" "found" "I") (List.mem_of_getElem? (i := 5) rfl)) (fun _ h9 => h9) rfl (by decide +kernel) rfl rfl (Nat.le_of_ble_eq_true rfl) dX7_finds_56 (fun H locs hP hD hS => ?_)
        obtain ⟨A3, eA3, hsem⟩ := bd_some hsem
        have hP : va_P g.1 vwCl (wM g ad A3 F) H := by rw [eA3]; exact hP
        have hD : va_D Z (wM g ad A3 F) := by rw [eA3]; exact hD
        have eo := (Option.some.inj hsem).symm.symm
        subst eo
        exact W.vret hx hb hr (fun t ht hW => ⟨⟨(), rfl, trivial, ⟨by rw [ht]; exact hP, hD⟩⟩, hS.F ht⟩) hS.2.2 dX7_finds_59
def sX7_remembered_L4 (A : IA) (q1 : Int32 × Int32) : Option ((Int32 × Int32) ⊕ (Int32)) :=
  if 10 ≤ q1.2 then (some (.inr q1.1)) else (if (((A 11 0) >>> (q1.2 &&& 31)) &&& 1) = 1 then ((sX7_ofRegion A q1.2 3).bind fun x2 => bd (q1.1 ||| x2) fun x3 => some (.inl (x3, q1.2 + 1))) else (bd (q1.1 ||| 0) fun x1 => some (.inl (x1, q1.2 + 1))))
def sX7_remembered_L43 (A : IA) (q3 : Int32 × Int32) : Option ((Int32 × Int32) ⊕ (Int32)) :=
  if 10 ≤ q3.2 then (some (.inr q3.1)) else (if (((A 11 0) >>> (q3.2 &&& 31)) &&& 1) = 1 then (bd (q3.1 &&& ((3 <<< ((2 * q3.2) &&& 31)) ^^^ (-1))) fun x5 => some (.inl (x5, q3.2 + 1))) else (bd (q3.1 &&& (-1)) fun x4 => some (.inl (x4, q3.2 + 1))))
def sX7_remembered (A : IA) : Option (Int32) :=
  (loopN (sX7_remembered_L4 A) 2000 (0, 0)).bind fun q2 => (loopN (sX7_remembered_L43 A) 2000 (q2, 0)).bind fun q4 => some q4
abbrev rmX7_remembered : Room := { frames := 1, cells := 0, slots := 0, locals := 22 }
theorem hdX7_remembered : yX7_remembered.cls = RX7 ∧ yX7_remembered.cls ≠ "java/lang/invoke/MethodHandle" ∧ yX7_remembered.cls ≠ "java/lang/invoke/VarHandle" ∧ (parseMethodDescriptor yX7_remembered.desc).map (fun d => d.parameters.length) = some 0 := by decide +kernel
set_option maxHeartbeats 4000000 in
set_option maxRecDepth 100000 in
theorem kX7_remembered {l : Launch} {g : GG} {H0 : Heap} {ad : Nat → Nat} {A : IA} {F : FA} {b : Int32} (hP : va_P g.1 vwCl (wM g ad A F) H0) (hsem : sX7_remembered A = some b) : MetP l yX7_remembered wsX7_remembered rmX7_remembered g H0 [.ref (ad 0)] b := by
  refine Met.ofW (cc := cX7_remembered) (maxL := 3) (ret := (some .int)) (by decide) rfl ?_
  intro p e s m args below meth c s₁ B hml hv
  obtain ⟨rfl, hH, hKK⟩ := hv
  subst hH
  have hx := B.exec
  have hb := B.bytes
  have hr := B.returns
  have hts := atoms_spec (ws := wsX7_remembered) B.pre
  have hown : s.vm.findClass RX7 = some m.cls := findClass_of_methodNamed B.named
  have hlocks := B.notSynchronized
  have hK := hKK.1
  have hl := lv_entry ([.ref (ad 0)]) (n := 3) (Nat.le_of_ble_eq_true rfl)
  rw [lg_entry_eq]
  generalize (lg_sl ([.ref (ad 0)]) ++ List.replicate (3 - (lg_sl ([.ref (ad 0)])).length) Slot.unset).toArray = ls at hl ⊢
  have hl : lv_has ls 3 [(0, .ref (ad 0))] := hl
  unfold sX7_remembered at hsem
  refine lv_iconst (v := 0) hx hb dX7_remembered_0 (by decide) ?_
  refine lv_istore_n (lv' := [(1, .int 0), (0, .ref (ad 0))]) hx hb dX7_remembered_1 rfl hl (by decide) rfl (fun ls hl => ?_)
  refine lv_iconst (v := 0) hx hb dX7_remembered_2 (by decide) ?_
  refine lv_istore_n (lv' := [(2, .int 0), (1, .int 0), (0, .ref (ad 0))]) hx hb dX7_remembered_3 rfl hl (by decide) rfl (fun ls hl => ?_)
  obtain ⟨q2, hc2, hsem⟩ := bn_some hsem
  refine loopP hc2 (fun (q1 : Int32 × Int32) => [(2, .int q1.2), (1, .int q1.1), (0, .ref (ad 0))]) (fun (q1 : Int32) => [(1, .int q1), (0, .ref (ad 0))]) (exit := 41) (lv_sub hl [0, 1, 2] rfl) (fun ls hl => ?_) (fun q1 r hst1 hin1 hout1 ls hl => ?_)
  · skip
    refine lv_iconst (v := 0) hx hb dX7_remembered_41 (by decide) ?_
    refine lv_istore_n (lv' := [(2, .int 0), (1, .int q2), (0, .ref (ad 0))]) hx hb dX7_remembered_42 rfl hl (by decide) rfl (fun ls hl => ?_)
    obtain ⟨q4, hc3, hsem⟩ := bn_some hsem
    refine loopP hc3 (fun (q3 : Int32 × Int32) => [(2, .int q3.2), (1, .int q3.1), (0, .ref (ad 0))]) (fun (q3 : Int32) => [(1, .int q3)]) (exit := 81) (lv_sub hl [0, 1, 2] rfl) (fun ls hl => ?_) (fun q3 r hst1 hin1 hout1 ls hl => ?_)
    · skip
      refine lv_iload_n hx hb dX7_remembered_81 rfl (lv_at hl 0 rfl) ?_
      have eo := (Option.some.inj hsem).symm.symm
      exact W.iret (v := q4) hx hb hr (fun t ht hW => ⟨⟨_, (), rfl, eo, ht⟩, (va_S.rf (A := fun _ => False) (H0 := s.heap)).F ht⟩) (fun q hq => absurd hq List.not_mem_nil) dX7_remembered_82
    · unfold sX7_remembered_L43 at hst1
      refine lv_iload_n hx hb dX7_remembered_43 rfl (lv_at hl 0 rfl) ?_
      refine lv_bipush (v := 10) hx hb dX7_remembered_44 (by decide) ?_
      refine lv_icmp_ge (tgt := 81) hx hb dX7_remembered_46 (by decide) (fun c3 => ?_) (fun c3 => ?_)
      · rw [if_pos c3] at hst1
        exact hout1 ls _ (Option.some.inj hst1).symm (lv_sub hl [1] rfl)
      · rw [if_neg c3] at hst1
        refine lv_iload_n hx hb dX7_remembered_49 rfl (lv_at hl 1 rfl) ?_
        refine lv_aload_n hx hb dX7_remembered_50 rfl (lv_at hl 2 rfl) ?_
        refine va_get (D := g.1) (ci := 7) (v := .int (A 11 0)) (C := RX7) (T := TX7) (N := 26) hx hb hts (fun w h => List.mem_cons_of_mem _ (List.mem_append_right _ h)) hown hK hP 0 rfl rfl 11 (by decide) (hts (.fieldLink RX7 152 "PauseRegionsModel" "chosen" "I") (List.mem_of_getElem? (i := 1) rfl)) (fun _ h9 => h9) rfl dX7_remembered_51 ?_
        refine lv_iload_n hx hb dX7_remembered_54 rfl (lv_at hl 0 rfl) ?_
        refine lv_ishr hx hb dX7_remembered_55 ?_
        refine lv_iconst (v := 1) hx hb dX7_remembered_56 (by decide) ?_
        refine lv_iand hx hb dX7_remembered_57 ?_
        refine lv_iconst (v := 1) hx hb dX7_remembered_58 (by decide) ?_
        refine lv_icmp_ne (tgt := 72) hx hb dX7_remembered_59 (by decide) (fun c4 => ?_) (fun c4 => ?_)
        · rw [if_neg c4] at hst1
          refine lv_iconst (v := (-1)) hx hb dX7_remembered_72 (by decide) ?_
          refine lv_iand hx hb dX7_remembered_73 ?_
          obtain ⟨x4, ex4, hst1⟩ := bd_some hst1
          rw [← ex4]
          refine lv_istore_n (lv' := [(1, .int x4), (2, .int q3.2), (0, .ref (ad 0))]) hx hb dX7_remembered_74 rfl hl (by decide) rfl (fun ls hl => ?_)
          refine lv_iinc (v := q3.2 + 1) (lv' := [(2, .int (q3.2 + 1)), (1, .int x4), (0, .ref (ad 0))]) hx hb dX7_remembered_75 hl (k := 1) rfl rfl (by decide) rfl (fun ls hl => ?_)
          refine lv_goto (tgt := 43) hx hb dX7_remembered_78 (by decide) ?_
          exact hin1 ls _ (Option.some.inj hst1).symm (lv_sub hl [0, 1, 2] rfl)
        · rw [if_pos c4] at hst1
          refine lv_iconst (v := 3) hx hb dX7_remembered_62 (by decide) ?_
          refine lv_iconst (v := 2) hx hb dX7_remembered_63 (by decide) ?_
          refine lv_iload_n hx hb dX7_remembered_64 rfl (lv_at hl 0 rfl) ?_
          refine lv_imul hx hb dX7_remembered_65 ?_
          refine lv_ishl hx hb dX7_remembered_66 ?_
          refine lv_iconst (v := (-1)) hx hb dX7_remembered_67 (by decide) ?_
          refine lv_ixor hx hb dX7_remembered_68 ?_
          refine lv_goto (tgt := 73) hx hb dX7_remembered_69 (by decide) ?_
          refine lv_iand hx hb dX7_remembered_73 ?_
          obtain ⟨x5, ex5, hst1⟩ := bd_some hst1
          rw [← ex5]
          refine lv_istore_n (lv' := [(1, .int x5), (2, .int q3.2), (0, .ref (ad 0))]) hx hb dX7_remembered_74 rfl hl (by decide) rfl (fun ls hl => ?_)
          refine lv_iinc (v := q3.2 + 1) (lv' := [(2, .int (q3.2 + 1)), (1, .int x5), (0, .ref (ad 0))]) hx hb dX7_remembered_75 hl (k := 1) rfl rfl (by decide) rfl (fun ls hl => ?_)
          refine lv_goto (tgt := 43) hx hb dX7_remembered_78 (by decide) ?_
          exact hin1 ls _ (Option.some.inj hst1).symm (lv_sub hl [0, 1, 2] rfl)
  · unfold sX7_remembered_L4 at hst1
    refine lv_iload_n hx hb dX7_remembered_4 rfl (lv_at hl 0 rfl) ?_
    refine lv_bipush (v := 10) hx hb dX7_remembered_5 (by decide) ?_
    refine lv_icmp_ge (tgt := 41) hx hb dX7_remembered_7 (by decide) (fun c1 => ?_) (fun c1 => ?_)
    · rw [if_pos c1] at hst1
      exact hout1 ls _ (Option.some.inj hst1).symm (lv_sub hl [1, 2] rfl)
    · rw [if_neg c1] at hst1
      refine lv_iload_n hx hb dX7_remembered_10 rfl (lv_at hl 1 rfl) ?_
      refine lv_aload_n hx hb dX7_remembered_11 rfl (lv_at hl 2 rfl) ?_
      refine va_get (D := g.1) (ci := 7) (v := .int (A 11 0)) (C := RX7) (T := TX7) (N := 26) hx hb hts (fun w h => List.mem_cons_of_mem _ (List.mem_append_right _ h)) hown hK hP 0 rfl rfl 11 (by decide) (hts (.fieldLink RX7 152 "PauseRegionsModel" "chosen" "I") (List.mem_of_getElem? (i := 1) rfl)) (fun _ h9 => h9) rfl dX7_remembered_12 ?_
      refine lv_iload_n hx hb dX7_remembered_15 rfl (lv_at hl 0 rfl) ?_
      refine lv_ishr hx hb dX7_remembered_16 ?_
      refine lv_iconst (v := 1) hx hb dX7_remembered_17 (by decide) ?_
      refine lv_iand hx hb dX7_remembered_18 ?_
      refine lv_iconst (v := 1) hx hb dX7_remembered_19 (by decide) ?_
      refine lv_icmp_ne (tgt := 32) hx hb dX7_remembered_20 (by decide) (fun c2 => ?_) (fun c2 => ?_)
      · rw [if_neg c2] at hst1
        refine lv_iconst (v := 0) hx hb dX7_remembered_32 (by decide) ?_
        refine lv_ior hx hb dX7_remembered_33 ?_
        obtain ⟨x1, ex1, hst1⟩ := bd_some hst1
        rw [← ex1]
        refine lv_istore_n (lv' := [(1, .int x1), (2, .int q1.2), (0, .ref (ad 0))]) hx hb dX7_remembered_34 rfl hl (by decide) rfl (fun ls hl => ?_)
        refine lv_iinc (v := q1.2 + 1) (lv' := [(2, .int (q1.2 + 1)), (1, .int x1), (0, .ref (ad 0))]) hx hb dX7_remembered_35 hl (k := 1) rfl rfl (by decide) rfl (fun ls hl => ?_)
        refine lv_goto (tgt := 4) hx hb dX7_remembered_38 (by decide) ?_
        exact hin1 ls _ (Option.some.inj hst1).symm (lv_sub hl [0, 1, 2] rfl)
      · rw [if_pos c2] at hst1
        refine lv_aload_n hx hb dX7_remembered_23 rfl (lv_at hl 2 rfl) ?_
        refine lv_iload_n hx hb dX7_remembered_24 rfl (lv_at hl 0 rfl) ?_
        refine lv_iconst (v := 3) hx hb dX7_remembered_25 (by decide) ?_
        obtain ⟨x2, hc1, hst1⟩ := bn_some hst1
        refine pcV (C := RX7) (As := [.int q1.2, .int 3]) (rest := [.int q1.1]) ⟨hx, hb, hml, hown, hts⟩ hKK (cwV 2 hts gX7_remembered_X7_ofRegion rfl rfl rfl hdX7_ofRegion ⟨Nat.le_of_ble_eq_true rfl, Nat.le_of_ble_eq_true rfl⟩) (kX7_ofRegion (l := l) (g := g) hP hc1) (va_recv hK hP (ci := 7) (q0 := 0) rfl rfl) rfl hl.1 rfl (Nat.le_of_ble_eq_true rfl) dX7_remembered_26 ⟨Nat.zero_le _, Nat.zero_le _⟩ ?_
        refine lv_goto (tgt := 33) hx hb dX7_remembered_29 (by decide) ?_
        refine lv_ior hx hb dX7_remembered_33 ?_
        obtain ⟨x3, ex3, hst1⟩ := bd_some hst1
        rw [← ex3]
        refine lv_istore_n (lv' := [(1, .int x3), (2, .int q1.2), (0, .ref (ad 0))]) hx hb dX7_remembered_34 rfl hl (by decide) rfl (fun ls hl => ?_)
        refine lv_iinc (v := q1.2 + 1) (lv' := [(2, .int (q1.2 + 1)), (1, .int x3), (0, .ref (ad 0))]) hx hb dX7_remembered_35 hl (k := 1) rfl rfl (by decide) rfl (fun ls hl => ?_)
        refine lv_goto (tgt := 4) hx hb dX7_remembered_38 (by decide) ?_
        exact hin1 ls _ (Option.some.inj hst1).symm (lv_sub hl [0, 1, 2] rfl)
def sX7_scans_L10 (p0 : Int32) (q1 : Int32 × IA) (q2 : Int32 × IA) : Option ((Int32 × IA) ⊕ (IA)) :=
  if 32 ≤ q2.1 then (some (.inr q2.2)) else ((sX7_isThing q2.2 q2.1).bind fun x1 => if x1 = 0 then (some (.inl (q2.1 + 1, q2.2))) else ((sX7_cardOf q2.2 q2.1).bind fun x2 => if x2 = p0 then ((sX7_ofThing q2.2 q2.1 2).bind fun x3 => if x3 = q1.1 then ((sX7_ofThing q2.2 q2.1 3).bind fun x4 => (sX7_finds q2.2 x4).bind fun z1 => (sX7_ofThing z1 q2.1 4).bind fun x5 => (sX7_finds z1 x5).bind fun z2 => some (.inl (q2.1 + 1, z2))) else (some (.inl (q2.1 + 1, q2.2)))) else (some (.inl (q2.1 + 1, q2.2)))))
def sX7_scans_L2 (p0 : Int32) (q1 : Int32 × IA) : Option ((Int32 × IA) ⊕ (IA)) :=
  if 8 ≤ q1.1 then (some (.inr q1.2)) else ((loopN (sX7_scans_L10 p0 q1) 2000 (0, q1.2)).bind fun q3 => some (.inl (q1.1 + 1, q3)))
def sX7_scans (A : IA) (p0 : Int32) : Option (IA) :=
  (loopN (sX7_scans_L2 p0) 2000 (0, A)).bind fun q4 => some q4
abbrev rmX7_scans : Room := { frames := 2, cells := 0, slots := 0, locals := 43 }
theorem hdX7_scans : yX7_scans.cls = RX7 ∧ yX7_scans.cls ≠ "java/lang/invoke/MethodHandle" ∧ yX7_scans.cls ≠ "java/lang/invoke/VarHandle" ∧ (parseMethodDescriptor yX7_scans.desc).map (fun d => d.parameters.length) = some 1 := by decide +kernel
set_option maxHeartbeats 4000000 in
set_option maxRecDepth 100000 in
theorem kX7_scans {l : Launch} {g : GG} {sz : Nat} {ad : Nat → Nat} {A : IA} {F : FA} {p0 : Int32} {b : IA} (hsem : sX7_scans A p0 = some b) : MetV l yX7_scans wsX7_scans rmX7_scans g [.ref (ad 0), .int p0] (wM g ad A F) sz (wM g ad b F) := by
  refine Met.ofW (cc := cX7_scans) (maxL := 4) (ret := none) (by decide) rfl ?_
  intro p e s m args below meth c s₁ B hml hv
  obtain ⟨rfl, hsz, hP, hD0, hKK⟩ := hv
  subst hsz
  have hx := B.exec
  have hb := B.bytes
  have hr := B.returns
  have hts := atoms_spec (ws := wsX7_scans) B.pre
  have hown : s.vm.findClass RX7 = some m.cls := findClass_of_methodNamed B.named
  have hlocks := B.notSynchronized
  have hK := hKK.1
  have hD := hD0.self (sz := s.heap.size)
  generalize hZe : va_A (wM g ad A F) s.heap.size = Z at hD ⊢
  have hZ : ∀ q : Nat, s.heap.size ≤ q → Z q := fun q h => by rw [← hZe]; exact Or.inr h
  have hS : va_S Z s.heap s.heap [] := va_S.rf
  have hP : va_P g.1 vwCl (wM g ad A F) s.heap := hP
  have hD : va_D Z (wM g ad A F) := hD
  have hl := lv_entry ([.ref (ad 0), .int p0]) (n := 4) (Nat.le_of_ble_eq_true rfl)
  rw [lg_entry_eq]
  generalize (lg_sl ([.ref (ad 0), .int p0]) ++ List.replicate (4 - (lg_sl ([.ref (ad 0), .int p0])).length) Slot.unset).toArray = ls at hl ⊢
  have hl : lv_has ls 4 [(0, .ref (ad 0)), (1, .int p0)] := hl
  unfold sX7_scans at hsem
  refine lv_iconst (v := 0) hx hb dX7_scans_0 (by decide) ?_
  refine lv_istore_n (lv' := [(2, .int 0), (0, .ref (ad 0)), (1, .int p0)]) hx hb dX7_scans_1 rfl hl (by decide) rfl (fun ls hl => ?_)
  obtain ⟨q4, hc9, hsem⟩ := bn_some hsem
  refine loopM (g := g) hc9 (fun (q1 : Int32 × IA) => [(2, .int q1.1), (0, .ref (ad 0)), (1, .int p0)]) (fun (q1 : IA) => []) (exit := 75) (fun (q1 : Int32 × IA) => wM g ad q1.2 F) (fun (q1 : IA) => wM g ad q1 F) hP hD hS (lv_sub hl [0, 1, 2] rfl) (fun H locs ls hP hD hS hl => ?_) (fun q1 r hst1 hin1 hout1 H locs ls hP hD hS hl => ?_)
  · have hP : va_P g.1 vwCl (wM g ad q4 F) H := hP
    have hD : va_D Z (wM g ad q4 F) := hD
    have eo := (Option.some.inj hsem).symm.symm
    subst eo
    exact W.vret hx hb hr (fun t ht hW => ⟨⟨(), rfl, trivial, ⟨by rw [ht]; exact hP, hD⟩⟩, hS.F ht⟩) hS.2.2 dX7_scans_75
  · unfold sX7_scans_L2 at hst1
    have hP : va_P g.1 vwCl (wM g ad q1.2 F) H := hP
    have hD : va_D Z (wM g ad q1.2 F) := hD
    refine lv_iload_n hx hb dX7_scans_2 rfl (lv_at hl 0 rfl) ?_
    refine lv_bipush (v := 8) hx hb dX7_scans_3 (by decide) ?_
    refine lv_icmp_ge (tgt := 75) hx hb dX7_scans_5 (by decide) (fun c1 => ?_) (fun c1 => ?_)
    · rw [if_pos c1] at hst1
      exact hout1 H locs ls _ (Option.some.inj hst1).symm hP hD hS (lv_sub hl [] rfl)
    · rw [if_neg c1] at hst1
      refine lv_iconst (v := 0) hx hb dX7_scans_8 (by decide) ?_
      refine lv_istore_n (lv' := [(3, .int 0), (2, .int q1.1), (0, .ref (ad 0)), (1, .int p0)]) hx hb dX7_scans_9 rfl hl (by decide) rfl (fun ls hl => ?_)
      obtain ⟨q3, hc8, hst1⟩ := bn_some hst1
      refine loopM (g := g) hc8 (fun (q2 : Int32 × IA) => [(3, .int q2.1), (2, .int q1.1), (0, .ref (ad 0)), (1, .int p0)]) (fun (q2 : IA) => [(2, .int q1.1), (0, .ref (ad 0)), (1, .int p0)]) (exit := 69) (fun (q2 : Int32 × IA) => wM g ad q2.2 F) (fun (q2 : IA) => wM g ad q2 F) hP hD hS (lv_sub hl [0, 1, 2, 3] rfl) (fun H locs ls hP hD hS hl => ?_) (fun q2 r hst2 hin2 hout2 H locs ls hP hD hS hl => ?_)
      · have hP : va_P g.1 vwCl (wM g ad q3 F) H := hP
        have hD : va_D Z (wM g ad q3 F) := hD
        refine lv_iinc (v := q1.1 + 1) (lv' := [(2, .int (q1.1 + 1)), (0, .ref (ad 0)), (1, .int p0)]) hx hb dX7_scans_69 hl (k := 0) rfl rfl (by decide) rfl (fun ls hl => ?_)
        refine lv_goto (tgt := 2) hx hb dX7_scans_72 (by decide) ?_
        exact hin1 H locs ls _ (Option.some.inj hst1).symm hP hD hS (lv_sub hl [0, 1, 2] rfl)
      · unfold sX7_scans_L10 at hst2
        have hP : va_P g.1 vwCl (wM g ad q2.2 F) H := hP
        have hD : va_D Z (wM g ad q2.2 F) := hD
        refine lv_iload_n hx hb dX7_scans_10 rfl (lv_at hl 0 rfl) ?_
        refine lv_bipush (v := 32) hx hb dX7_scans_11 (by decide) ?_
        refine lv_icmp_ge (tgt := 69) hx hb dX7_scans_13 (by decide) (fun c2 => ?_) (fun c2 => ?_)
        · rw [if_pos c2] at hst2
          exact hout2 H locs ls _ (Option.some.inj hst2).symm hP hD hS (lv_sub hl [1, 2, 3] rfl)
        · rw [if_neg c2] at hst2
          refine lv_aload_n hx hb dX7_scans_16 rfl (lv_at hl 2 rfl) ?_
          refine lv_iload_n hx hb dX7_scans_17 rfl (lv_at hl 0 rfl) ?_
          obtain ⟨x1, hc1, hst2⟩ := bn_some hst2
          refine pcV (C := RX7) (As := [.int q2.1]) (rest := []) ⟨hx, hb, hml, hown, hts⟩ hKK (cwV 1 hts gX7_scans_X7_isThing rfl rfl rfl hdX7_isThing ⟨Nat.le_of_ble_eq_true rfl, Nat.le_of_ble_eq_true rfl⟩) (kX7_isThing (l := l) (g := g) hP hc1) (va_recv hK hP (ci := 7) (q0 := 0) rfl rfl) rfl hl.1 rfl (Nat.le_of_ble_eq_true rfl) dX7_scans_18 ⟨Nat.zero_le _, Nat.zero_le _⟩ ?_
          refine lv_if_eq (tgt := 63) hx hb dX7_scans_21 (by decide) (fun c3 => ?_) (fun c3 => ?_)
          · rw [if_pos c3] at hst2
            refine lv_iinc (v := q2.1 + 1) (lv' := [(3, .int (q2.1 + 1)), (2, .int q1.1), (0, .ref (ad 0)), (1, .int p0)]) hx hb dX7_scans_63 hl (k := 0) rfl rfl (by decide) rfl (fun ls hl => ?_)
            refine lv_goto (tgt := 10) hx hb dX7_scans_66 (by decide) ?_
            exact hin2 H locs ls _ (Option.some.inj hst2).symm hP hD hS (lv_sub hl [0, 1, 2, 3] rfl)
          · rw [if_neg c3] at hst2
            refine lv_aload_n hx hb dX7_scans_24 rfl (lv_at hl 2 rfl) ?_
            refine lv_iload_n hx hb dX7_scans_25 rfl (lv_at hl 0 rfl) ?_
            obtain ⟨x2, hc2, hst2⟩ := bn_some hst2
            refine pcV (C := RX7) (As := [.int q2.1]) (rest := []) ⟨hx, hb, hml, hown, hts⟩ hKK (cwV 1 hts gX7_scans_X7_cardOf rfl rfl rfl hdX7_cardOf ⟨Nat.le_of_ble_eq_true rfl, Nat.le_of_ble_eq_true rfl⟩) (kX7_cardOf (l := l) (g := g) hP hc2) (va_recv hK hP (ci := 7) (q0 := 0) rfl rfl) rfl hl.1 rfl (Nat.le_of_ble_eq_true rfl) dX7_scans_26 ⟨Nat.zero_le _, Nat.zero_le _⟩ ?_
            refine lv_iload_n hx hb dX7_scans_29 rfl (lv_at hl 3 rfl) ?_
            refine lv_icmp_ne (tgt := 63) hx hb dX7_scans_30 (by decide) (fun c4 => ?_) (fun c4 => ?_)
            · rw [if_neg c4] at hst2
              refine lv_iinc (v := q2.1 + 1) (lv' := [(3, .int (q2.1 + 1)), (2, .int q1.1), (0, .ref (ad 0)), (1, .int p0)]) hx hb dX7_scans_63 hl (k := 0) rfl rfl (by decide) rfl (fun ls hl => ?_)
              refine lv_goto (tgt := 10) hx hb dX7_scans_66 (by decide) ?_
              exact hin2 H locs ls _ (Option.some.inj hst2).symm hP hD hS (lv_sub hl [0, 1, 2, 3] rfl)
            · rw [if_pos c4] at hst2
              refine lv_aload_n hx hb dX7_scans_33 rfl (lv_at hl 2 rfl) ?_
              refine lv_iload_n hx hb dX7_scans_34 rfl (lv_at hl 0 rfl) ?_
              refine lv_iconst (v := 2) hx hb dX7_scans_35 (by decide) ?_
              obtain ⟨x3, hc3, hst2⟩ := bn_some hst2
              refine pcV (C := RX7) (As := [.int q2.1, .int 2]) (rest := []) ⟨hx, hb, hml, hown, hts⟩ hKK (cwV 2 hts gX7_scans_X7_ofThing rfl rfl rfl hdX7_ofThing ⟨Nat.le_of_ble_eq_true rfl, Nat.le_of_ble_eq_true rfl⟩) (kX7_ofThing (l := l) (g := g) hP hc3) (va_recv hK hP (ci := 7) (q0 := 0) rfl rfl) rfl hl.1 rfl (Nat.le_of_ble_eq_true rfl) dX7_scans_36 ⟨Nat.zero_le _, Nat.zero_le _⟩ ?_
              refine lv_iload_n hx hb dX7_scans_39 rfl (lv_at hl 1 rfl) ?_
              refine lv_icmp_ne (tgt := 63) hx hb dX7_scans_40 (by decide) (fun c5 => ?_) (fun c5 => ?_)
              · rw [if_neg c5] at hst2
                refine lv_iinc (v := q2.1 + 1) (lv' := [(3, .int (q2.1 + 1)), (2, .int q1.1), (0, .ref (ad 0)), (1, .int p0)]) hx hb dX7_scans_63 hl (k := 0) rfl rfl (by decide) rfl (fun ls hl => ?_)
                refine lv_goto (tgt := 10) hx hb dX7_scans_66 (by decide) ?_
                exact hin2 H locs ls _ (Option.some.inj hst2).symm hP hD hS (lv_sub hl [0, 1, 2, 3] rfl)
              · rw [if_pos c5] at hst2
                refine lv_aload_n hx hb dX7_scans_43 rfl (lv_at hl 2 rfl) ?_
                refine lv_aload_n hx hb dX7_scans_44 rfl (lv_at hl 2 rfl) ?_
                refine lv_iload_n hx hb dX7_scans_45 rfl (lv_at hl 0 rfl) ?_
                refine lv_iconst (v := 3) hx hb dX7_scans_46 (by decide) ?_
                obtain ⟨x4, hc4, hst2⟩ := bn_some hst2
                refine pcV (C := RX7) (As := [.int q2.1, .int 3]) (rest := [.ref (ad 0)]) ⟨hx, hb, hml, hown, hts⟩ hKK (cwV 2 hts gX7_scans_X7_ofThing rfl rfl rfl hdX7_ofThing ⟨Nat.le_of_ble_eq_true rfl, Nat.le_of_ble_eq_true rfl⟩) (kX7_ofThing (l := l) (g := g) hP hc4) (va_recv hK hP (ci := 7) (q0 := 0) rfl rfl) rfl hl.1 rfl (Nat.le_of_ble_eq_true rfl) dX7_scans_47 ⟨Nat.zero_le _, Nat.zero_le _⟩ ?_
                obtain ⟨z1, hc5, hst2⟩ := bn_some hst2
                refine mcV (C := RX7) (As := [.int x4]) (rest := []) ⟨hx, hb, hml, hown, hts⟩ hKK hP hD hS hZ (cwV 1 hts gX7_scans_X7_finds rfl rfl rfl hdX7_finds ⟨Nat.le_of_ble_eq_true rfl, Nat.le_of_ble_eq_true rfl⟩) (kX7_finds (l := l) (g := g) (ad := ad) (A := q2.2) (F := F) hc5) (va_recv hK hP (ci := 7) (q0 := 0) rfl rfl) rfl hl.1 rfl (Nat.le_of_ble_eq_true rfl) dX7_scans_50 ⟨Nat.zero_le _, Nat.zero_le _⟩ (fun H locs hP hD hS => ?_)
                have hP : va_P g.1 vwCl (wM g ad z1 F) H := hP
                have hD : va_D Z (wM g ad z1 F) := hD
                refine lv_aload_n hx hb dX7_scans_53 rfl (lv_at hl 2 rfl) ?_
                refine lv_aload_n hx hb dX7_scans_54 rfl (lv_at hl 2 rfl) ?_
                refine lv_iload_n hx hb dX7_scans_55 rfl (lv_at hl 0 rfl) ?_
                refine lv_iconst (v := 4) hx hb dX7_scans_56 (by decide) ?_
                obtain ⟨x5, hc6, hst2⟩ := bn_some hst2
                refine pcV (C := RX7) (As := [.int q2.1, .int 4]) (rest := [.ref (ad 0)]) ⟨hx, hb, hml, hown, hts⟩ hKK (cwV 2 hts gX7_scans_X7_ofThing rfl rfl rfl hdX7_ofThing ⟨Nat.le_of_ble_eq_true rfl, Nat.le_of_ble_eq_true rfl⟩) (kX7_ofThing (l := l) (g := g) hP hc6) (va_recv hK hP (ci := 7) (q0 := 0) rfl rfl) rfl hl.1 rfl (Nat.le_of_ble_eq_true rfl) dX7_scans_57 ⟨Nat.zero_le _, Nat.zero_le _⟩ ?_
                obtain ⟨z2, hc7, hst2⟩ := bn_some hst2
                refine mcV (C := RX7) (As := [.int x5]) (rest := []) ⟨hx, hb, hml, hown, hts⟩ hKK hP hD hS hZ (cwV 1 hts gX7_scans_X7_finds rfl rfl rfl hdX7_finds ⟨Nat.le_of_ble_eq_true rfl, Nat.le_of_ble_eq_true rfl⟩) (kX7_finds (l := l) (g := g) (ad := ad) (A := z1) (F := F) hc7) (va_recv hK hP (ci := 7) (q0 := 0) rfl rfl) rfl hl.1 rfl (Nat.le_of_ble_eq_true rfl) dX7_scans_60 ⟨Nat.zero_le _, Nat.zero_le _⟩ (fun H locs hP hD hS => ?_)
                have hP : va_P g.1 vwCl (wM g ad z2 F) H := hP
                have hD : va_D Z (wM g ad z2 F) := hD
                refine lv_iinc (v := q2.1 + 1) (lv' := [(3, .int (q2.1 + 1)), (2, .int q1.1), (0, .ref (ad 0)), (1, .int p0)]) hx hb dX7_scans_63 hl (k := 0) rfl rfl (by decide) rfl (fun ls hl => ?_)
                refine lv_goto (tgt := 10) hx hb dX7_scans_66 (by decide) ?_
                exact hin2 H locs ls _ (Option.some.inj hst2).symm hP hD hS (lv_sub hl [0, 1, 2, 3] rfl)
def sX7_findsFirst_L7 (q1 : Int32 × IA) : Option ((Int32 × IA) ⊕ (IA)) :=
  if 32 ≤ q1.1 then (some (.inr q1.2)) else (ck q1.1 32 (bd (wr q1.2 16 q1.1.toNatClampNeg 0) fun A2 => (sX7_ofThing A2 q1.1 1).bind fun x1 => ck q1.1 32 (bd (wr A2 17 q1.1.toNatClampNeg x1) fun A3 => some (.inl (q1.1 + 1, A3)))))
def sX7_findsFirst_L40 (q3 : Int32 × IA) : Option ((Int32 × IA) ⊕ (IA)) :=
  if 6 ≤ q3.1 then (some (.inr q3.2)) else (ck (192 + q3.1) 296 ((sX7_finds q3.2 ((q3.2 1) (192 + q3.1).toNatClampNeg)).bind fun z1 => some (.inl (q3.1 + 1, z1))))
def sX7_findsFirst_L68 (q5 : Int32 × IA) : Option ((Int32 × IA) ⊕ (IA)) :=
  if ((q5.2 1) (Int32.toNatClampNeg 291)) ≤ q5.1 then (some (.inr q5.2)) else (if ((q5.2 1) (Int32.toNatClampNeg 292)) = 1 then (ck (259 + q5.1) 296 ((sX7_finds q5.2 ((q5.2 1) (259 + q5.1).toNatClampNeg)).bind fun z2 => some (.inl (q5.1 + 1, z2)))) else (some (.inr q5.2)))
def sX7_findsFirst_L122 (q7 : Int32 × IA) : Option ((Int32 × IA) ⊕ (IA)) :=
  if 20 ≤ q7.1 then (some (.inr q7.2)) else (if (((q7.2 18 0) >>> (q7.1 &&& 31)) &&& 1) = 1 then ((sX7_scans q7.2 q7.1).bind fun z3 => some (.inl (q7.1 + 1, z3))) else (some (.inl (q7.1 + 1, q7.2))))
def sX7_findsFirst (A : IA) : Option (IA) :=
  bd (sc A 14 0) fun A1 => (loopN (sX7_findsFirst_L7) 2000 (0, A1)).bind fun q2 => (loopN (sX7_findsFirst_L40) 2000 (0, q2)).bind fun q4 => (loopN (sX7_findsFirst_L68) 2000 (0, q4)).bind fun q6 => (sX7_remembered q6).bind fun x2 => bd (sc q6 18 x2) fun A4 => (loopN (sX7_findsFirst_L122) 2000 (0, A4)).bind fun q8 => some q8
abbrev rmX7_findsFirst : Room := { frames := 3, cells := 0, slots := 0, locals := 66 }
theorem hdX7_findsFirst : yX7_findsFirst.cls = RX7 ∧ yX7_findsFirst.cls ≠ "java/lang/invoke/MethodHandle" ∧ yX7_findsFirst.cls ≠ "java/lang/invoke/VarHandle" ∧ (parseMethodDescriptor yX7_findsFirst.desc).map (fun d => d.parameters.length) = some 0 := by decide +kernel
set_option maxHeartbeats 4000000 in
set_option maxRecDepth 100000 in
theorem kX7_findsFirst {l : Launch} {g : GG} {sz : Nat} {ad : Nat → Nat} {A : IA} {F : FA} {b : IA} (hsem : sX7_findsFirst A = some b) : MetV l yX7_findsFirst wsX7_findsFirst rmX7_findsFirst g [.ref (ad 0)] (wM g ad A F) sz (wM g ad b F) := by
  refine Met.ofW (cc := cX7_findsFirst) (maxL := 2) (ret := none) (by decide) rfl ?_
  intro p e s m args below meth c s₁ B hml hv
  obtain ⟨rfl, hsz, hP, hD0, hKK⟩ := hv
  subst hsz
  have hx := B.exec
  have hb := B.bytes
  have hr := B.returns
  have hts := atoms_spec (ws := wsX7_findsFirst) B.pre
  have hown : s.vm.findClass RX7 = some m.cls := findClass_of_methodNamed B.named
  have hlocks := B.notSynchronized
  have hK := hKK.1
  have hD := hD0.self (sz := s.heap.size)
  generalize hZe : va_A (wM g ad A F) s.heap.size = Z at hD ⊢
  have hZ : ∀ q : Nat, s.heap.size ≤ q → Z q := fun q h => by rw [← hZe]; exact Or.inr h
  have hS : va_S Z s.heap s.heap [] := va_S.rf
  have hP : va_P g.1 vwCl (wM g ad A F) s.heap := hP
  have hD : va_D Z (wM g ad A F) := hD
  have hl := lv_entry ([.ref (ad 0)]) (n := 2) (Nat.le_of_ble_eq_true rfl)
  rw [lg_entry_eq]
  generalize (lg_sl ([.ref (ad 0)]) ++ List.replicate (2 - (lg_sl ([.ref (ad 0)])).length) Slot.unset).toArray = ls at hl ⊢
  have hl : lv_has ls 2 [(0, .ref (ad 0))] := hl
  unfold sX7_findsFirst at hsem
  refine lv_aload_n hx hb dX7_findsFirst_0 rfl (lv_at hl 0 rfl) ?_
  refine lv_iconst (v := 0) hx hb dX7_findsFirst_1 (by decide) ?_
  refine va_put (D := g.1) (ci := 7) (v := .int 0) (ty := .int) (C := RX7) (T := TX7) (N := 26) hx hb hts (fun w h => List.mem_cons_of_mem _ (List.mem_append_right _ h)) tyX7 tyX7_ok nmX7 hown hK hP hD hS 0 rfl rfl 14 (by decide) (hts (.fieldLink RX7 166 "PauseRegionsModel" "found" "I") (List.mem_of_getElem? (i := 1) rfl)) (fun _ h9 => h9) rfl (by decide +kernel) rfl rfl (Nat.le_of_ble_eq_true rfl) dX7_findsFirst_2 (fun H locs hP hD hS => ?_)
  obtain ⟨A1, eA1, hsem⟩ := bd_some hsem
  have hP : va_P g.1 vwCl (wM g ad A1 F) H := by rw [eA1]; exact hP
  have hD : va_D Z (wM g ad A1 F) := by rw [eA1]; exact hD
  refine lv_iconst (v := 0) hx hb dX7_findsFirst_5 (by decide) ?_
  refine lv_istore_n (lv' := [(1, .int 0), (0, .ref (ad 0))]) hx hb dX7_findsFirst_6 rfl hl (by decide) rfl (fun ls hl => ?_)
  obtain ⟨q2, hc2, hsem⟩ := bn_some hsem
  refine loopM (g := g) hc2 (fun (q1 : Int32 × IA) => [(1, .int q1.1), (0, .ref (ad 0))]) (fun (q1 : IA) => [(0, .ref (ad 0))]) (exit := 38) (fun (q1 : Int32 × IA) => wM g ad q1.2 F) (fun (q1 : IA) => wM g ad q1 F) hP hD hS (lv_sub hl [0, 1] rfl) (fun H locs ls hP hD hS hl => ?_) (fun q1 r hst1 hin1 hout1 H locs ls hP hD hS hl => ?_)
  · have hP : va_P g.1 vwCl (wM g ad q2 F) H := hP
    have hD : va_D Z (wM g ad q2 F) := hD
    refine lv_iconst (v := 0) hx hb dX7_findsFirst_38 (by decide) ?_
    refine lv_istore_n (lv' := [(1, .int 0), (0, .ref (ad 0))]) hx hb dX7_findsFirst_39 rfl hl (by decide) rfl (fun ls hl => ?_)
    obtain ⟨q4, hc4, hsem⟩ := bn_some hsem
    refine loopM (g := g) hc4 (fun (q3 : Int32 × IA) => [(1, .int q3.1), (0, .ref (ad 0))]) (fun (q3 : IA) => [(0, .ref (ad 0))]) (exit := 66) (fun (q3 : Int32 × IA) => wM g ad q3.2 F) (fun (q3 : IA) => wM g ad q3 F) hP hD hS (lv_sub hl [0, 1] rfl) (fun H locs ls hP hD hS hl => ?_) (fun q3 r hst1 hin1 hout1 H locs ls hP hD hS hl => ?_)
    · have hP : va_P g.1 vwCl (wM g ad q4 F) H := hP
      have hD : va_D Z (wM g ad q4 F) := hD
      refine lv_iconst (v := 0) hx hb dX7_findsFirst_66 (by decide) ?_
      refine lv_istore_n (lv' := [(1, .int 0), (0, .ref (ad 0))]) hx hb dX7_findsFirst_67 rfl hl (by decide) rfl (fun ls hl => ?_)
      obtain ⟨q6, hc6, hsem⟩ := bn_some hsem
      refine loopM (g := g) hc6 (fun (q5 : Int32 × IA) => [(1, .int q5.1), (0, .ref (ad 0))]) (fun (q5 : IA) => [(0, .ref (ad 0))]) (exit := 112) (fun (q5 : Int32 × IA) => wM g ad q5.2 F) (fun (q5 : IA) => wM g ad q5 F) hP hD hS (lv_sub hl [0, 1] rfl) (fun H locs ls hP hD hS hl => ?_) (fun q5 r hst1 hin1 hout1 H locs ls hP hD hS hl => ?_)
      · have hP : va_P g.1 vwCl (wM g ad q6 F) H := hP
        have hD : va_D Z (wM g ad q6 F) := hD
        refine lv_aload_n hx hb dX7_findsFirst_112 rfl (lv_at hl 0 rfl) ?_
        refine lv_aload_n hx hb dX7_findsFirst_113 rfl (lv_at hl 0 rfl) ?_
        obtain ⟨x2, hc7, hsem⟩ := bn_some hsem
        refine pcV (C := RX7) (As := []) (rest := [.ref (ad 0)]) ⟨hx, hb, hml, hown, hts⟩ hKK (cwV 0 hts gX7_findsFirst_X7_remembered rfl rfl rfl hdX7_remembered ⟨Nat.le_of_ble_eq_true rfl, Nat.le_of_ble_eq_true rfl⟩) (kX7_remembered (l := l) (g := g) hP hc7) (va_recv hK hP (ci := 7) (q0 := 0) rfl rfl) rfl hl.1 rfl (Nat.le_of_ble_eq_true rfl) dX7_findsFirst_114 ⟨Nat.zero_le _, Nat.zero_le _⟩ ?_
        refine va_put (D := g.1) (ci := 7) (v := .int x2) (ty := .int) (C := RX7) (T := TX7) (N := 26) hx hb hts (fun w h => List.mem_cons_of_mem _ (List.mem_append_right _ h)) tyX7 tyX7_ok nmX7 hown hK hP hD hS 0 rfl rfl 18 (by decide) (hts (.fieldLink RX7 175 "PauseRegionsModel" "scanned" "I") (List.mem_of_getElem? (i := 5) rfl)) (fun _ h9 => h9) rfl (by decide +kernel) rfl rfl (Nat.le_of_ble_eq_true rfl) dX7_findsFirst_117 (fun H locs hP hD hS => ?_)
        obtain ⟨A4, eA4, hsem⟩ := bd_some hsem
        have hP : va_P g.1 vwCl (wM g ad A4 F) H := by rw [eA4]; exact hP
        have hD : va_D Z (wM g ad A4 F) := by rw [eA4]; exact hD
        refine lv_iconst (v := 0) hx hb dX7_findsFirst_120 (by decide) ?_
        refine lv_istore_n (lv' := [(1, .int 0), (0, .ref (ad 0))]) hx hb dX7_findsFirst_121 rfl hl (by decide) rfl (fun ls hl => ?_)
        obtain ⟨q8, hc9, hsem⟩ := bn_some hsem
        refine loopM (g := g) hc9 (fun (q7 : Int32 × IA) => [(1, .int q7.1), (0, .ref (ad 0))]) (fun (q7 : IA) => []) (exit := 151) (fun (q7 : Int32 × IA) => wM g ad q7.2 F) (fun (q7 : IA) => wM g ad q7 F) hP hD hS (lv_sub hl [0, 1] rfl) (fun H locs ls hP hD hS hl => ?_) (fun q7 r hst1 hin1 hout1 H locs ls hP hD hS hl => ?_)
        · have hP : va_P g.1 vwCl (wM g ad q8 F) H := hP
          have hD : va_D Z (wM g ad q8 F) := hD
          have eo := (Option.some.inj hsem).symm.symm
          subst eo
          exact W.vret hx hb hr (fun t ht hW => ⟨⟨(), rfl, trivial, ⟨by rw [ht]; exact hP, hD⟩⟩, hS.F ht⟩) hS.2.2 dX7_findsFirst_151
        · unfold sX7_findsFirst_L122 at hst1
          have hP : va_P g.1 vwCl (wM g ad q7.2 F) H := hP
          have hD : va_D Z (wM g ad q7.2 F) := hD
          refine lv_iload_n hx hb dX7_findsFirst_122 rfl (lv_at hl 0 rfl) ?_
          refine lv_bipush (v := 20) hx hb dX7_findsFirst_123 (by decide) ?_
          refine lv_icmp_ge (tgt := 151) hx hb dX7_findsFirst_125 (by decide) (fun c5 => ?_) (fun c5 => ?_)
          · rw [if_pos c5] at hst1
            exact hout1 H locs ls _ (Option.some.inj hst1).symm hP hD hS (lv_sub hl [] rfl)
          · rw [if_neg c5] at hst1
            refine lv_aload_n hx hb dX7_findsFirst_128 rfl (lv_at hl 1 rfl) ?_
            refine va_get (D := g.1) (ci := 7) (v := .int (q7.2 18 0)) (C := RX7) (T := TX7) (N := 26) hx hb hts (fun w h => List.mem_cons_of_mem _ (List.mem_append_right _ h)) hown hK hP 0 rfl rfl 18 (by decide) (hts (.fieldLink RX7 175 "PauseRegionsModel" "scanned" "I") (List.mem_of_getElem? (i := 5) rfl)) (fun _ h9 => h9) rfl dX7_findsFirst_129 ?_
            refine lv_iload_n hx hb dX7_findsFirst_132 rfl (lv_at hl 0 rfl) ?_
            refine lv_ishr hx hb dX7_findsFirst_133 ?_
            refine lv_iconst (v := 1) hx hb dX7_findsFirst_134 (by decide) ?_
            refine lv_iand hx hb dX7_findsFirst_135 ?_
            refine lv_iconst (v := 1) hx hb dX7_findsFirst_136 (by decide) ?_
            refine lv_icmp_ne (tgt := 145) hx hb dX7_findsFirst_137 (by decide) (fun c6 => ?_) (fun c6 => ?_)
            · rw [if_neg c6] at hst1
              refine lv_iinc (v := q7.1 + 1) (lv' := [(1, .int (q7.1 + 1)), (0, .ref (ad 0))]) hx hb dX7_findsFirst_145 hl (k := 0) rfl rfl (by decide) rfl (fun ls hl => ?_)
              refine lv_goto (tgt := 122) hx hb dX7_findsFirst_148 (by decide) ?_
              exact hin1 H locs ls _ (Option.some.inj hst1).symm hP hD hS (lv_sub hl [0, 1] rfl)
            · rw [if_pos c6] at hst1
              refine lv_aload_n hx hb dX7_findsFirst_140 rfl (lv_at hl 1 rfl) ?_
              refine lv_iload_n hx hb dX7_findsFirst_141 rfl (lv_at hl 0 rfl) ?_
              obtain ⟨z3, hc8, hst1⟩ := bn_some hst1
              refine mcV (C := RX7) (As := [.int q7.1]) (rest := []) ⟨hx, hb, hml, hown, hts⟩ hKK hP hD hS hZ (cwV 1 hts gX7_findsFirst_X7_scans rfl rfl rfl hdX7_scans ⟨Nat.le_of_ble_eq_true rfl, Nat.le_of_ble_eq_true rfl⟩) (kX7_scans (l := l) (g := g) (ad := ad) (A := q7.2) (F := F) hc8) (va_recv hK hP (ci := 7) (q0 := 0) rfl rfl) rfl hl.1 rfl (Nat.le_of_ble_eq_true rfl) dX7_findsFirst_142 ⟨Nat.zero_le _, Nat.zero_le _⟩ (fun H locs hP hD hS => ?_)
              have hP : va_P g.1 vwCl (wM g ad z3 F) H := hP
              have hD : va_D Z (wM g ad z3 F) := hD
              refine lv_iinc (v := q7.1 + 1) (lv' := [(1, .int (q7.1 + 1)), (0, .ref (ad 0))]) hx hb dX7_findsFirst_145 hl (k := 0) rfl rfl (by decide) rfl (fun ls hl => ?_)
              refine lv_goto (tgt := 122) hx hb dX7_findsFirst_148 (by decide) ?_
              exact hin1 H locs ls _ (Option.some.inj hst1).symm hP hD hS (lv_sub hl [0, 1] rfl)
      · unfold sX7_findsFirst_L68 at hst1
        have hP : va_P g.1 vwCl (wM g ad q5.2 F) H := hP
        have hD : va_D Z (wM g ad q5.2 F) := hD
        refine lv_iload_n hx hb dX7_findsFirst_68 rfl (lv_at hl 0 rfl) ?_
        refine lv_aload_n hx hb dX7_findsFirst_69 rfl (lv_at hl 1 rfl) ?_
        refine va_get (D := g.1) (ci := 7) (v := .ref (ad 1)) (C := RX7) (T := TX7) (N := 26) hx hb hts (fun w h => List.mem_cons_of_mem _ (List.mem_append_right _ h)) hown hK hP 0 rfl rfl 1 (by decide) (hts (.fieldLink RX7 7 "PauseRegionsModel" "s" "[I") (List.mem_of_getElem? (i := 4) rfl)) (fun _ h9 => h9) rfl dX7_findsFirst_70 ?_
        refine lv_sipush (v := 291) hx hb dX7_findsFirst_73 (by decide) ?_
        have h4 : vp_in 291 296 := inb_vp rfl
        refine va_iald (D := g.1) hx hb hK hP 1 0 rfl rfl h4 dX7_findsFirst_76 ?_
        refine lv_icmp_ge (tgt := 112) hx hb dX7_findsFirst_77 (by decide) (fun c3 => ?_) (fun c3 => ?_)
        · rw [if_pos c3] at hst1
          exact hout1 H locs ls _ (Option.some.inj hst1).symm hP hD hS (lv_sub hl [1] rfl)
        · rw [if_neg c3] at hst1
          refine lv_aload_n hx hb dX7_findsFirst_80 rfl (lv_at hl 1 rfl) ?_
          refine va_get (D := g.1) (ci := 7) (v := .ref (ad 1)) (C := RX7) (T := TX7) (N := 26) hx hb hts (fun w h => List.mem_cons_of_mem _ (List.mem_append_right _ h)) hown hK hP 0 rfl rfl 1 (by decide) (hts (.fieldLink RX7 7 "PauseRegionsModel" "s" "[I") (List.mem_of_getElem? (i := 4) rfl)) (fun _ h9 => h9) rfl dX7_findsFirst_81 ?_
          refine lv_sipush (v := 292) hx hb dX7_findsFirst_84 (by decide) ?_
          have h5 : vp_in 292 296 := inb_vp rfl
          refine va_iald (D := g.1) hx hb hK hP 1 0 rfl rfl h5 dX7_findsFirst_87 ?_
          refine lv_iconst (v := 1) hx hb dX7_findsFirst_88 (by decide) ?_
          refine lv_icmp_ne (tgt := 112) hx hb dX7_findsFirst_89 (by decide) (fun c4 => ?_) (fun c4 => ?_)
          · rw [if_neg c4] at hst1
            exact hout1 H locs ls _ (Option.some.inj hst1).symm hP hD hS (lv_sub hl [1] rfl)
          · rw [if_pos c4] at hst1
            refine lv_aload_n hx hb dX7_findsFirst_92 rfl (lv_at hl 1 rfl) ?_
            refine lv_aload_n hx hb dX7_findsFirst_93 rfl (lv_at hl 1 rfl) ?_
            refine va_get (D := g.1) (ci := 7) (v := .ref (ad 1)) (C := RX7) (T := TX7) (N := 26) hx hb hts (fun w h => List.mem_cons_of_mem _ (List.mem_append_right _ h)) hown hK hP 0 rfl rfl 1 (by decide) (hts (.fieldLink RX7 7 "PauseRegionsModel" "s" "[I") (List.mem_of_getElem? (i := 4) rfl)) (fun _ h9 => h9) rfl dX7_findsFirst_94 ?_
            refine lv_sipush (v := 259) hx hb dX7_findsFirst_97 (by decide) ?_
            refine lv_iload_n hx hb dX7_findsFirst_100 rfl (lv_at hl 0 rfl) ?_
            refine lv_iadd hx hb dX7_findsFirst_101 ?_
            obtain ⟨h6, hst1⟩ := ck_some hst1
            refine va_iald (D := g.1) hx hb hK hP 1 0 rfl rfl h6 dX7_findsFirst_102 ?_
            obtain ⟨z2, hc5, hst1⟩ := bn_some hst1
            refine mcV (C := RX7) (As := [.int ((q5.2 1) (259 + q5.1).toNatClampNeg)]) (rest := []) ⟨hx, hb, hml, hown, hts⟩ hKK hP hD hS hZ (cwV 1 hts gX7_findsFirst_X7_finds rfl rfl rfl hdX7_finds ⟨Nat.le_of_ble_eq_true rfl, Nat.le_of_ble_eq_true rfl⟩) (kX7_finds (l := l) (g := g) (ad := ad) (A := q5.2) (F := F) hc5) (va_recv hK hP (ci := 7) (q0 := 0) rfl rfl) rfl hl.1 rfl (Nat.le_of_ble_eq_true rfl) dX7_findsFirst_103 ⟨Nat.zero_le _, Nat.zero_le _⟩ (fun H locs hP hD hS => ?_)
            have hP : va_P g.1 vwCl (wM g ad z2 F) H := hP
            have hD : va_D Z (wM g ad z2 F) := hD
            refine lv_iinc (v := q5.1 + 1) (lv' := [(1, .int (q5.1 + 1)), (0, .ref (ad 0))]) hx hb dX7_findsFirst_106 hl (k := 0) rfl rfl (by decide) rfl (fun ls hl => ?_)
            refine lv_goto (tgt := 68) hx hb dX7_findsFirst_109 (by decide) ?_
            exact hin1 H locs ls _ (Option.some.inj hst1).symm hP hD hS (lv_sub hl [0, 1] rfl)
    · unfold sX7_findsFirst_L40 at hst1
      have hP : va_P g.1 vwCl (wM g ad q3.2 F) H := hP
      have hD : va_D Z (wM g ad q3.2 F) := hD
      refine lv_iload_n hx hb dX7_findsFirst_40 rfl (lv_at hl 0 rfl) ?_
      refine lv_bipush (v := 6) hx hb dX7_findsFirst_41 (by decide) ?_
      refine lv_icmp_ge (tgt := 66) hx hb dX7_findsFirst_43 (by decide) (fun c2 => ?_) (fun c2 => ?_)
      · rw [if_pos c2] at hst1
        exact hout1 H locs ls _ (Option.some.inj hst1).symm hP hD hS (lv_sub hl [1] rfl)
      · rw [if_neg c2] at hst1
        refine lv_aload_n hx hb dX7_findsFirst_46 rfl (lv_at hl 1 rfl) ?_
        refine lv_aload_n hx hb dX7_findsFirst_47 rfl (lv_at hl 1 rfl) ?_
        refine va_get (D := g.1) (ci := 7) (v := .ref (ad 1)) (C := RX7) (T := TX7) (N := 26) hx hb hts (fun w h => List.mem_cons_of_mem _ (List.mem_append_right _ h)) hown hK hP 0 rfl rfl 1 (by decide) (hts (.fieldLink RX7 7 "PauseRegionsModel" "s" "[I") (List.mem_of_getElem? (i := 4) rfl)) (fun _ h9 => h9) rfl dX7_findsFirst_48 ?_
        refine lv_sipush (v := 192) hx hb dX7_findsFirst_51 (by decide) ?_
        refine lv_iload_n hx hb dX7_findsFirst_54 rfl (lv_at hl 0 rfl) ?_
        refine lv_iadd hx hb dX7_findsFirst_55 ?_
        obtain ⟨h3, hst1⟩ := ck_some hst1
        refine va_iald (D := g.1) hx hb hK hP 1 0 rfl rfl h3 dX7_findsFirst_56 ?_
        obtain ⟨z1, hc3, hst1⟩ := bn_some hst1
        refine mcV (C := RX7) (As := [.int ((q3.2 1) (192 + q3.1).toNatClampNeg)]) (rest := []) ⟨hx, hb, hml, hown, hts⟩ hKK hP hD hS hZ (cwV 1 hts gX7_findsFirst_X7_finds rfl rfl rfl hdX7_finds ⟨Nat.le_of_ble_eq_true rfl, Nat.le_of_ble_eq_true rfl⟩) (kX7_finds (l := l) (g := g) (ad := ad) (A := q3.2) (F := F) hc3) (va_recv hK hP (ci := 7) (q0 := 0) rfl rfl) rfl hl.1 rfl (Nat.le_of_ble_eq_true rfl) dX7_findsFirst_57 ⟨Nat.zero_le _, Nat.zero_le _⟩ (fun H locs hP hD hS => ?_)
        have hP : va_P g.1 vwCl (wM g ad z1 F) H := hP
        have hD : va_D Z (wM g ad z1 F) := hD
        refine lv_iinc (v := q3.1 + 1) (lv' := [(1, .int (q3.1 + 1)), (0, .ref (ad 0))]) hx hb dX7_findsFirst_60 hl (k := 0) rfl rfl (by decide) rfl (fun ls hl => ?_)
        refine lv_goto (tgt := 40) hx hb dX7_findsFirst_63 (by decide) ?_
        exact hin1 H locs ls _ (Option.some.inj hst1).symm hP hD hS (lv_sub hl [0, 1] rfl)
  · unfold sX7_findsFirst_L7 at hst1
    have hP : va_P g.1 vwCl (wM g ad q1.2 F) H := hP
    have hD : va_D Z (wM g ad q1.2 F) := hD
    refine lv_iload_n hx hb dX7_findsFirst_7 rfl (lv_at hl 0 rfl) ?_
    refine lv_bipush (v := 32) hx hb dX7_findsFirst_8 (by decide) ?_
    refine lv_icmp_ge (tgt := 38) hx hb dX7_findsFirst_10 (by decide) (fun c1 => ?_) (fun c1 => ?_)
    · rw [if_pos c1] at hst1
      exact hout1 H locs ls _ (Option.some.inj hst1).symm hP hD hS (lv_sub hl [1] rfl)
    · rw [if_neg c1] at hst1
      refine lv_aload_n hx hb dX7_findsFirst_13 rfl (lv_at hl 1 rfl) ?_
      refine va_get (D := g.1) (ci := 7) (v := .ref (ad 11)) (C := RX7) (T := TX7) (N := 26) hx hb hts (fun w h => List.mem_cons_of_mem _ (List.mem_append_right _ h)) hown hK hP 0 rfl rfl 16 (by decide) (hts (.fieldLink RX7 42 "PauseRegionsModel" "isFound" "[Z") (List.mem_of_getElem? (i := 2) rfl)) (fun _ h9 => h9) rfl dX7_findsFirst_14 ?_
      refine lv_iload_n hx hb dX7_findsFirst_17 rfl (lv_at hl 0 rfl) ?_
      refine lv_iconst (v := 0) hx hb dX7_findsFirst_18 (by decide) ?_
      obtain ⟨h1, hst1⟩ := ck_some hst1
      refine va_zast (D := g.1) hx hb hK hP hD hS 11 1 rfl rfl h1 dX7_findsFirst_19 (fun H locs hP hD hS => ?_)
      obtain ⟨A2, eA2, hst1⟩ := bd_some hst1
      have hP : va_P g.1 vwCl (wM g ad A2 F) H := by rw [eA2]; exact hP
      have hD : va_D Z (wM g ad A2 F) := by rw [eA2]; exact hD
      refine lv_aload_n hx hb dX7_findsFirst_20 rfl (lv_at hl 1 rfl) ?_
      refine va_get (D := g.1) (ci := 7) (v := .ref (ad 12)) (C := RX7) (T := TX7) (N := 26) hx hb hts (fun w h => List.mem_cons_of_mem _ (List.mem_append_right _ h)) hown hK hP 0 rfl rfl 17 (by decide) (hts (.fieldLink RX7 45 "PauseRegionsModel" "lay" "[I") (List.mem_of_getElem? (i := 3) rfl)) (fun _ h9 => h9) rfl dX7_findsFirst_21 ?_
      refine lv_iload_n hx hb dX7_findsFirst_24 rfl (lv_at hl 0 rfl) ?_
      refine lv_aload_n hx hb dX7_findsFirst_25 rfl (lv_at hl 1 rfl) ?_
      refine lv_iload_n hx hb dX7_findsFirst_26 rfl (lv_at hl 0 rfl) ?_
      refine lv_iconst (v := 1) hx hb dX7_findsFirst_27 (by decide) ?_
      obtain ⟨x1, hc1, hst1⟩ := bn_some hst1
      refine pcV (C := RX7) (As := [.int q1.1, .int 1]) (rest := [.int q1.1, .ref (ad 12)]) ⟨hx, hb, hml, hown, hts⟩ hKK (cwV 2 hts gX7_findsFirst_X7_ofThing rfl rfl rfl hdX7_ofThing ⟨Nat.le_of_ble_eq_true rfl, Nat.le_of_ble_eq_true rfl⟩) (kX7_ofThing (l := l) (g := g) hP hc1) (va_recv hK hP (ci := 7) (q0 := 0) rfl rfl) rfl hl.1 rfl (Nat.le_of_ble_eq_true rfl) dX7_findsFirst_28 ⟨Nat.zero_le _, Nat.zero_le _⟩ ?_
      obtain ⟨h2, hst1⟩ := ck_some hst1
      refine va_iast (D := g.1) hx hb hK hP hD hS 12 0 rfl rfl h2 dX7_findsFirst_31 (fun H locs hP hD hS => ?_)
      obtain ⟨A3, eA3, hst1⟩ := bd_some hst1
      have hP : va_P g.1 vwCl (wM g ad A3 F) H := by rw [eA3]; exact hP
      have hD : va_D Z (wM g ad A3 F) := by rw [eA3]; exact hD
      refine lv_iinc (v := q1.1 + 1) (lv' := [(1, .int (q1.1 + 1)), (0, .ref (ad 0))]) hx hb dX7_findsFirst_32 hl (k := 0) rfl rfl (by decide) rfl (fun ls hl => ?_)
      refine lv_goto (tgt := 7) hx hb dX7_findsFirst_35 (by decide) ?_
      exact hin1 H locs ls _ (Option.some.inj hst1).symm hP hD hS (lv_sub hl [0, 1] rfl)
def sX7_foretold (A : IA) (Fc : FA) (p0 : Int32) : Option (Int32 × IA × FA) :=
  bd (sc A 0 0) fun A1 => (sX7_isGoal p0).bind fun x1 => if x1 = 0 then (some (((-1), A1, Fc))) else ((sX7_laysChosen A1 Fc p0).bind fun z1 => some ((FP.f2i (FP.fmul 1120403456 (z1.2 12 0)), z1.1, z1.2)))
abbrev rmX7_foretold : Room := { frames := 3, cells := 0, slots := 0, locals := 68 }
theorem hdX7_foretold : yX7_foretold.cls = RX7 ∧ yX7_foretold.cls ≠ "java/lang/invoke/MethodHandle" ∧ yX7_foretold.cls ≠ "java/lang/invoke/VarHandle" ∧ (parseMethodDescriptor yX7_foretold.desc).map (fun d => d.parameters.length) = some 1 := by decide +kernel
set_option maxHeartbeats 4000000 in
set_option maxRecDepth 100000 in
theorem kX7_foretold {l : Launch} {g : GG} {sz : Nat} {ad : Nat → Nat} {A : IA} {F : FA} {p0 : Int32} {Fc : FA} (hAL : AL F Fc) {b : Int32 × IA × FA} (hsem : sX7_foretold A Fc p0 = some b) : MetDI l yX7_foretold wsX7_foretold rmX7_foretold g [.ref (ad 0), .int p0] (wM g ad A F) sz b.1 (φ := FA) (fun u => AL u b.2.2) (fun u => wM g ad b.2.1 u) := by
  refine MetD.ofW (cc := cX7_foretold) (maxL := 2) (ret := (some .int)) (by decide) rfl ?_
  intro p e s m args below meth c s₁ B hml hv hdr
  obtain ⟨rfl, hsz, hP, hD0, hKK⟩ := hv
  subst hsz
  have hx := B.exec
  have hb := B.bytes
  have hr := B.returns
  have hts := atoms_spec (ws := wsX7_foretold) B.pre
  have hown : ∀ d, (s.setDrawn d).vm.findClass RX7 = some m.cls := fun _ => findClass_of_methodNamed B.named
  have hlocks := B.notSynchronized
  have hK : ∀ d, va_K g.1 vwCl (KT g) (s.setDrawn d) := fun d => (hKK.drawn d).1
  have hD := hD0.self (sz := s.heap.size)
  generalize hZe : va_A (wM g ad A F) s.heap.size = Z at hD ⊢
  have hZ : ∀ q : Nat, s.heap.size ≤ q → Z q := fun q h => by rw [← hZe]; exact Or.inr h
  have hS : va_S Z s.heap s.heap [] := va_S.rf
  have hP : va_P g.1 vwCl (wM g ad A F) s.heap := hP
  have hD : va_D Z (wM g ad A F) := hD
  obtain ⟨d, hdr, hdd⟩ : ∃ d, s.drawn.sameBut d lw_cs ∧ s.drawn = d := ⟨_, hdr, rfl⟩
  rw [hdd]
  have hl := lv_entry ([.ref (ad 0), .int p0]) (n := 2) (Nat.le_of_ble_eq_true rfl)
  rw [lg_entry_eq]
  generalize (lg_sl ([.ref (ad 0), .int p0]) ++ List.replicate (2 - (lg_sl ([.ref (ad 0), .int p0])).length) Slot.unset).toArray = ls at hl ⊢
  have hl : lv_has ls 2 [(0, .ref (ad 0)), (1, .int p0)] := hl
  unfold sX7_foretold at hsem
  refine lv_aload_n hx hb dX7_foretold_0 rfl (lv_at hl 0 rfl) ?_
  refine lv_iconst (v := 0) hx hb dX7_foretold_1 (by decide) ?_
  refine va_put (D := g.1) (ci := 7) (v := .int 0) (ty := .int) (C := RX7) (T := TX7) (N := 26) hx hb (dr_words hts d) (fun w h => List.mem_cons_of_mem _ (List.mem_append_right _ h)) tyX7 tyX7_ok nmX7 (hown d) (hK d) hP hD hS 0 rfl rfl 0 (by decide) ((dr_words hts d) (.fieldLink RX7 55 "PauseRegionsModel" "thrown" "I") (List.mem_of_getElem? (i := 1) rfl)) (fun _ h9 => h9) rfl (by decide +kernel) rfl rfl (Nat.le_of_ble_eq_true rfl) dX7_foretold_2 (fun H locs hP hD hS => ?_)
  obtain ⟨A1, eA1, hsem⟩ := bd_some hsem
  have hP : va_P g.1 vwCl (wM g ad A1 F) H := by rw [eA1]; exact hP
  have hD : va_D Z (wM g ad A1 F) := by rw [eA1]; exact hD
  refine lv_iload_n hx hb dX7_foretold_5 rfl (lv_at hl 1 rfl) ?_
  obtain ⟨x1, hc1, hsem⟩ := bn_some hsem
  refine pcS (As := [.int p0]) (rest := []) ⟨hx, hb, hml, (hown d), (dr_words hts d)⟩ (hKK.drawn d) (va_cwS 1 (dr_words hts d) gX7_foretold_X7_isGoal rfl rfl rfl hdX7_isGoal ⟨Nat.le_of_ble_eq_true rfl, Nat.le_of_ble_eq_true rfl⟩) (kX7_isGoal (l := l) (g := g) hc1) rfl hl.1 rfl (Nat.le_of_ble_eq_true rfl) dX7_foretold_6 ⟨Nat.zero_le _, Nat.zero_le _⟩ ?_
  refine lv_if_ne (tgt := 14) hx hb dX7_foretold_9 (by decide) (fun c1 => ?_) (fun c1 => ?_)
  · rw [if_neg c1] at hsem
    refine lv_aload_n hx hb dX7_foretold_14 rfl (lv_at hl 0 rfl) ?_
    refine lv_iload_n hx hb dX7_foretold_15 rfl (lv_at hl 1 rfl) ?_
    obtain ⟨z1, hc2, hsem⟩ := bn_some hsem
    refine dcV (C := RX7) (As := [.int p0]) (rest := []) hdr ⟨hx, hb, hml, (hown d), (dr_words hts d)⟩ (hKK.drawn d) hP hD hS hZ (cwV 1 (dr_words hts d) gX7_foretold_X7_laysChosen rfl rfl rfl hdX7_laysChosen ⟨Nat.le_of_ble_eq_true rfl, Nat.le_of_ble_eq_true rfl⟩) (kX7_laysChosen (l := l) (g := g) (ad := ad) (A := A1) (F := F) (Fc := Fc) hAL hc2) (va_recv (hK d) hP (ci := 7) (q0 := 0) rfl rfl) rfl hl.1 rfl (Nat.le_of_ble_eq_true rfl) dX7_foretold_16 ⟨Nat.zero_le _, Nat.zero_le _⟩ (fun u1 H locs d hpo hP hD hS hdr => ?_)
    have hq1 := hpo
    have hP : va_P g.1 vwCl (wM g ad z1.1 u1) H := hP
    have hD : va_D Z (wM g ad z1.1 u1) := hD
    refine lv_ldcf hx hb (hown d) ((dr_words hts d) (.constantFloat RX7 228 (1120403456)) (List.mem_of_getElem? (i := 2) rfl)) dX7_foretold_19 ?_
    refine lv_aload_n hx hb dX7_foretold_21 rfl (lv_at hl 0 rfl) ?_
    refine va_get (D := g.1) (ci := 7) (v := .float (u1 12 0)) (C := RX7) (T := TX7) (N := 26) hx hb (dr_words hts d) (fun w h => List.mem_cons_of_mem _ (List.mem_append_right _ h)) (hown d) (hK d) hP 0 rfl rfl 12 (by decide) ((dr_words hts d) (.fieldLink RX7 159 "PauseRegionsModel" "foretold" "F") (List.mem_of_getElem? (i := 3) rfl)) (fun _ h9 => h9) rfl dX7_foretold_22 ?_
    refine lv_fmul_any hdr lw_bits hx hb dX7_foretold_25 (fun y1 d hal hdr => ?_)
    have ay1 := al_fmul hal (al_refl _) (hq1 12 0)
    refine lv_f2i hx hb dX7_foretold_26 ?_
    rw [al_f2i ay1]
    have eo := (Option.some.inj hsem).symm.symm
    refine W.endD hdr ?_
    subst eo
    exact W.iret (v := FP.f2i (FP.fmul 1120403456 (z1.2 12 0))) hx hb hr (fun t ht hW => ⟨⟨_, u1, rfl, ⟨rfl, hq1⟩, ⟨by rw [ht]; exact hP, hD⟩⟩, hS.F ht⟩) hS.2.2 dX7_foretold_27
  · rw [if_pos c1] at hsem
    refine lv_iconst (v := (-1)) hx hb dX7_foretold_12 (by decide) ?_
    have eo := (Option.some.inj hsem).symm.symm
    refine W.endD hdr ?_
    subst eo
    exact W.iret (v := (-1)) hx hb hr (fun t ht hW => ⟨⟨_, F, rfl, ⟨rfl, hAL⟩, ⟨by rw [ht]; exact hP, hD⟩⟩, hS.F ht⟩) hS.2.2 dX7_foretold_13
def sX7_grey (A : IA) (p0 : Int32) : Option (Int32 × IA) :=
  bd (sc A 0 0) fun A1 => if 0 ≤ p0 then (if ((A1 1) (Int32.toNatClampNeg 291)) ≤ p0 then (some (((-9), A1))) else (if ((A1 1) (Int32.toNatClampNeg 292)) = 1 then (ck (259 + p0) 296 (some (((A1 1) (259 + p0).toNatClampNeg, A1)))) else (some (((-9), A1))))) else (some (((-1), A1)))
abbrev rmX7_grey : Room := { frames := 0, cells := 0, slots := 0, locals := 0 }
theorem hdX7_grey : yX7_grey.cls = RX7 ∧ yX7_grey.cls ≠ "java/lang/invoke/MethodHandle" ∧ yX7_grey.cls ≠ "java/lang/invoke/VarHandle" ∧ (parseMethodDescriptor yX7_grey.desc).map (fun d => d.parameters.length) = some 1 := by decide +kernel
set_option maxHeartbeats 4000000 in
set_option maxRecDepth 100000 in
theorem kX7_grey {l : Launch} {g : GG} {sz : Nat} {ad : Nat → Nat} {A : IA} {F : FA} {p0 : Int32} {b : Int32 × IA} (hsem : sX7_grey A p0 = some b) : MetI l yX7_grey wsX7_grey rmX7_grey g [.ref (ad 0), .int p0] (wM g ad A F) sz b.1 (wM g ad b.2 F) := by
  refine Met.ofW (cc := cX7_grey) (maxL := 2) (ret := (some .int)) (by decide) rfl ?_
  intro p e s m args below meth c s₁ B hml hv
  obtain ⟨rfl, hsz, hP, hD0, hKK⟩ := hv
  subst hsz
  have hx := B.exec
  have hb := B.bytes
  have hr := B.returns
  have hts := atoms_spec (ws := wsX7_grey) B.pre
  have hown : s.vm.findClass RX7 = some m.cls := findClass_of_methodNamed B.named
  have hlocks := B.notSynchronized
  have hK := hKK.1
  have hD := hD0.self (sz := s.heap.size)
  generalize hZe : va_A (wM g ad A F) s.heap.size = Z at hD ⊢
  have hZ : ∀ q : Nat, s.heap.size ≤ q → Z q := fun q h => by rw [← hZe]; exact Or.inr h
  have hS : va_S Z s.heap s.heap [] := va_S.rf
  have hP : va_P g.1 vwCl (wM g ad A F) s.heap := hP
  have hD : va_D Z (wM g ad A F) := hD
  have hl := lv_entry ([.ref (ad 0), .int p0]) (n := 2) (Nat.le_of_ble_eq_true rfl)
  rw [lg_entry_eq]
  generalize (lg_sl ([.ref (ad 0), .int p0]) ++ List.replicate (2 - (lg_sl ([.ref (ad 0), .int p0])).length) Slot.unset).toArray = ls at hl ⊢
  have hl : lv_has ls 2 [(0, .ref (ad 0)), (1, .int p0)] := hl
  unfold sX7_grey at hsem
  refine lv_aload_n hx hb dX7_grey_0 rfl (lv_at hl 0 rfl) ?_
  refine lv_iconst (v := 0) hx hb dX7_grey_1 (by decide) ?_
  refine va_put (D := g.1) (ci := 7) (v := .int 0) (ty := .int) (C := RX7) (T := TX7) (N := 26) hx hb hts (fun w h => List.mem_cons_of_mem _ (List.mem_append_right _ h)) tyX7 tyX7_ok nmX7 hown hK hP hD hS 0 rfl rfl 0 (by decide) (hts (.fieldLink RX7 55 "PauseRegionsModel" "thrown" "I") (List.mem_of_getElem? (i := 1) rfl)) (fun _ h9 => h9) rfl (by decide +kernel) rfl rfl (Nat.le_of_ble_eq_true rfl) dX7_grey_2 (fun H locs hP hD hS => ?_)
  obtain ⟨A1, eA1, hsem⟩ := bd_some hsem
  have hP : va_P g.1 vwCl (wM g ad A1 F) H := by rw [eA1]; exact hP
  have hD : va_D Z (wM g ad A1 F) := by rw [eA1]; exact hD
  refine lv_iload_n hx hb dX7_grey_5 rfl (lv_at hl 1 rfl) ?_
  refine lv_if_ge (tgt := 13) hx hb dX7_grey_6 (by decide) (fun c1 => ?_) (fun c1 => ?_)
  · rw [if_pos c1] at hsem
    refine lv_iload_n hx hb dX7_grey_13 rfl (lv_at hl 1 rfl) ?_
    refine lv_aload_n hx hb dX7_grey_14 rfl (lv_at hl 0 rfl) ?_
    refine va_get (D := g.1) (ci := 7) (v := .ref (ad 1)) (C := RX7) (T := TX7) (N := 26) hx hb hts (fun w h => List.mem_cons_of_mem _ (List.mem_append_right _ h)) hown hK hP 0 rfl rfl 1 (by decide) (hts (.fieldLink RX7 7 "PauseRegionsModel" "s" "[I") (List.mem_of_getElem? (i := 2) rfl)) (fun _ h9 => h9) rfl dX7_grey_15 ?_
    refine lv_sipush (v := 291) hx hb dX7_grey_18 (by decide) ?_
    have h1 : vp_in 291 296 := inb_vp rfl
    refine va_iald (D := g.1) hx hb hK hP 1 0 rfl rfl h1 dX7_grey_21 ?_
    refine lv_icmp_ge (tgt := 50) hx hb dX7_grey_22 (by decide) (fun c2 => ?_) (fun c2 => ?_)
    · rw [if_pos c2] at hsem
      refine lv_bipush (v := (-9)) hx hb dX7_grey_50 (by decide) ?_
      have eo := (Option.some.inj hsem).symm.symm
      subst eo
      exact W.iret (v := (-9)) hx hb hr (fun t ht hW => ⟨⟨_, (), rfl, rfl, ⟨by rw [ht]; exact hP, hD⟩⟩, hS.F ht⟩) hS.2.2 dX7_grey_52
    · rw [if_neg c2] at hsem
      refine lv_aload_n hx hb dX7_grey_25 rfl (lv_at hl 0 rfl) ?_
      refine va_get (D := g.1) (ci := 7) (v := .ref (ad 1)) (C := RX7) (T := TX7) (N := 26) hx hb hts (fun w h => List.mem_cons_of_mem _ (List.mem_append_right _ h)) hown hK hP 0 rfl rfl 1 (by decide) (hts (.fieldLink RX7 7 "PauseRegionsModel" "s" "[I") (List.mem_of_getElem? (i := 2) rfl)) (fun _ h9 => h9) rfl dX7_grey_26 ?_
      refine lv_sipush (v := 292) hx hb dX7_grey_29 (by decide) ?_
      have h2 : vp_in 292 296 := inb_vp rfl
      refine va_iald (D := g.1) hx hb hK hP 1 0 rfl rfl h2 dX7_grey_32 ?_
      refine lv_iconst (v := 1) hx hb dX7_grey_33 (by decide) ?_
      refine lv_icmp_ne (tgt := 50) hx hb dX7_grey_34 (by decide) (fun c3 => ?_) (fun c3 => ?_)
      · rw [if_neg c3] at hsem
        refine lv_bipush (v := (-9)) hx hb dX7_grey_50 (by decide) ?_
        have eo := (Option.some.inj hsem).symm.symm
        subst eo
        exact W.iret (v := (-9)) hx hb hr (fun t ht hW => ⟨⟨_, (), rfl, rfl, ⟨by rw [ht]; exact hP, hD⟩⟩, hS.F ht⟩) hS.2.2 dX7_grey_52
      · rw [if_pos c3] at hsem
        refine lv_aload_n hx hb dX7_grey_37 rfl (lv_at hl 0 rfl) ?_
        refine va_get (D := g.1) (ci := 7) (v := .ref (ad 1)) (C := RX7) (T := TX7) (N := 26) hx hb hts (fun w h => List.mem_cons_of_mem _ (List.mem_append_right _ h)) hown hK hP 0 rfl rfl 1 (by decide) (hts (.fieldLink RX7 7 "PauseRegionsModel" "s" "[I") (List.mem_of_getElem? (i := 2) rfl)) (fun _ h9 => h9) rfl dX7_grey_38 ?_
        refine lv_sipush (v := 259) hx hb dX7_grey_41 (by decide) ?_
        refine lv_iload_n hx hb dX7_grey_44 rfl (lv_at hl 1 rfl) ?_
        refine lv_iadd hx hb dX7_grey_45 ?_
        obtain ⟨h3, hsem⟩ := ck_some hsem
        refine va_iald (D := g.1) hx hb hK hP 1 0 rfl rfl h3 dX7_grey_46 ?_
        refine lv_goto (tgt := 52) hx hb dX7_grey_47 (by decide) ?_
        have eo := (Option.some.inj hsem).symm.symm
        subst eo
        exact W.iret (v := (A1 1) (259 + p0).toNatClampNeg) hx hb hr (fun t ht hW => ⟨⟨_, (), rfl, rfl, ⟨by rw [ht]; exact hP, hD⟩⟩, hS.F ht⟩) hS.2.2 dX7_grey_52
  · rw [if_neg c1] at hsem
    refine lv_iconst (v := (-1)) hx hb dX7_grey_9 (by decide) ?_
    refine lv_goto (tgt := 52) hx hb dX7_grey_10 (by decide) ?_
    have eo := (Option.some.inj hsem).symm.symm
    subst eo
    exact W.iret (v := (-1)) hx hb hr (fun t ht hW => ⟨⟨_, (), rfl, rfl, ⟨by rw [ht]; exact hP, hD⟩⟩, hS.F ht⟩) hS.2.2 dX7_grey_52
def sX7_isFieldOf (A : IA) (p0 : Int32) (p1 : Int32) : Option (Int32) :=
  (sX7_ofThing A p0 3).bind fun x1 => if x1 = p1 then (some 1) else ((sX7_ofThing A p0 4).bind fun x2 => if x2 = p1 then (some 1) else (some 0))
abbrev rmX7_isFieldOf : Room := { frames := 1, cells := 0, slots := 0, locals := 22 }
theorem hdX7_isFieldOf : yX7_isFieldOf.cls = RX7 ∧ yX7_isFieldOf.cls ≠ "java/lang/invoke/MethodHandle" ∧ yX7_isFieldOf.cls ≠ "java/lang/invoke/VarHandle" ∧ (parseMethodDescriptor yX7_isFieldOf.desc).map (fun d => d.parameters.length) = some 2 := by decide +kernel
set_option maxHeartbeats 4000000 in
set_option maxRecDepth 100000 in
theorem kX7_isFieldOf {l : Launch} {g : GG} {H0 : Heap} {ad : Nat → Nat} {A : IA} {F : FA} {p0 p1 : Int32} {b : Int32} (hP : va_P g.1 vwCl (wM g ad A F) H0) (hsem : sX7_isFieldOf A p0 p1 = some b) : MetP l yX7_isFieldOf wsX7_isFieldOf rmX7_isFieldOf g H0 [.ref (ad 0), .int p0, .int p1] b := by
  refine Met.ofW (cc := cX7_isFieldOf) (maxL := 3) (ret := (some .boolean)) (by decide) rfl ?_
  intro p e s m args below meth c s₁ B hml hv
  obtain ⟨rfl, hH, hKK⟩ := hv
  subst hH
  have hx := B.exec
  have hb := B.bytes
  have hr := B.returns
  have hts := atoms_spec (ws := wsX7_isFieldOf) B.pre
  have hown : s.vm.findClass RX7 = some m.cls := findClass_of_methodNamed B.named
  have hlocks := B.notSynchronized
  have hK := hKK.1
  have hl := lv_entry ([.ref (ad 0), .int p0, .int p1]) (n := 3) (Nat.le_of_ble_eq_true rfl)
  rw [lg_entry_eq]
  generalize (lg_sl ([.ref (ad 0), .int p0, .int p1]) ++ List.replicate (3 - (lg_sl ([.ref (ad 0), .int p0, .int p1])).length) Slot.unset).toArray = ls at hl ⊢
  have hl : lv_has ls 3 [(0, .ref (ad 0)), (1, .int p0), (2, .int p1)] := hl
  unfold sX7_isFieldOf at hsem
  refine lv_aload_n hx hb dX7_isFieldOf_0 rfl (lv_at hl 0 rfl) ?_
  refine lv_iload_n hx hb dX7_isFieldOf_1 rfl (lv_at hl 1 rfl) ?_
  refine lv_iconst (v := 3) hx hb dX7_isFieldOf_2 (by decide) ?_
  obtain ⟨x1, hc1, hsem⟩ := bn_some hsem
  refine pcV (C := RX7) (As := [.int p0, .int 3]) (rest := []) ⟨hx, hb, hml, hown, hts⟩ hKK (cwV 2 hts gX7_isFieldOf_X7_ofThing rfl rfl rfl hdX7_ofThing ⟨Nat.le_of_ble_eq_true rfl, Nat.le_of_ble_eq_true rfl⟩) (kX7_ofThing (l := l) (g := g) hP hc1) (va_recv hK hP (ci := 7) (q0 := 0) rfl rfl) rfl hl.1 rfl (Nat.le_of_ble_eq_true rfl) dX7_isFieldOf_3 ⟨Nat.zero_le _, Nat.zero_le _⟩ ?_
  refine lv_iload_n hx hb dX7_isFieldOf_6 rfl (lv_at hl 2 rfl) ?_
  refine lv_icmp_eq (tgt := 20) hx hb dX7_isFieldOf_7 (by decide) (fun c1 => ?_) (fun c1 => ?_)
  · rw [if_pos c1] at hsem
    refine lv_iconst (v := 1) hx hb dX7_isFieldOf_20 (by decide) ?_
    refine lv_goto (tgt := 25) hx hb dX7_isFieldOf_21 (by decide) ?_
    have eo := (Option.some.inj hsem).symm.symm
    exact W.zret (v := 1) hx hb hr rfl (fun t ht hW => ⟨⟨_, (), rfl, eo, ht⟩, (va_S.rf (A := fun _ => False) (H0 := s.heap)).F ht⟩) (fun q hq => absurd hq List.not_mem_nil) dX7_isFieldOf_25
  · rw [if_neg c1] at hsem
    refine lv_aload_n hx hb dX7_isFieldOf_10 rfl (lv_at hl 0 rfl) ?_
    refine lv_iload_n hx hb dX7_isFieldOf_11 rfl (lv_at hl 1 rfl) ?_
    refine lv_iconst (v := 4) hx hb dX7_isFieldOf_12 (by decide) ?_
    obtain ⟨x2, hc2, hsem⟩ := bn_some hsem
    refine pcV (C := RX7) (As := [.int p0, .int 4]) (rest := []) ⟨hx, hb, hml, hown, hts⟩ hKK (cwV 2 hts gX7_isFieldOf_X7_ofThing rfl rfl rfl hdX7_ofThing ⟨Nat.le_of_ble_eq_true rfl, Nat.le_of_ble_eq_true rfl⟩) (kX7_ofThing (l := l) (g := g) hP hc2) (va_recv hK hP (ci := 7) (q0 := 0) rfl rfl) rfl hl.1 rfl (Nat.le_of_ble_eq_true rfl) dX7_isFieldOf_13 ⟨Nat.zero_le _, Nat.zero_le _⟩ ?_
    refine lv_iload_n hx hb dX7_isFieldOf_16 rfl (lv_at hl 2 rfl) ?_
    refine lv_icmp_ne (tgt := 24) hx hb dX7_isFieldOf_17 (by decide) (fun c2 => ?_) (fun c2 => ?_)
    · rw [if_neg c2] at hsem
      refine lv_iconst (v := 0) hx hb dX7_isFieldOf_24 (by decide) ?_
      have eo := (Option.some.inj hsem).symm.symm
      exact W.zret (v := 0) hx hb hr rfl (fun t ht hW => ⟨⟨_, (), rfl, eo, ht⟩, (va_S.rf (A := fun _ => False) (H0 := s.heap)).F ht⟩) (fun q hq => absurd hq List.not_mem_nil) dX7_isFieldOf_25
    · rw [if_pos c2] at hsem
      refine lv_iconst (v := 1) hx hb dX7_isFieldOf_20 (by decide) ?_
      refine lv_goto (tgt := 25) hx hb dX7_isFieldOf_21 (by decide) ?_
      have eo := (Option.some.inj hsem).symm.symm
      exact W.zret (v := 1) hx hb hr rfl (fun t ht hW => ⟨⟨_, (), rfl, eo, ht⟩, (va_S.rf (A := fun _ => False) (H0 := s.heap)).F ht⟩) (fun q hq => absurd hq List.not_mem_nil) dX7_isFieldOf_25
def sX7_isRegion (p0 : Int32) : Option (Int32) :=
  (sX7_in p0 0 9).bind fun x1 => ckb x1 (some x1)
abbrev rmX7_isRegion : Room := { frames := 1, cells := 0, slots := 0, locals := 22 }
theorem hdX7_isRegion : yX7_isRegion.cls ≠ "java/lang/invoke/MethodHandle" ∧ yX7_isRegion.cls ≠ "java/lang/invoke/VarHandle" ∧ (parseMethodDescriptor yX7_isRegion.desc).map (fun d => d.parameters.length) = some 1 := by decide +kernel
set_option maxHeartbeats 4000000 in
set_option maxRecDepth 100000 in
theorem kX7_isRegion {l : Launch} {g : GG} {H0 : Heap}  {p0 : Int32} {b : Int32} (hsem : sX7_isRegion p0 = some b) : MetP l yX7_isRegion wsX7_isRegion rmX7_isRegion g H0 [.int p0] b := by
  refine Met.ofW (cc := cX7_isRegion) (maxL := 1) (ret := (some .boolean)) (by decide) rfl ?_
  intro p e s m args below meth c s₁ B hml hv
  obtain ⟨rfl, hH, hKK⟩ := hv
  subst hH
  have hx := B.exec
  have hb := B.bytes
  have hr := B.returns
  have hts := atoms_spec (ws := wsX7_isRegion) B.pre
  have hown : s.vm.findClass RX7 = some m.cls := findClass_of_methodNamed B.named
  have hlocks := B.notSynchronized
  have hK := hKK.1
  have hl := lv_entry ([.int p0]) (n := 1) (Nat.le_of_ble_eq_true rfl)
  rw [lg_entry_eq]
  generalize (lg_sl ([.int p0]) ++ List.replicate (1 - (lg_sl ([.int p0])).length) Slot.unset).toArray = ls at hl ⊢
  have hl : lv_has ls 1 [(0, .int p0)] := hl
  unfold sX7_isRegion at hsem
  refine lv_iload_n hx hb dX7_isRegion_0 rfl (lv_at hl 0 rfl) ?_
  refine lv_iconst (v := 0) hx hb dX7_isRegion_1 (by decide) ?_
  refine lv_bipush (v := 9) hx hb dX7_isRegion_2 (by decide) ?_
  obtain ⟨x1, hc1, hsem⟩ := bn_some hsem
  refine pcS (As := [.int p0, .int 0, .int 9]) (rest := []) ⟨hx, hb, hml, hown, hts⟩ hKK (va_cwS 3 hts gX7_isRegion_X7_in rfl rfl rfl hdX7_in ⟨Nat.le_of_ble_eq_true rfl, Nat.le_of_ble_eq_true rfl⟩) (kX7_in (l := l) (g := g) hc1) rfl hl.1 rfl (Nat.le_of_ble_eq_true rfl) dX7_isRegion_4 ⟨Nat.zero_le _, Nat.zero_le _⟩ ?_
  obtain ⟨h1, hsem⟩ := ckb_some hsem
  have eo := (Option.some.inj hsem).symm.symm
  exact W.zret (v := x1) hx hb hr (nar_bool h1) (fun t ht hW => ⟨⟨_, (), rfl, eo, ht⟩, (va_S.rf (A := fun _ => False) (H0 := s.heap)).F ht⟩) (fun q hq => absurd hq List.not_mem_nil) dX7_isRegion_7
def sX7_isRoot (p0 : Int32) : Option (Int32) :=
  (sX7_in p0 0 5).bind fun x1 => ckb x1 (some x1)
abbrev rmX7_isRoot : Room := { frames := 1, cells := 0, slots := 0, locals := 22 }
theorem hdX7_isRoot : yX7_isRoot.cls ≠ "java/lang/invoke/MethodHandle" ∧ yX7_isRoot.cls ≠ "java/lang/invoke/VarHandle" ∧ (parseMethodDescriptor yX7_isRoot.desc).map (fun d => d.parameters.length) = some 1 := by decide +kernel
set_option maxHeartbeats 4000000 in
set_option maxRecDepth 100000 in
theorem kX7_isRoot {l : Launch} {g : GG} {H0 : Heap}  {p0 : Int32} {b : Int32} (hsem : sX7_isRoot p0 = some b) : MetP l yX7_isRoot wsX7_isRoot rmX7_isRoot g H0 [.int p0] b := by
  refine Met.ofW (cc := cX7_isRoot) (maxL := 1) (ret := (some .boolean)) (by decide) rfl ?_
  intro p e s m args below meth c s₁ B hml hv
  obtain ⟨rfl, hH, hKK⟩ := hv
  subst hH
  have hx := B.exec
  have hb := B.bytes
  have hr := B.returns
  have hts := atoms_spec (ws := wsX7_isRoot) B.pre
  have hown : s.vm.findClass RX7 = some m.cls := findClass_of_methodNamed B.named
  have hlocks := B.notSynchronized
  have hK := hKK.1
  have hl := lv_entry ([.int p0]) (n := 1) (Nat.le_of_ble_eq_true rfl)
  rw [lg_entry_eq]
  generalize (lg_sl ([.int p0]) ++ List.replicate (1 - (lg_sl ([.int p0])).length) Slot.unset).toArray = ls at hl ⊢
  have hl : lv_has ls 1 [(0, .int p0)] := hl
  unfold sX7_isRoot at hsem
  refine lv_iload_n hx hb dX7_isRoot_0 rfl (lv_at hl 0 rfl) ?_
  refine lv_iconst (v := 0) hx hb dX7_isRoot_1 (by decide) ?_
  refine lv_iconst (v := 5) hx hb dX7_isRoot_2 (by decide) ?_
  obtain ⟨x1, hc1, hsem⟩ := bn_some hsem
  refine pcS (As := [.int p0, .int 0, .int 5]) (rest := []) ⟨hx, hb, hml, hown, hts⟩ hKK (va_cwS 3 hts gX7_isRoot_X7_in rfl rfl rfl hdX7_in ⟨Nat.le_of_ble_eq_true rfl, Nat.le_of_ble_eq_true rfl⟩) (kX7_in (l := l) (g := g) hc1) rfl hl.1 rfl (Nat.le_of_ble_eq_true rfl) dX7_isRoot_3 ⟨Nat.zero_le _, Nat.zero_le _⟩ ?_
  obtain ⟨h1, hsem⟩ := ckb_some hsem
  have eo := (Option.some.inj hsem).symm.symm
  exact W.zret (v := x1) hx hb hr (nar_bool h1) (fun t ht hW => ⟨⟨_, (), rfl, eo, ht⟩, (va_S.rf (A := fun _ => False) (H0 := s.heap)).F ht⟩) (fun q hq => absurd hq List.not_mem_nil) dX7_isRoot_6
def sX7_keep_L18 (p0 : Int32) (q1 : Int32 × IA) : Option ((Int32 × IA) ⊕ (IA)) :=
  if 296 ≤ q1.1 then (some (.inr q1.2)) else (ck q1.1 296 (ck ((296 * p0) + q1.1) 592 (bd (wr q1.2 6 (((296 * p0) + q1.1).toNatClampNeg) ((q1.2 1) q1.1.toNatClampNeg)) fun A2 => some (.inl (q1.1 + 1, A2)))))
def sX7_keep (A : IA) (Fc : FA) (p0 : Int32) : Option (Int32 × IA × FA) :=
  bd (sc A 0 0) fun A1 => (sX7_in p0 0 1).bind fun x1 => if x1 = 0 then (some (((-1), A1, Fc))) else ((loopN (sX7_keep_L18 p0) 2000 (0, A1)).bind fun q2 => ck (2 * p0) 4 (bd (wrF Fc 7 ((2 * p0).toNatClampNeg) (Fc 2 (Int32.toNatClampNeg 0))) fun F1c => ck ((2 * p0) + 1) 4 (bd (wrF F1c 7 (((2 * p0) + 1).toNatClampNeg) (F1c 2 (Int32.toNatClampNeg 1))) fun F2c => ck p0 2 (bd (wr q2 8 p0.toNatClampNeg 1) fun A3 => (sX7_things A3).bind fun x2 => some (x2, A3, F2c)))))
abbrev rmX7_keep : Room := { frames := 3, cells := 0, slots := 0, locals := 65 }
theorem hdX7_keep : yX7_keep.cls = RX7 ∧ yX7_keep.cls ≠ "java/lang/invoke/MethodHandle" ∧ yX7_keep.cls ≠ "java/lang/invoke/VarHandle" ∧ (parseMethodDescriptor yX7_keep.desc).map (fun d => d.parameters.length) = some 1 := by decide +kernel
set_option maxHeartbeats 4000000 in
set_option maxRecDepth 100000 in
theorem kX7_keep {l : Launch} {g : GG} {sz : Nat} {ad : Nat → Nat} {A : IA} {F : FA} {p0 : Int32} {Fc : FA} (hAL : AL F Fc) {b : Int32 × IA × FA} (hsem : sX7_keep A Fc p0 = some b) : MetDI l yX7_keep wsX7_keep rmX7_keep g [.ref (ad 0), .int p0] (wM g ad A F) sz b.1 (φ := FA) (fun u => AL u b.2.2) (fun u => wM g ad b.2.1 u) := by
  refine MetD.ofW (cc := cX7_keep) (maxL := 3) (ret := (some .int)) (by decide) rfl ?_
  intro p e s m args below meth c s₁ B hml hv hdr
  obtain ⟨rfl, hsz, hP, hD0, hKK⟩ := hv
  subst hsz
  have hx := B.exec
  have hb := B.bytes
  have hr := B.returns
  have hts := atoms_spec (ws := wsX7_keep) B.pre
  have hown : ∀ d, (s.setDrawn d).vm.findClass RX7 = some m.cls := fun _ => findClass_of_methodNamed B.named
  have hlocks := B.notSynchronized
  have hK : ∀ d, va_K g.1 vwCl (KT g) (s.setDrawn d) := fun d => (hKK.drawn d).1
  have hD := hD0.self (sz := s.heap.size)
  generalize hZe : va_A (wM g ad A F) s.heap.size = Z at hD ⊢
  have hZ : ∀ q : Nat, s.heap.size ≤ q → Z q := fun q h => by rw [← hZe]; exact Or.inr h
  have hS : va_S Z s.heap s.heap [] := va_S.rf
  have hP : va_P g.1 vwCl (wM g ad A F) s.heap := hP
  have hD : va_D Z (wM g ad A F) := hD
  obtain ⟨d, hdr, hdd⟩ : ∃ d, s.drawn.sameBut d lw_cs ∧ s.drawn = d := ⟨_, hdr, rfl⟩
  rw [hdd]
  have hl := lv_entry ([.ref (ad 0), .int p0]) (n := 3) (Nat.le_of_ble_eq_true rfl)
  rw [lg_entry_eq]
  generalize (lg_sl ([.ref (ad 0), .int p0]) ++ List.replicate (3 - (lg_sl ([.ref (ad 0), .int p0])).length) Slot.unset).toArray = ls at hl ⊢
  have hl : lv_has ls 3 [(0, .ref (ad 0)), (1, .int p0)] := hl
  unfold sX7_keep at hsem
  refine lv_aload_n hx hb dX7_keep_0 rfl (lv_at hl 0 rfl) ?_
  refine lv_iconst (v := 0) hx hb dX7_keep_1 (by decide) ?_
  refine va_put (D := g.1) (ci := 7) (v := .int 0) (ty := .int) (C := RX7) (T := TX7) (N := 26) hx hb (dr_words hts d) (fun w h => List.mem_cons_of_mem _ (List.mem_append_right _ h)) tyX7 tyX7_ok nmX7 (hown d) (hK d) hP hD hS 0 rfl rfl 0 (by decide) ((dr_words hts d) (.fieldLink RX7 55 "PauseRegionsModel" "thrown" "I") (List.mem_of_getElem? (i := 1) rfl)) (fun _ h9 => h9) rfl (by decide +kernel) rfl rfl (Nat.le_of_ble_eq_true rfl) dX7_keep_2 (fun H locs hP hD hS => ?_)
  obtain ⟨A1, eA1, hsem⟩ := bd_some hsem
  have hP : va_P g.1 vwCl (wM g ad A1 F) H := by rw [eA1]; exact hP
  have hD : va_D Z (wM g ad A1 F) := by rw [eA1]; exact hD
  refine lv_iload_n hx hb dX7_keep_5 rfl (lv_at hl 1 rfl) ?_
  refine lv_iconst (v := 0) hx hb dX7_keep_6 (by decide) ?_
  refine lv_iconst (v := 1) hx hb dX7_keep_7 (by decide) ?_
  obtain ⟨x1, hc1, hsem⟩ := bn_some hsem
  refine pcS (As := [.int p0, .int 0, .int 1]) (rest := []) ⟨hx, hb, hml, (hown d), (dr_words hts d)⟩ (hKK.drawn d) (va_cwS 3 (dr_words hts d) gX7_keep_X7_in rfl rfl rfl hdX7_in ⟨Nat.le_of_ble_eq_true rfl, Nat.le_of_ble_eq_true rfl⟩) (kX7_in (l := l) (g := g) hc1) rfl hl.1 rfl (Nat.le_of_ble_eq_true rfl) dX7_keep_8 ⟨Nat.zero_le _, Nat.zero_le _⟩ ?_
  refine lv_if_ne (tgt := 16) hx hb dX7_keep_11 (by decide) (fun c1 => ?_) (fun c1 => ?_)
  · rw [if_neg c1] at hsem
    refine lv_iconst (v := 0) hx hb dX7_keep_16 (by decide) ?_
    refine lv_istore_n (lv' := [(2, .int 0), (0, .ref (ad 0)), (1, .int p0)]) hx hb dX7_keep_17 rfl hl (by decide) rfl (fun ls hl => ?_)
    obtain ⟨q2, hc2, hsem⟩ := bn_some hsem
    refine loopMD (g := g) hdr hc2 (fun (q1 : Int32 × IA) => [(2, .int q1.1), (0, .ref (ad 0)), (1, .int p0)]) (fun (q1 : IA) => [(0, .ref (ad 0)), (1, .int p0)]) (exit := 49) (fun (q1 : Int32 × IA) (fz1 : Unit) => wM g ad q1.2 F) (fun (q1 : IA) (fz1 : Unit) => wM g ad q1 F) (fun (_ : Int32 × IA) (_ : Unit) => True) (fun (_ : IA) (_ : Unit) => True) () trivial hP hD hS (lv_sub hl [0, 1, 2] rfl) (fun d H locs ls fz1 hdr hrfz1 hP hD hS hl => ?_) (fun q1 r hst1 hin1 hout1 d H locs ls fz1 hdr hrfz1 hP hD hS hl => ?_)
    · have hP : va_P g.1 vwCl (wM g ad q2 F) H := hP
      have hD : va_D Z (wM g ad q2 F) := hD
      refine lv_aload_n hx hb dX7_keep_49 rfl (lv_at hl 0 rfl) ?_
      refine va_get (D := g.1) (ci := 7) (v := .ref (ad 6)) (C := RX7) (T := TX7) (N := 26) hx hb (dr_words hts d) (fun w h => List.mem_cons_of_mem _ (List.mem_append_right _ h)) (hown d) (hK d) hP 0 rfl rfl 7 (by decide) ((dr_words hts d) (.fieldLink RX7 26 "PauseRegionsModel" "keptLearnt" "[F") (List.mem_of_getElem? (i := 4) rfl)) (fun _ h9 => h9) rfl dX7_keep_50 ?_
      refine lv_iconst (v := 2) hx hb dX7_keep_53 (by decide) ?_
      refine lv_iload_n hx hb dX7_keep_54 rfl (lv_at hl 1 rfl) ?_
      refine lv_imul hx hb dX7_keep_55 ?_
      refine lv_aload_n hx hb dX7_keep_56 rfl (lv_at hl 0 rfl) ?_
      refine va_get (D := g.1) (ci := 7) (v := .ref (ad 2)) (C := RX7) (T := TX7) (N := 26) hx hb (dr_words hts d) (fun w h => List.mem_cons_of_mem _ (List.mem_append_right _ h)) (hown d) (hK d) hP 0 rfl rfl 2 (by decide) ((dr_words hts d) (.fieldLink RX7 13 "PauseRegionsModel" "learnt" "[F") (List.mem_of_getElem? (i := 5) rfl)) (fun _ h9 => h9) rfl dX7_keep_57 ?_
      refine lv_iconst (v := 0) hx hb dX7_keep_60 (by decide) ?_
      have h3 : vp_in 0 2 := inb_vp rfl
      refine va_fald (D := g.1) hx hb (hK d) hP 2 2 rfl rfl h3 dX7_keep_61 ?_
      obtain ⟨h4, hsem⟩ := ck_some hsem
      refine va_fast (D := g.1) hx hb (hK d) hP hD hS 6 2 rfl rfl h4 dX7_keep_62 (fun H locs hP hD hS => ?_)
      obtain ⟨F1, eF1⟩ : ∃ z, z = wrF F 7 ((2 * p0).toNatClampNeg) ((F 2) (Int32.toNatClampNeg 0)) := ⟨_, rfl⟩
      obtain ⟨F1c, eF1c, hsem⟩ := bd_some hsem
      have haF1 : AL F1 F1c := by rw [eF1, eF1c]; exact AL.wr hAL (hAL 2 _)
      have hP : va_P g.1 vwCl (wM g ad q2 F1) H := by rw [eF1]; exact hP
      have hD : va_D Z (wM g ad q2 F1) := by rw [eF1]; exact hD
      refine lv_aload_n hx hb dX7_keep_63 rfl (lv_at hl 0 rfl) ?_
      refine va_get (D := g.1) (ci := 7) (v := .ref (ad 6)) (C := RX7) (T := TX7) (N := 26) hx hb (dr_words hts d) (fun w h => List.mem_cons_of_mem _ (List.mem_append_right _ h)) (hown d) (hK d) hP 0 rfl rfl 7 (by decide) ((dr_words hts d) (.fieldLink RX7 26 "PauseRegionsModel" "keptLearnt" "[F") (List.mem_of_getElem? (i := 4) rfl)) (fun _ h9 => h9) rfl dX7_keep_64 ?_
      refine lv_iconst (v := 2) hx hb dX7_keep_67 (by decide) ?_
      refine lv_iload_n hx hb dX7_keep_68 rfl (lv_at hl 1 rfl) ?_
      refine lv_imul hx hb dX7_keep_69 ?_
      refine lv_iconst (v := 1) hx hb dX7_keep_70 (by decide) ?_
      refine lv_iadd hx hb dX7_keep_71 ?_
      refine lv_aload_n hx hb dX7_keep_72 rfl (lv_at hl 0 rfl) ?_
      refine va_get (D := g.1) (ci := 7) (v := .ref (ad 2)) (C := RX7) (T := TX7) (N := 26) hx hb (dr_words hts d) (fun w h => List.mem_cons_of_mem _ (List.mem_append_right _ h)) (hown d) (hK d) hP 0 rfl rfl 2 (by decide) ((dr_words hts d) (.fieldLink RX7 13 "PauseRegionsModel" "learnt" "[F") (List.mem_of_getElem? (i := 5) rfl)) (fun _ h9 => h9) rfl dX7_keep_73 ?_
      refine lv_iconst (v := 1) hx hb dX7_keep_76 (by decide) ?_
      have h5 : vp_in 1 2 := inb_vp rfl
      refine va_fald (D := g.1) hx hb (hK d) hP 2 2 rfl rfl h5 dX7_keep_77 ?_
      obtain ⟨h6, hsem⟩ := ck_some hsem
      refine va_fast (D := g.1) hx hb (hK d) hP hD hS 6 2 rfl rfl h6 dX7_keep_78 (fun H locs hP hD hS => ?_)
      obtain ⟨F2, eF2⟩ : ∃ z, z = wrF F1 7 (((2 * p0) + 1).toNatClampNeg) ((F1 2) (Int32.toNatClampNeg 1)) := ⟨_, rfl⟩
      obtain ⟨F2c, eF2c, hsem⟩ := bd_some hsem
      have haF2 : AL F2 F2c := by rw [eF2, eF2c]; exact AL.wr haF1 (haF1 2 _)
      have hP : va_P g.1 vwCl (wM g ad q2 F2) H := by rw [eF2]; exact hP
      have hD : va_D Z (wM g ad q2 F2) := by rw [eF2]; exact hD
      refine lv_aload_n hx hb dX7_keep_79 rfl (lv_at hl 0 rfl) ?_
      refine va_get (D := g.1) (ci := 7) (v := .ref (ad 7)) (C := RX7) (T := TX7) (N := 26) hx hb (dr_words hts d) (fun w h => List.mem_cons_of_mem _ (List.mem_append_right _ h)) (hown d) (hK d) hP 0 rfl rfl 8 (by decide) ((dr_words hts d) (.fieldLink RX7 29 "PauseRegionsModel" "isKept" "[Z") (List.mem_of_getElem? (i := 6) rfl)) (fun _ h9 => h9) rfl dX7_keep_80 ?_
      refine lv_iload_n hx hb dX7_keep_83 rfl (lv_at hl 1 rfl) ?_
      refine lv_iconst (v := 1) hx hb dX7_keep_84 (by decide) ?_
      obtain ⟨h7, hsem⟩ := ck_some hsem
      refine va_zast (D := g.1) hx hb (hK d) hP hD hS 7 1 rfl rfl h7 dX7_keep_85 (fun H locs hP hD hS => ?_)
      obtain ⟨A3, eA3, hsem⟩ := bd_some hsem
      have hP : va_P g.1 vwCl (wM g ad A3 F2) H := by rw [eA3]; exact hP
      have hD : va_D Z (wM g ad A3 F2) := by rw [eA3]; exact hD
      refine lv_aload_n hx hb dX7_keep_86 rfl (lv_at hl 0 rfl) ?_
      obtain ⟨x2, hc3, hsem⟩ := bn_some hsem
      refine pcV (C := RX7) (As := []) (rest := []) ⟨hx, hb, hml, (hown d), (dr_words hts d)⟩ (hKK.drawn d) (cwV 0 (dr_words hts d) gX7_keep_X7_things rfl rfl rfl hdX7_things ⟨Nat.le_of_ble_eq_true rfl, Nat.le_of_ble_eq_true rfl⟩) (kX7_things (l := l) (g := g) hP hc3) (va_recv (hK d) hP (ci := 7) (q0 := 0) rfl rfl) rfl hl.1 rfl (Nat.le_of_ble_eq_true rfl) dX7_keep_87 ⟨Nat.zero_le _, Nat.zero_le _⟩ ?_
      have eo := (Option.some.inj hsem).symm.symm
      refine W.endD hdr ?_
      subst eo
      exact W.iret (v := x2) hx hb hr (fun t ht hW => ⟨⟨_, F2, rfl, ⟨rfl, haF2⟩, ⟨by rw [ht]; exact hP, hD⟩⟩, hS.F ht⟩) hS.2.2 dX7_keep_90
    · unfold sX7_keep_L18 at hst1
      have hP : va_P g.1 vwCl (wM g ad q1.2 F) H := hP
      have hD : va_D Z (wM g ad q1.2 F) := hD
      refine lv_iload_n hx hb dX7_keep_18 rfl (lv_at hl 0 rfl) ?_
      refine lv_sipush (v := 296) hx hb dX7_keep_19 (by decide) ?_
      refine lv_icmp_ge (tgt := 49) hx hb dX7_keep_22 (by decide) (fun c2 => ?_) (fun c2 => ?_)
      · rw [if_pos c2] at hst1
        exact hout1 _ H locs ls () _ (Option.some.inj hst1).symm hdr trivial hP hD hS (lv_sub hl [1, 2] rfl)
      · rw [if_neg c2] at hst1
        refine lv_aload_n hx hb dX7_keep_25 rfl (lv_at hl 1 rfl) ?_
        refine va_get (D := g.1) (ci := 7) (v := .ref (ad 5)) (C := RX7) (T := TX7) (N := 26) hx hb (dr_words hts d) (fun w h => List.mem_cons_of_mem _ (List.mem_append_right _ h)) (hown d) (hK d) hP 0 rfl rfl 6 (by decide) ((dr_words hts d) (.fieldLink RX7 23 "PauseRegionsModel" "kept" "[I") (List.mem_of_getElem? (i := 2) rfl)) (fun _ h9 => h9) rfl dX7_keep_26 ?_
        refine lv_sipush (v := 296) hx hb dX7_keep_29 (by decide) ?_
        refine lv_iload_n hx hb dX7_keep_32 rfl (lv_at hl 2 rfl) ?_
        refine lv_imul hx hb dX7_keep_33 ?_
        refine lv_iload_n hx hb dX7_keep_34 rfl (lv_at hl 0 rfl) ?_
        refine lv_iadd hx hb dX7_keep_35 ?_
        refine lv_aload_n hx hb dX7_keep_36 rfl (lv_at hl 1 rfl) ?_
        refine va_get (D := g.1) (ci := 7) (v := .ref (ad 1)) (C := RX7) (T := TX7) (N := 26) hx hb (dr_words hts d) (fun w h => List.mem_cons_of_mem _ (List.mem_append_right _ h)) (hown d) (hK d) hP 0 rfl rfl 1 (by decide) ((dr_words hts d) (.fieldLink RX7 7 "PauseRegionsModel" "s" "[I") (List.mem_of_getElem? (i := 3) rfl)) (fun _ h9 => h9) rfl dX7_keep_37 ?_
        refine lv_iload_n hx hb dX7_keep_40 rfl (lv_at hl 0 rfl) ?_
        obtain ⟨h1, hst1⟩ := ck_some hst1
        refine va_iald (D := g.1) hx hb (hK d) hP 1 0 rfl rfl h1 dX7_keep_41 ?_
        obtain ⟨h2, hst1⟩ := ck_some hst1
        refine va_iast (D := g.1) hx hb (hK d) hP hD hS 5 0 rfl rfl h2 dX7_keep_42 (fun H locs hP hD hS => ?_)
        obtain ⟨A2, eA2, hst1⟩ := bd_some hst1
        have hP : va_P g.1 vwCl (wM g ad A2 F) H := by rw [eA2]; exact hP
        have hD : va_D Z (wM g ad A2 F) := by rw [eA2]; exact hD
        refine lv_iinc (v := q1.1 + 1) (lv' := [(2, .int (q1.1 + 1)), (0, .ref (ad 0)), (1, .int p0)]) hx hb dX7_keep_43 hl (k := 0) rfl rfl (by decide) rfl (fun ls hl => ?_)
        refine lv_goto (tgt := 18) hx hb dX7_keep_46 (by decide) ?_
        exact hin1 _ H locs ls () _ (Option.some.inj hst1).symm hdr trivial hP hD hS (lv_sub hl [0, 1, 2] rfl)
  · rw [if_pos c1] at hsem
    refine lv_iconst (v := (-1)) hx hb dX7_keep_14 (by decide) ?_
    have eo := (Option.some.inj hsem).symm.symm
    refine W.endD hdr ?_
    subst eo
    exact W.iret (v := (-1)) hx hb hr (fun t ht hW => ⟨⟨_, F, rfl, ⟨rfl, hAL⟩, ⟨by rw [ht]; exact hP, hD⟩⟩, hS.F ht⟩) hS.2.2 dX7_keep_15
def sX7_kindOf (A : IA) (p0 : Int32) : Option (Int32) :=
  (sX7_ofThing A p0 1).bind fun x1 => (sX7_ofRegion A x1 0).bind fun x2 => some x2
abbrev rmX7_kindOf : Room := { frames := 1, cells := 0, slots := 0, locals := 22 }
theorem hdX7_kindOf : yX7_kindOf.cls = RX7 ∧ yX7_kindOf.cls ≠ "java/lang/invoke/MethodHandle" ∧ yX7_kindOf.cls ≠ "java/lang/invoke/VarHandle" ∧ (parseMethodDescriptor yX7_kindOf.desc).map (fun d => d.parameters.length) = some 1 := by decide +kernel
set_option maxHeartbeats 4000000 in
set_option maxRecDepth 100000 in
theorem kX7_kindOf {l : Launch} {g : GG} {H0 : Heap} {ad : Nat → Nat} {A : IA} {F : FA} {p0 : Int32} {b : Int32} (hP : va_P g.1 vwCl (wM g ad A F) H0) (hsem : sX7_kindOf A p0 = some b) : MetP l yX7_kindOf wsX7_kindOf rmX7_kindOf g H0 [.ref (ad 0), .int p0] b := by
  refine Met.ofW (cc := cX7_kindOf) (maxL := 2) (ret := (some .int)) (by decide) rfl ?_
  intro p e s m args below meth c s₁ B hml hv
  obtain ⟨rfl, hH, hKK⟩ := hv
  subst hH
  have hx := B.exec
  have hb := B.bytes
  have hr := B.returns
  have hts := atoms_spec (ws := wsX7_kindOf) B.pre
  have hown : s.vm.findClass RX7 = some m.cls := findClass_of_methodNamed B.named
  have hlocks := B.notSynchronized
  have hK := hKK.1
  have hl := lv_entry ([.ref (ad 0), .int p0]) (n := 2) (Nat.le_of_ble_eq_true rfl)
  rw [lg_entry_eq]
  generalize (lg_sl ([.ref (ad 0), .int p0]) ++ List.replicate (2 - (lg_sl ([.ref (ad 0), .int p0])).length) Slot.unset).toArray = ls at hl ⊢
  have hl : lv_has ls 2 [(0, .ref (ad 0)), (1, .int p0)] := hl
  unfold sX7_kindOf at hsem
  refine lv_aload_n hx hb dX7_kindOf_0 rfl (lv_at hl 0 rfl) ?_
  refine lv_aload_n hx hb dX7_kindOf_1 rfl (lv_at hl 0 rfl) ?_
  refine lv_iload_n hx hb dX7_kindOf_2 rfl (lv_at hl 1 rfl) ?_
  refine lv_iconst (v := 1) hx hb dX7_kindOf_3 (by decide) ?_
  obtain ⟨x1, hc1, hsem⟩ := bn_some hsem
  refine pcV (C := RX7) (As := [.int p0, .int 1]) (rest := [.ref (ad 0)]) ⟨hx, hb, hml, hown, hts⟩ hKK (cwV 2 hts gX7_kindOf_X7_ofThing rfl rfl rfl hdX7_ofThing ⟨Nat.le_of_ble_eq_true rfl, Nat.le_of_ble_eq_true rfl⟩) (kX7_ofThing (l := l) (g := g) hP hc1) (va_recv hK hP (ci := 7) (q0 := 0) rfl rfl) rfl hl.1 rfl (Nat.le_of_ble_eq_true rfl) dX7_kindOf_4 ⟨Nat.zero_le _, Nat.zero_le _⟩ ?_
  refine lv_iconst (v := 0) hx hb dX7_kindOf_7 (by decide) ?_
  obtain ⟨x2, hc2, hsem⟩ := bn_some hsem
  refine pcV (C := RX7) (As := [.int x1, .int 0]) (rest := []) ⟨hx, hb, hml, hown, hts⟩ hKK (cwV 2 hts gX7_kindOf_X7_ofRegion rfl rfl rfl hdX7_ofRegion ⟨Nat.le_of_ble_eq_true rfl, Nat.le_of_ble_eq_true rfl⟩) (kX7_ofRegion (l := l) (g := g) hP hc2) (va_recv hK hP (ci := 7) (q0 := 0) rfl rfl) rfl hl.1 rfl (Nat.le_of_ble_eq_true rfl) dX7_kindOf_8 ⟨Nat.zero_le _, Nat.zero_le _⟩ ?_
  have eo := (Option.some.inj hsem).symm.symm
  exact W.iret (v := x2) hx hb hr (fun t ht hW => ⟨⟨_, (), rfl, eo, ht⟩, (va_S.rf (A := fun _ => False) (H0 := s.heap)).F ht⟩) (fun q hq => absurd hq List.not_mem_nil) dX7_kindOf_11
def sX7_reaches (A : IA) (p0 : Int32) (p1 : Int32) : Option (IA) :=
  if p0 = (-5) then (some A) else (ck p0 32 (if ((A 24) p0.toNatClampNeg) = 0 then (ck p0 32 (bd (wr A 24 p0.toNatClampNeg p1) fun A1 => some A1)) else (some A)))
abbrev rmX7_reaches : Room := { frames := 0, cells := 0, slots := 0, locals := 0 }
theorem hdX7_reaches : yX7_reaches.cls = RX7 ∧ yX7_reaches.cls ≠ "java/lang/invoke/MethodHandle" ∧ yX7_reaches.cls ≠ "java/lang/invoke/VarHandle" ∧ (parseMethodDescriptor yX7_reaches.desc).map (fun d => d.parameters.length) = some 2 := by decide +kernel
set_option maxHeartbeats 4000000 in
set_option maxRecDepth 100000 in
theorem kX7_reaches {l : Launch} {g : GG} {sz : Nat} {ad : Nat → Nat} {A : IA} {F : FA} {p0 p1 : Int32} {b : IA} (hsem : sX7_reaches A p0 p1 = some b) : MetV l yX7_reaches wsX7_reaches rmX7_reaches g [.ref (ad 0), .int p0, .int p1] (wM g ad A F) sz (wM g ad b F) := by
  refine Met.ofW (cc := cX7_reaches) (maxL := 3) (ret := none) (by decide) rfl ?_
  intro p e s m args below meth c s₁ B hml hv
  obtain ⟨rfl, hsz, hP, hD0, hKK⟩ := hv
  subst hsz
  have hx := B.exec
  have hb := B.bytes
  have hr := B.returns
  have hts := atoms_spec (ws := wsX7_reaches) B.pre
  have hown : s.vm.findClass RX7 = some m.cls := findClass_of_methodNamed B.named
  have hlocks := B.notSynchronized
  have hK := hKK.1
  have hD := hD0.self (sz := s.heap.size)
  generalize hZe : va_A (wM g ad A F) s.heap.size = Z at hD ⊢
  have hZ : ∀ q : Nat, s.heap.size ≤ q → Z q := fun q h => by rw [← hZe]; exact Or.inr h
  have hS : va_S Z s.heap s.heap [] := va_S.rf
  have hP : va_P g.1 vwCl (wM g ad A F) s.heap := hP
  have hD : va_D Z (wM g ad A F) := hD
  have hl := lv_entry ([.ref (ad 0), .int p0, .int p1]) (n := 3) (Nat.le_of_ble_eq_true rfl)
  rw [lg_entry_eq]
  generalize (lg_sl ([.ref (ad 0), .int p0, .int p1]) ++ List.replicate (3 - (lg_sl ([.ref (ad 0), .int p0, .int p1])).length) Slot.unset).toArray = ls at hl ⊢
  have hl : lv_has ls 3 [(0, .ref (ad 0)), (1, .int p0), (2, .int p1)] := hl
  unfold sX7_reaches at hsem
  refine lv_iload_n hx hb dX7_reaches_0 rfl (lv_at hl 1 rfl) ?_
  refine lv_bipush (v := (-5)) hx hb dX7_reaches_1 (by decide) ?_
  refine lv_icmp_eq (tgt := 22) hx hb dX7_reaches_3 (by decide) (fun c1 => ?_) (fun c1 => ?_)
  · rw [if_pos c1] at hsem
    have eo := (Option.some.inj hsem).symm.symm
    subst eo
    exact W.vret hx hb hr (fun t ht hW => ⟨⟨(), rfl, trivial, ⟨by rw [ht]; exact hP, hD⟩⟩, hS.F ht⟩) hS.2.2 dX7_reaches_22
  · rw [if_neg c1] at hsem
    refine lv_aload_n hx hb dX7_reaches_6 rfl (lv_at hl 0 rfl) ?_
    refine va_get (D := g.1) (ci := 7) (v := .ref (ad 13)) (C := RX7) (T := TX7) (N := 26) hx hb hts (fun w h => List.mem_cons_of_mem _ (List.mem_append_right _ h)) hown hK hP 0 rfl rfl 24 (by decide) (hts (.fieldLink RX7 48 "PauseRegionsModel" "far" "[I") (List.mem_of_getElem? (i := 1) rfl)) (fun _ h9 => h9) rfl dX7_reaches_7 ?_
    refine lv_iload_n hx hb dX7_reaches_10 rfl (lv_at hl 1 rfl) ?_
    obtain ⟨h1, hsem⟩ := ck_some hsem
    refine va_iald (D := g.1) hx hb hK hP 13 0 rfl rfl h1 dX7_reaches_11 ?_
    refine lv_if_ne (tgt := 22) hx hb dX7_reaches_12 (by decide) (fun c2 => ?_) (fun c2 => ?_)
    · rw [if_neg c2] at hsem
      have eo := (Option.some.inj hsem).symm.symm
      subst eo
      exact W.vret hx hb hr (fun t ht hW => ⟨⟨(), rfl, trivial, ⟨by rw [ht]; exact hP, hD⟩⟩, hS.F ht⟩) hS.2.2 dX7_reaches_22
    · rw [if_pos c2] at hsem
      refine lv_aload_n hx hb dX7_reaches_15 rfl (lv_at hl 0 rfl) ?_
      refine va_get (D := g.1) (ci := 7) (v := .ref (ad 13)) (C := RX7) (T := TX7) (N := 26) hx hb hts (fun w h => List.mem_cons_of_mem _ (List.mem_append_right _ h)) hown hK hP 0 rfl rfl 24 (by decide) (hts (.fieldLink RX7 48 "PauseRegionsModel" "far" "[I") (List.mem_of_getElem? (i := 1) rfl)) (fun _ h9 => h9) rfl dX7_reaches_16 ?_
      refine lv_iload_n hx hb dX7_reaches_19 rfl (lv_at hl 1 rfl) ?_
      refine lv_iload_n hx hb dX7_reaches_20 rfl (lv_at hl 2 rfl) ?_
      obtain ⟨h2, hsem⟩ := ck_some hsem
      refine va_iast (D := g.1) hx hb hK hP hD hS 13 0 rfl rfl h2 dX7_reaches_21 (fun H locs hP hD hS => ?_)
      obtain ⟨A1, eA1, hsem⟩ := bd_some hsem
      have hP : va_P g.1 vwCl (wM g ad A1 F) H := by rw [eA1]; exact hP
      have hD : va_D Z (wM g ad A1 F) := by rw [eA1]; exact hD
      have eo := (Option.some.inj hsem).symm.symm
      subst eo
      exact W.vret hx hb hr (fun t ht hW => ⟨⟨(), rfl, trivial, ⟨by rw [ht]; exact hP, hD⟩⟩, hS.F ht⟩) hS.2.2 dX7_reaches_22
def sX7_laysFar_L2 (q1 : Int32 × IA) : Option ((Int32 × IA) ⊕ (IA)) :=
  if 32 ≤ q1.1 then (some (.inr q1.2)) else (ck q1.1 32 (bd (wr q1.2 24 q1.1.toNatClampNeg 0) fun A1 => some (.inl (q1.1 + 1, A1))))
def sX7_laysFar_L23 (q3 : Int32 × IA) : Option ((Int32 × IA) ⊕ (IA)) :=
  if 6 ≤ q3.1 then (some (.inr q3.2)) else (ck (192 + q3.1) 296 ((sX7_reaches q3.2 ((q3.2 1) (192 + q3.1).toNatClampNeg) 1).bind fun z1 => some (.inl (q3.1 + 1, z1))))
def sX7_laysFar_L60 (q5 : Int32 × IA) (q6 : Int32 × IA) : Option ((Int32 × IA) ⊕ (IA)) :=
  if 32 ≤ q6.1 then (some (.inr q6.2)) else (ck q6.1 32 (if ((q6.2 24) q6.1.toNatClampNeg) = q5.1 then ((sX7_ofThing q6.2 q6.1 3).bind fun x1 => (sX7_reaches q6.2 x1 (q5.1 + 1)).bind fun z2 => (sX7_ofThing z2 q6.1 4).bind fun x2 => (sX7_reaches z2 x2 (q5.1 + 1)).bind fun z3 => some (.inl (q6.1 + 1, z3))) else (some (.inl (q6.1 + 1, q6.2)))))
def sX7_laysFar_L52 (q5 : Int32 × IA) : Option ((Int32 × IA) ⊕ (IA)) :=
  if 32 < q5.1 then (some (.inr q5.2)) else ((loopN (sX7_laysFar_L60 q5) 2000 (0, q5.2)).bind fun q7 => some (.inl (q5.1 + 1, q7)))
def sX7_laysFar (A : IA) : Option (IA) :=
  (loopN (sX7_laysFar_L2) 2000 (0, A)).bind fun q2 => (loopN (sX7_laysFar_L23) 2000 (0, q2)).bind fun q4 => (loopN (sX7_laysFar_L52) 2000 (1, q4)).bind fun q8 => some q8
abbrev rmX7_laysFar : Room := { frames := 1, cells := 0, slots := 0, locals := 22 }
theorem hdX7_laysFar : yX7_laysFar.cls = RX7 ∧ yX7_laysFar.cls ≠ "java/lang/invoke/MethodHandle" ∧ yX7_laysFar.cls ≠ "java/lang/invoke/VarHandle" ∧ (parseMethodDescriptor yX7_laysFar.desc).map (fun d => d.parameters.length) = some 0 := by decide +kernel
set_option maxHeartbeats 4000000 in
set_option maxRecDepth 100000 in
theorem kX7_laysFar {l : Launch} {g : GG} {sz : Nat} {ad : Nat → Nat} {A : IA} {F : FA} {b : IA} (hsem : sX7_laysFar A = some b) : MetV l yX7_laysFar wsX7_laysFar rmX7_laysFar g [.ref (ad 0)] (wM g ad A F) sz (wM g ad b F) := by
  refine Met.ofW (cc := cX7_laysFar) (maxL := 3) (ret := none) (by decide) rfl ?_
  intro p e s m args below meth c s₁ B hml hv
  obtain ⟨rfl, hsz, hP, hD0, hKK⟩ := hv
  subst hsz
  have hx := B.exec
  have hb := B.bytes
  have hr := B.returns
  have hts := atoms_spec (ws := wsX7_laysFar) B.pre
  have hown : s.vm.findClass RX7 = some m.cls := findClass_of_methodNamed B.named
  have hlocks := B.notSynchronized
  have hK := hKK.1
  have hD := hD0.self (sz := s.heap.size)
  generalize hZe : va_A (wM g ad A F) s.heap.size = Z at hD ⊢
  have hZ : ∀ q : Nat, s.heap.size ≤ q → Z q := fun q h => by rw [← hZe]; exact Or.inr h
  have hS : va_S Z s.heap s.heap [] := va_S.rf
  have hP : va_P g.1 vwCl (wM g ad A F) s.heap := hP
  have hD : va_D Z (wM g ad A F) := hD
  have hl := lv_entry ([.ref (ad 0)]) (n := 3) (Nat.le_of_ble_eq_true rfl)
  rw [lg_entry_eq]
  generalize (lg_sl ([.ref (ad 0)]) ++ List.replicate (3 - (lg_sl ([.ref (ad 0)])).length) Slot.unset).toArray = ls at hl ⊢
  have hl : lv_has ls 3 [(0, .ref (ad 0))] := hl
  unfold sX7_laysFar at hsem
  refine lv_iconst (v := 0) hx hb dX7_laysFar_0 (by decide) ?_
  refine lv_istore_n (lv' := [(1, .int 0), (0, .ref (ad 0))]) hx hb dX7_laysFar_1 rfl hl (by decide) rfl (fun ls hl => ?_)
  obtain ⟨q2, hc1, hsem⟩ := bn_some hsem
  refine loopM (g := g) hc1 (fun (q1 : Int32 × IA) => [(1, .int q1.1), (0, .ref (ad 0))]) (fun (q1 : IA) => [(0, .ref (ad 0))]) (exit := 21) (fun (q1 : Int32 × IA) => wM g ad q1.2 F) (fun (q1 : IA) => wM g ad q1 F) hP hD hS (lv_sub hl [0, 1] rfl) (fun H locs ls hP hD hS hl => ?_) (fun q1 r hst1 hin1 hout1 H locs ls hP hD hS hl => ?_)
  · have hP : va_P g.1 vwCl (wM g ad q2 F) H := hP
    have hD : va_D Z (wM g ad q2 F) := hD
    refine lv_iconst (v := 0) hx hb dX7_laysFar_21 (by decide) ?_
    refine lv_istore_n (lv' := [(1, .int 0), (0, .ref (ad 0))]) hx hb dX7_laysFar_22 rfl hl (by decide) rfl (fun ls hl => ?_)
    obtain ⟨q4, hc3, hsem⟩ := bn_some hsem
    refine loopM (g := g) hc3 (fun (q3 : Int32 × IA) => [(1, .int q3.1), (0, .ref (ad 0))]) (fun (q3 : IA) => [(0, .ref (ad 0))]) (exit := 50) (fun (q3 : Int32 × IA) => wM g ad q3.2 F) (fun (q3 : IA) => wM g ad q3 F) hP hD hS (lv_sub hl [0, 1] rfl) (fun H locs ls hP hD hS hl => ?_) (fun q3 r hst1 hin1 hout1 H locs ls hP hD hS hl => ?_)
    · have hP : va_P g.1 vwCl (wM g ad q4 F) H := hP
      have hD : va_D Z (wM g ad q4 F) := hD
      refine lv_iconst (v := 1) hx hb dX7_laysFar_50 (by decide) ?_
      refine lv_istore_n (lv' := [(1, .int 1), (0, .ref (ad 0))]) hx hb dX7_laysFar_51 rfl hl (by decide) rfl (fun ls hl => ?_)
      obtain ⟨q8, hc9, hsem⟩ := bn_some hsem
      refine loopM (g := g) hc9 (fun (q5 : Int32 × IA) => [(1, .int q5.1), (0, .ref (ad 0))]) (fun (q5 : IA) => []) (exit := 114) (fun (q5 : Int32 × IA) => wM g ad q5.2 F) (fun (q5 : IA) => wM g ad q5 F) hP hD hS (lv_sub hl [0, 1] rfl) (fun H locs ls hP hD hS hl => ?_) (fun q5 r hst1 hin1 hout1 H locs ls hP hD hS hl => ?_)
      · have hP : va_P g.1 vwCl (wM g ad q8 F) H := hP
        have hD : va_D Z (wM g ad q8 F) := hD
        have eo := (Option.some.inj hsem).symm.symm
        subst eo
        exact W.vret hx hb hr (fun t ht hW => ⟨⟨(), rfl, trivial, ⟨by rw [ht]; exact hP, hD⟩⟩, hS.F ht⟩) hS.2.2 dX7_laysFar_114
      · unfold sX7_laysFar_L52 at hst1
        have hP : va_P g.1 vwCl (wM g ad q5.2 F) H := hP
        have hD : va_D Z (wM g ad q5.2 F) := hD
        refine lv_iload_n hx hb dX7_laysFar_52 rfl (lv_at hl 0 rfl) ?_
        refine lv_bipush (v := 32) hx hb dX7_laysFar_53 (by decide) ?_
        refine lv_icmp_gt (tgt := 114) hx hb dX7_laysFar_55 (by decide) (fun c3 => ?_) (fun c3 => ?_)
        · rw [if_pos c3] at hst1
          exact hout1 H locs ls _ (Option.some.inj hst1).symm hP hD hS (lv_sub hl [] rfl)
        · rw [if_neg c3] at hst1
          refine lv_iconst (v := 0) hx hb dX7_laysFar_58 (by decide) ?_
          refine lv_istore_n (lv' := [(2, .int 0), (1, .int q5.1), (0, .ref (ad 0))]) hx hb dX7_laysFar_59 rfl hl (by decide) rfl (fun ls hl => ?_)
          obtain ⟨q7, hc8, hst1⟩ := bn_some hst1
          refine loopM (g := g) hc8 (fun (q6 : Int32 × IA) => [(2, .int q6.1), (1, .int q5.1), (0, .ref (ad 0))]) (fun (q6 : IA) => [(1, .int q5.1), (0, .ref (ad 0))]) (exit := 108) (fun (q6 : Int32 × IA) => wM g ad q6.2 F) (fun (q6 : IA) => wM g ad q6 F) hP hD hS (lv_sub hl [0, 1, 2] rfl) (fun H locs ls hP hD hS hl => ?_) (fun q6 r hst2 hin2 hout2 H locs ls hP hD hS hl => ?_)
          · have hP : va_P g.1 vwCl (wM g ad q7 F) H := hP
            have hD : va_D Z (wM g ad q7 F) := hD
            refine lv_iinc (v := q5.1 + 1) (lv' := [(1, .int (q5.1 + 1)), (0, .ref (ad 0))]) hx hb dX7_laysFar_108 hl (k := 0) rfl rfl (by decide) rfl (fun ls hl => ?_)
            refine lv_goto (tgt := 52) hx hb dX7_laysFar_111 (by decide) ?_
            exact hin1 H locs ls _ (Option.some.inj hst1).symm hP hD hS (lv_sub hl [0, 1] rfl)
          · unfold sX7_laysFar_L60 at hst2
            have hP : va_P g.1 vwCl (wM g ad q6.2 F) H := hP
            have hD : va_D Z (wM g ad q6.2 F) := hD
            refine lv_iload_n hx hb dX7_laysFar_60 rfl (lv_at hl 0 rfl) ?_
            refine lv_bipush (v := 32) hx hb dX7_laysFar_61 (by decide) ?_
            refine lv_icmp_ge (tgt := 108) hx hb dX7_laysFar_63 (by decide) (fun c4 => ?_) (fun c4 => ?_)
            · rw [if_pos c4] at hst2
              exact hout2 H locs ls _ (Option.some.inj hst2).symm hP hD hS (lv_sub hl [1, 2] rfl)
            · rw [if_neg c4] at hst2
              refine lv_aload_n hx hb dX7_laysFar_66 rfl (lv_at hl 2 rfl) ?_
              refine va_get (D := g.1) (ci := 7) (v := .ref (ad 13)) (C := RX7) (T := TX7) (N := 26) hx hb hts (fun w h => List.mem_cons_of_mem _ (List.mem_append_right _ h)) hown hK hP 0 rfl rfl 24 (by decide) (hts (.fieldLink RX7 48 "PauseRegionsModel" "far" "[I") (List.mem_of_getElem? (i := 1) rfl)) (fun _ h9 => h9) rfl dX7_laysFar_67 ?_
              refine lv_iload_n hx hb dX7_laysFar_70 rfl (lv_at hl 0 rfl) ?_
              obtain ⟨h3, hst2⟩ := ck_some hst2
              refine va_iald (D := g.1) hx hb hK hP 13 0 rfl rfl h3 dX7_laysFar_71 ?_
              refine lv_iload_n hx hb dX7_laysFar_72 rfl (lv_at hl 1 rfl) ?_
              refine lv_icmp_ne (tgt := 102) hx hb dX7_laysFar_73 (by decide) (fun c5 => ?_) (fun c5 => ?_)
              · rw [if_neg c5] at hst2
                refine lv_iinc (v := q6.1 + 1) (lv' := [(2, .int (q6.1 + 1)), (1, .int q5.1), (0, .ref (ad 0))]) hx hb dX7_laysFar_102 hl (k := 0) rfl rfl (by decide) rfl (fun ls hl => ?_)
                refine lv_goto (tgt := 60) hx hb dX7_laysFar_105 (by decide) ?_
                exact hin2 H locs ls _ (Option.some.inj hst2).symm hP hD hS (lv_sub hl [0, 1, 2] rfl)
              · rw [if_pos c5] at hst2
                refine lv_aload_n hx hb dX7_laysFar_76 rfl (lv_at hl 2 rfl) ?_
                refine lv_aload_n hx hb dX7_laysFar_77 rfl (lv_at hl 2 rfl) ?_
                refine lv_iload_n hx hb dX7_laysFar_78 rfl (lv_at hl 0 rfl) ?_
                refine lv_iconst (v := 3) hx hb dX7_laysFar_79 (by decide) ?_
                obtain ⟨x1, hc4, hst2⟩ := bn_some hst2
                refine pcV (C := RX7) (As := [.int q6.1, .int 3]) (rest := [.ref (ad 0)]) ⟨hx, hb, hml, hown, hts⟩ hKK (cwV 2 hts gX7_laysFar_X7_ofThing rfl rfl rfl hdX7_ofThing ⟨Nat.le_of_ble_eq_true rfl, Nat.le_of_ble_eq_true rfl⟩) (kX7_ofThing (l := l) (g := g) hP hc4) (va_recv hK hP (ci := 7) (q0 := 0) rfl rfl) rfl hl.1 rfl (Nat.le_of_ble_eq_true rfl) dX7_laysFar_80 ⟨Nat.zero_le _, Nat.zero_le _⟩ ?_
                refine lv_iload_n hx hb dX7_laysFar_83 rfl (lv_at hl 1 rfl) ?_
                refine lv_iconst (v := 1) hx hb dX7_laysFar_84 (by decide) ?_
                refine lv_iadd hx hb dX7_laysFar_85 ?_
                obtain ⟨z2, hc5, hst2⟩ := bn_some hst2
                refine mcV (C := RX7) (As := [.int x1, .int (q5.1 + 1)]) (rest := []) ⟨hx, hb, hml, hown, hts⟩ hKK hP hD hS hZ (cwV 2 hts gX7_laysFar_X7_reaches rfl rfl rfl hdX7_reaches ⟨Nat.le_of_ble_eq_true rfl, Nat.le_of_ble_eq_true rfl⟩) (kX7_reaches (l := l) (g := g) (ad := ad) (A := q6.2) (F := F) hc5) (va_recv hK hP (ci := 7) (q0 := 0) rfl rfl) rfl hl.1 rfl (Nat.le_of_ble_eq_true rfl) dX7_laysFar_86 ⟨Nat.zero_le _, Nat.zero_le _⟩ (fun H locs hP hD hS => ?_)
                have hP : va_P g.1 vwCl (wM g ad z2 F) H := hP
                have hD : va_D Z (wM g ad z2 F) := hD
                refine lv_aload_n hx hb dX7_laysFar_89 rfl (lv_at hl 2 rfl) ?_
                refine lv_aload_n hx hb dX7_laysFar_90 rfl (lv_at hl 2 rfl) ?_
                refine lv_iload_n hx hb dX7_laysFar_91 rfl (lv_at hl 0 rfl) ?_
                refine lv_iconst (v := 4) hx hb dX7_laysFar_92 (by decide) ?_
                obtain ⟨x2, hc6, hst2⟩ := bn_some hst2
                refine pcV (C := RX7) (As := [.int q6.1, .int 4]) (rest := [.ref (ad 0)]) ⟨hx, hb, hml, hown, hts⟩ hKK (cwV 2 hts gX7_laysFar_X7_ofThing rfl rfl rfl hdX7_ofThing ⟨Nat.le_of_ble_eq_true rfl, Nat.le_of_ble_eq_true rfl⟩) (kX7_ofThing (l := l) (g := g) hP hc6) (va_recv hK hP (ci := 7) (q0 := 0) rfl rfl) rfl hl.1 rfl (Nat.le_of_ble_eq_true rfl) dX7_laysFar_93 ⟨Nat.zero_le _, Nat.zero_le _⟩ ?_
                refine lv_iload_n hx hb dX7_laysFar_96 rfl (lv_at hl 1 rfl) ?_
                refine lv_iconst (v := 1) hx hb dX7_laysFar_97 (by decide) ?_
                refine lv_iadd hx hb dX7_laysFar_98 ?_
                obtain ⟨z3, hc7, hst2⟩ := bn_some hst2
                refine mcV (C := RX7) (As := [.int x2, .int (q5.1 + 1)]) (rest := []) ⟨hx, hb, hml, hown, hts⟩ hKK hP hD hS hZ (cwV 2 hts gX7_laysFar_X7_reaches rfl rfl rfl hdX7_reaches ⟨Nat.le_of_ble_eq_true rfl, Nat.le_of_ble_eq_true rfl⟩) (kX7_reaches (l := l) (g := g) (ad := ad) (A := z2) (F := F) hc7) (va_recv hK hP (ci := 7) (q0 := 0) rfl rfl) rfl hl.1 rfl (Nat.le_of_ble_eq_true rfl) dX7_laysFar_99 ⟨Nat.zero_le _, Nat.zero_le _⟩ (fun H locs hP hD hS => ?_)
                have hP : va_P g.1 vwCl (wM g ad z3 F) H := hP
                have hD : va_D Z (wM g ad z3 F) := hD
                refine lv_iinc (v := q6.1 + 1) (lv' := [(2, .int (q6.1 + 1)), (1, .int q5.1), (0, .ref (ad 0))]) hx hb dX7_laysFar_102 hl (k := 0) rfl rfl (by decide) rfl (fun ls hl => ?_)
                refine lv_goto (tgt := 60) hx hb dX7_laysFar_105 (by decide) ?_
                exact hin2 H locs ls _ (Option.some.inj hst2).symm hP hD hS (lv_sub hl [0, 1, 2] rfl)
    · unfold sX7_laysFar_L23 at hst1
      have hP : va_P g.1 vwCl (wM g ad q3.2 F) H := hP
      have hD : va_D Z (wM g ad q3.2 F) := hD
      refine lv_iload_n hx hb dX7_laysFar_23 rfl (lv_at hl 0 rfl) ?_
      refine lv_bipush (v := 6) hx hb dX7_laysFar_24 (by decide) ?_
      refine lv_icmp_ge (tgt := 50) hx hb dX7_laysFar_26 (by decide) (fun c2 => ?_) (fun c2 => ?_)
      · rw [if_pos c2] at hst1
        exact hout1 H locs ls _ (Option.some.inj hst1).symm hP hD hS (lv_sub hl [1] rfl)
      · rw [if_neg c2] at hst1
        refine lv_aload_n hx hb dX7_laysFar_29 rfl (lv_at hl 1 rfl) ?_
        refine lv_aload_n hx hb dX7_laysFar_30 rfl (lv_at hl 1 rfl) ?_
        refine va_get (D := g.1) (ci := 7) (v := .ref (ad 1)) (C := RX7) (T := TX7) (N := 26) hx hb hts (fun w h => List.mem_cons_of_mem _ (List.mem_append_right _ h)) hown hK hP 0 rfl rfl 1 (by decide) (hts (.fieldLink RX7 7 "PauseRegionsModel" "s" "[I") (List.mem_of_getElem? (i := 2) rfl)) (fun _ h9 => h9) rfl dX7_laysFar_31 ?_
        refine lv_sipush (v := 192) hx hb dX7_laysFar_34 (by decide) ?_
        refine lv_iload_n hx hb dX7_laysFar_37 rfl (lv_at hl 0 rfl) ?_
        refine lv_iadd hx hb dX7_laysFar_38 ?_
        obtain ⟨h2, hst1⟩ := ck_some hst1
        refine va_iald (D := g.1) hx hb hK hP 1 0 rfl rfl h2 dX7_laysFar_39 ?_
        refine lv_iconst (v := 1) hx hb dX7_laysFar_40 (by decide) ?_
        obtain ⟨z1, hc2, hst1⟩ := bn_some hst1
        refine mcV (C := RX7) (As := [.int ((q3.2 1) (192 + q3.1).toNatClampNeg), .int 1]) (rest := []) ⟨hx, hb, hml, hown, hts⟩ hKK hP hD hS hZ (cwV 2 hts gX7_laysFar_X7_reaches rfl rfl rfl hdX7_reaches ⟨Nat.le_of_ble_eq_true rfl, Nat.le_of_ble_eq_true rfl⟩) (kX7_reaches (l := l) (g := g) (ad := ad) (A := q3.2) (F := F) hc2) (va_recv hK hP (ci := 7) (q0 := 0) rfl rfl) rfl hl.1 rfl (Nat.le_of_ble_eq_true rfl) dX7_laysFar_41 ⟨Nat.zero_le _, Nat.zero_le _⟩ (fun H locs hP hD hS => ?_)
        have hP : va_P g.1 vwCl (wM g ad z1 F) H := hP
        have hD : va_D Z (wM g ad z1 F) := hD
        refine lv_iinc (v := q3.1 + 1) (lv' := [(1, .int (q3.1 + 1)), (0, .ref (ad 0))]) hx hb dX7_laysFar_44 hl (k := 0) rfl rfl (by decide) rfl (fun ls hl => ?_)
        refine lv_goto (tgt := 23) hx hb dX7_laysFar_47 (by decide) ?_
        exact hin1 H locs ls _ (Option.some.inj hst1).symm hP hD hS (lv_sub hl [0, 1] rfl)
  · unfold sX7_laysFar_L2 at hst1
    have hP : va_P g.1 vwCl (wM g ad q1.2 F) H := hP
    have hD : va_D Z (wM g ad q1.2 F) := hD
    refine lv_iload_n hx hb dX7_laysFar_2 rfl (lv_at hl 0 rfl) ?_
    refine lv_bipush (v := 32) hx hb dX7_laysFar_3 (by decide) ?_
    refine lv_icmp_ge (tgt := 21) hx hb dX7_laysFar_5 (by decide) (fun c1 => ?_) (fun c1 => ?_)
    · rw [if_pos c1] at hst1
      exact hout1 H locs ls _ (Option.some.inj hst1).symm hP hD hS (lv_sub hl [1] rfl)
    · rw [if_neg c1] at hst1
      refine lv_aload_n hx hb dX7_laysFar_8 rfl (lv_at hl 1 rfl) ?_
      refine va_get (D := g.1) (ci := 7) (v := .ref (ad 13)) (C := RX7) (T := TX7) (N := 26) hx hb hts (fun w h => List.mem_cons_of_mem _ (List.mem_append_right _ h)) hown hK hP 0 rfl rfl 24 (by decide) (hts (.fieldLink RX7 48 "PauseRegionsModel" "far" "[I") (List.mem_of_getElem? (i := 1) rfl)) (fun _ h9 => h9) rfl dX7_laysFar_9 ?_
      refine lv_iload_n hx hb dX7_laysFar_12 rfl (lv_at hl 0 rfl) ?_
      refine lv_iconst (v := 0) hx hb dX7_laysFar_13 (by decide) ?_
      obtain ⟨h1, hst1⟩ := ck_some hst1
      refine va_iast (D := g.1) hx hb hK hP hD hS 13 0 rfl rfl h1 dX7_laysFar_14 (fun H locs hP hD hS => ?_)
      obtain ⟨A1, eA1, hst1⟩ := bd_some hst1
      have hP : va_P g.1 vwCl (wM g ad A1 F) H := by rw [eA1]; exact hP
      have hD : va_D Z (wM g ad A1 F) := by rw [eA1]; exact hD
      refine lv_iinc (v := q1.1 + 1) (lv' := [(1, .int (q1.1 + 1)), (0, .ref (ad 0))]) hx hb dX7_laysFar_15 hl (k := 0) rfl rfl (by decide) rfl (fun ls hl => ?_)
      refine lv_goto (tgt := 2) hx hb dX7_laysFar_18 (by decide) ?_
      exact hin1 H locs ls _ (Option.some.inj hst1).symm hP hD hS (lv_sub hl [0, 1] rfl)
