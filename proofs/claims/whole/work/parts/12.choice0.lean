def sX0_bestOld_L8 (rg : Int32) (Ah : IA) (q1 : Int32 × Int32 × Int32) : Option ((Int32 × Int32 × Int32) ⊕ (Int32)) :=
  if 10 ≤ q1.2.2 then (some (.inr q1.1)) else (ck q1.2.2 10 (if ((Ah 0) q1.2.2.toNatClampNeg) = 2 then (ck q1.2.2 10 (if ((Ah 2) q1.2.2.toNatClampNeg) = (-9) then (some (.inl (q1.1, q1.2.1, q1.2.2 + 1))) else ((sX6_hasBit rg q1.2.2).bind fun x1 => if x1 = 0 then (ck q1.2.2 10 (ck q1.2.2 10 (bd (((Ah 1) q1.2.2.toNatClampNeg) - ((Ah 2) q1.2.2.toNatClampNeg)) fun x2 => if x2 ≤ q1.2.1 then (some (.inl (q1.1, q1.2.1, q1.2.2 + 1))) else (some (.inl (q1.2.2, x2, q1.2.2 + 1)))))) else (some (.inl (q1.1, q1.2.1, q1.2.2 + 1)))))) else (some (.inl (q1.1, q1.2.1, q1.2.2 + 1)))))
def sX0_bestOld (rg : Int32) (yc : Int32) (Ah : IA) : Option (Int32) :=
  (loopN (sX0_bestOld_L8 rg Ah) 2000 (((-9), 1, 0))).bind fun q2 => some q2
abbrev rmX0_bestOld : Room := { frames := 1, cells := 0, slots := 0, locals := 21 }
theorem hdX0_bestOld : yX0_bestOld.cls = RX0 ∧ yX0_bestOld.cls ≠ "java/lang/invoke/MethodHandle" ∧ yX0_bestOld.cls ≠ "java/lang/invoke/VarHandle" ∧ (parseMethodDescriptor yX0_bestOld.desc).map (fun d => d.parameters.length) = some 1 := by decide +kernel
set_option maxHeartbeats 4000000 in
set_option maxRecDepth 100000 in
theorem kX0_bestOld {l : Launch} {g : GG} {H0 : Heap} {a0 : Nat} {rg : Int32} {yc : Int32} {fc : UInt32} {adh : Nat → Nat} {Ah : IA} {Fh : FA} {b : Int32} (hP : va_P g.1 vwCl ((wC g a0 rg yc fc) ++ (wH g adh Ah Fh)) H0) (hsem : sX0_bestOld rg yc Ah = some b) : MetP l yX0_bestOld wsX0_bestOld rmX0_bestOld g H0 [.ref a0, .ref (adh 0)] b := by
  refine Met.ofW (cc := cX0_bestOld) (maxL := 6) (ret := (some .int)) (by decide) rfl ?_
  intro p e s m args below meth c s₁ B hml hv
  obtain ⟨rfl, hH, hKK⟩ := hv
  subst hH
  have hx := B.exec
  have hb := B.bytes
  have hr := B.returns
  have hts := atoms_spec (ws := wsX0_bestOld) B.pre
  have hown : s.vm.findClass RX0 = some m.cls := findClass_of_methodNamed B.named
  have hlocks := B.notSynchronized
  have hK := hKK.1
  have hl := lv_entry ([.ref a0, .ref (adh 0)]) (n := 6) (Nat.le_of_ble_eq_true rfl)
  rw [lg_entry_eq]
  generalize (lg_sl ([.ref a0, .ref (adh 0)]) ++ List.replicate (6 - (lg_sl ([.ref a0, .ref (adh 0)])).length) Slot.unset).toArray = ls at hl ⊢
  have hl : lv_has ls 6 [(0, .ref a0), (1, .ref (adh 0))] := hl
  unfold sX0_bestOld at hsem
  refine lv_bipush (v := (-9)) hx hb dX0_bestOld_0 (by decide) ?_
  refine lv_istore_n (lv' := [(2, .int (-9)), (0, .ref a0), (1, .ref (adh 0))]) hx hb dX0_bestOld_2 rfl hl (by decide) rfl (fun ls hl => ?_)
  refine lv_iconst (v := 1) hx hb dX0_bestOld_3 (by decide) ?_
  refine lv_istore_n (lv' := [(3, .int 1), (2, .int (-9)), (0, .ref a0), (1, .ref (adh 0))]) hx hb dX0_bestOld_4 rfl hl (by decide) rfl (fun ls hl => ?_)
  refine lv_iconst (v := 0) hx hb dX0_bestOld_5 (by decide) ?_
  refine lv_istore (lv' := [(4, .int 0), (3, .int 1), (2, .int (-9)), (0, .ref a0), (1, .ref (adh 0))]) hx hb dX0_bestOld_6 hl (by decide) rfl (fun ls hl => ?_)
  obtain ⟨q2, hc2, hsem⟩ := bn_some hsem
  refine loopP hc2 (fun (q1 : Int32 × Int32 × Int32) => [(4, .int q1.2.2), (3, .int q1.2.1), (2, .int q1.1), (0, .ref a0), (1, .ref (adh 0))]) (fun (q1 : Int32) => [(2, .int q1)]) (exit := 85) (lv_sub hl [0, 1, 2, 3, 4] rfl) (fun ls hl => ?_) (fun q1 r hst1 hin1 hout1 ls hl => ?_)
  · skip
    refine lv_iload_n hx hb dX0_bestOld_85 rfl (lv_at hl 0 rfl) ?_
    have eo := (Option.some.inj hsem).symm.symm
    exact W.iret (v := q2) hx hb hr (fun t ht hW => ⟨⟨_, (), rfl, eo, ht⟩, (va_S.rf (A := fun _ => False) (H0 := s.heap)).F ht⟩) (fun q hq => absurd hq List.not_mem_nil) dX0_bestOld_86
  · unfold sX0_bestOld_L8 at hst1
    refine lv_iload hx hb dX0_bestOld_8 (lv_at hl 0 rfl) ?_
    refine lv_bipush (v := 10) hx hb dX0_bestOld_10 (by decide) ?_
    refine lv_icmp_ge (tgt := 85) hx hb dX0_bestOld_12 (by decide) (fun c1 => ?_) (fun c1 => ?_)
    · rw [if_pos c1] at hst1
      exact hout1 ls _ (Option.some.inj hst1).symm (lv_sub hl [2] rfl)
    · rw [if_neg c1] at hst1
      refine lv_aload_n hx hb dX0_bestOld_15 rfl (lv_at hl 4 rfl) ?_
      refine va_get (D := g.1) (ci := 1) (v := .ref (adh 1)) (C := RX1) (T := TX1) (N := 18) hx hb hts (fun w h => List.mem_cons_of_mem _ (List.mem_append_left _ (List.mem_append_right _ h))) hown hK hP 1 rfl rfl 0 (by decide) (hts (.fieldLink RX0 18 "PauseRegions$Heap" "kind" "[I") (List.mem_of_getElem? (i := 1) rfl)) (fun _ h9 => h9) rfl dX0_bestOld_16 ?_
      refine lv_iload hx hb dX0_bestOld_19 (lv_at hl 0 rfl) ?_
      obtain ⟨h1, hst1⟩ := ck_some hst1
      refine va_iald (D := g.1) hx hb hK hP 2 0 rfl rfl h1 dX0_bestOld_21 ?_
      refine lv_iconst (v := 2) hx hb dX0_bestOld_22 (by decide) ?_
      refine lv_icmp_ne (tgt := 79) hx hb dX0_bestOld_23 (by decide) (fun c2 => ?_) (fun c2 => ?_)
      · rw [if_neg c2] at hst1
        refine lv_iinc (v := q1.2.2 + 1) (lv' := [(4, .int (q1.2.2 + 1)), (3, .int q1.2.1), (2, .int q1.1), (0, .ref a0), (1, .ref (adh 0))]) hx hb dX0_bestOld_79 hl (k := 0) rfl rfl (by decide) rfl (fun ls hl => ?_)
        refine lv_goto (tgt := 8) hx hb dX0_bestOld_82 (by decide) ?_
        exact hin1 ls _ (Option.some.inj hst1).symm (lv_sub hl [0, 1, 2, 3, 4] rfl)
      · rw [if_pos c2] at hst1
        refine lv_aload_n hx hb dX0_bestOld_26 rfl (lv_at hl 4 rfl) ?_
        refine va_get (D := g.1) (ci := 1) (v := .ref (adh 3)) (C := RX1) (T := TX1) (N := 18) hx hb hts (fun w h => List.mem_cons_of_mem _ (List.mem_append_left _ (List.mem_append_right _ h))) hown hK hP 1 rfl rfl 2 (by decide) (hts (.fieldLink RX0 46 "PauseRegions$Heap" "live" "[I") (List.mem_of_getElem? (i := 2) rfl)) (fun _ h9 => h9) rfl dX0_bestOld_27 ?_
        refine lv_iload hx hb dX0_bestOld_30 (lv_at hl 0 rfl) ?_
        obtain ⟨h2, hst1⟩ := ck_some hst1
        refine va_iald (D := g.1) hx hb hK hP 4 0 rfl rfl h2 dX0_bestOld_32 ?_
        refine lv_bipush (v := (-9)) hx hb dX0_bestOld_33 (by decide) ?_
        refine lv_icmp_eq (tgt := 79) hx hb dX0_bestOld_35 (by decide) (fun c3 => ?_) (fun c3 => ?_)
        · rw [if_pos c3] at hst1
          refine lv_iinc (v := q1.2.2 + 1) (lv' := [(4, .int (q1.2.2 + 1)), (3, .int q1.2.1), (2, .int q1.1), (0, .ref a0), (1, .ref (adh 0))]) hx hb dX0_bestOld_79 hl (k := 0) rfl rfl (by decide) rfl (fun ls hl => ?_)
          refine lv_goto (tgt := 8) hx hb dX0_bestOld_82 (by decide) ?_
          exact hin1 ls _ (Option.some.inj hst1).symm (lv_sub hl [0, 1, 2, 3, 4] rfl)
        · rw [if_neg c3] at hst1
          refine lv_aload_n hx hb dX0_bestOld_38 rfl (lv_at hl 3 rfl) ?_
          refine va_get (D := g.1) (ci := 0) (v := .int rg) (C := RX0) (T := TX0) (N := 3) hx hb hts (fun w h => List.mem_cons_of_mem _ (List.mem_append_right _ h)) hown hK hP 0 rfl rfl 0 (by decide) (hts (.fieldLink RX0 9 "PauseRegions$Choice" "regions" "I") (List.mem_of_getElem? (i := 3) rfl)) (fun _ h9 => h9) rfl dX0_bestOld_39 ?_
          refine lv_iload hx hb dX0_bestOld_42 (lv_at hl 0 rfl) ?_
          obtain ⟨x1, hc1, hst1⟩ := bn_some hst1
          refine pcN (As := [.int rg, .int q1.2.2]) (rest := []) ⟨hx, hb, hml, hown, hts⟩ hKK ⟨va_cnB 2 hts gX0_bestOld_X6_hasBit_n49 rfl rfl rfl (hKK.2 3 _ rfl) (hts (.initialized RX6) (List.mem_of_getElem? (i := 6) rfl)) hdX6_hasBit ⟨Nat.le_of_ble_eq_true rfl, Nat.le_of_ble_eq_true rfl⟩, (hts (.static yX6_hasBit) (List.mem_of_getElem? (i := 5) rfl)), trivial⟩ (kX6_hasBit (l := l) (g := g) hc1) rfl hl.1 rfl (Nat.le_of_ble_eq_true rfl) dX0_bestOld_44 ⟨Nat.zero_le _, Nat.zero_le _⟩ ?_
          refine lv_if_ne (tgt := 79) hx hb dX0_bestOld_47 (by decide) (fun c4 => ?_) (fun c4 => ?_)
          · rw [if_neg c4] at hst1
            refine lv_iinc (v := q1.2.2 + 1) (lv' := [(4, .int (q1.2.2 + 1)), (3, .int q1.2.1), (2, .int q1.1), (0, .ref a0), (1, .ref (adh 0))]) hx hb dX0_bestOld_79 hl (k := 0) rfl rfl (by decide) rfl (fun ls hl => ?_)
            refine lv_goto (tgt := 8) hx hb dX0_bestOld_82 (by decide) ?_
            exact hin1 ls _ (Option.some.inj hst1).symm (lv_sub hl [0, 1, 2, 3, 4] rfl)
          · rw [if_pos c4] at hst1
            refine lv_aload_n hx hb dX0_bestOld_50 rfl (lv_at hl 4 rfl) ?_
            refine va_get (D := g.1) (ci := 1) (v := .ref (adh 2)) (C := RX1) (T := TX1) (N := 18) hx hb hts (fun w h => List.mem_cons_of_mem _ (List.mem_append_left _ (List.mem_append_right _ h))) hown hK hP 1 rfl rfl 1 (by decide) (hts (.fieldLink RX0 24 "PauseRegions$Heap" "top" "[I") (List.mem_of_getElem? (i := 4) rfl)) (fun _ h9 => h9) rfl dX0_bestOld_51 ?_
            refine lv_iload hx hb dX0_bestOld_54 (lv_at hl 0 rfl) ?_
            obtain ⟨h3, hst1⟩ := ck_some hst1
            refine va_iald (D := g.1) hx hb hK hP 3 0 rfl rfl h3 dX0_bestOld_56 ?_
            refine lv_aload_n hx hb dX0_bestOld_57 rfl (lv_at hl 4 rfl) ?_
            refine va_get (D := g.1) (ci := 1) (v := .ref (adh 3)) (C := RX1) (T := TX1) (N := 18) hx hb hts (fun w h => List.mem_cons_of_mem _ (List.mem_append_left _ (List.mem_append_right _ h))) hown hK hP 1 rfl rfl 2 (by decide) (hts (.fieldLink RX0 46 "PauseRegions$Heap" "live" "[I") (List.mem_of_getElem? (i := 2) rfl)) (fun _ h9 => h9) rfl dX0_bestOld_58 ?_
            refine lv_iload hx hb dX0_bestOld_61 (lv_at hl 0 rfl) ?_
            obtain ⟨h4, hst1⟩ := ck_some hst1
            refine va_iald (D := g.1) hx hb hK hP 4 0 rfl rfl h4 dX0_bestOld_63 ?_
            refine lv_isub hx hb dX0_bestOld_64 ?_
            obtain ⟨x2, ex2, hst1⟩ := bd_some hst1
            rw [← ex2]
            refine lv_istore (lv' := [(5, .int x2), (4, .int q1.2.2), (3, .int q1.2.1), (2, .int q1.1), (0, .ref a0), (1, .ref (adh 0))]) hx hb dX0_bestOld_65 hl (by decide) rfl (fun ls hl => ?_)
            refine lv_iload hx hb dX0_bestOld_67 (lv_at hl 0 rfl) ?_
            refine lv_iload_n hx hb dX0_bestOld_69 rfl (lv_at hl 2 rfl) ?_
            refine lv_icmp_le (tgt := 79) hx hb dX0_bestOld_70 (by decide) (fun c5 => ?_) (fun c5 => ?_)
            · rw [if_pos c5] at hst1
              refine lv_iinc (v := q1.2.2 + 1) (lv' := [(4, .int (q1.2.2 + 1)), (5, .int x2), (3, .int q1.2.1), (2, .int q1.1), (0, .ref a0), (1, .ref (adh 0))]) hx hb dX0_bestOld_79 hl (k := 1) rfl rfl (by decide) rfl (fun ls hl => ?_)
              refine lv_goto (tgt := 8) hx hb dX0_bestOld_82 (by decide) ?_
              exact hin1 ls _ (Option.some.inj hst1).symm (lv_sub hl [0, 2, 3, 4, 5] rfl)
            · rw [if_neg c5] at hst1
              refine lv_iload hx hb dX0_bestOld_73 (lv_at hl 1 rfl) ?_
              refine lv_istore_n (lv' := [(2, .int q1.2.2), (5, .int x2), (4, .int q1.2.2), (3, .int q1.2.1), (0, .ref a0), (1, .ref (adh 0))]) hx hb dX0_bestOld_75 rfl hl (by decide) rfl (fun ls hl => ?_)
              refine lv_iload hx hb dX0_bestOld_76 (lv_at hl 1 rfl) ?_
              refine lv_istore_n (lv' := [(3, .int x2), (2, .int q1.2.2), (5, .int x2), (4, .int q1.2.2), (0, .ref a0), (1, .ref (adh 0))]) hx hb dX0_bestOld_78 rfl hl (by decide) rfl (fun ls hl => ?_)
              refine lv_iinc (v := q1.2.2 + 1) (lv' := [(4, .int (q1.2.2 + 1)), (3, .int x2), (2, .int q1.2.2), (5, .int x2), (0, .ref a0), (1, .ref (adh 0))]) hx hb dX0_bestOld_79 hl (k := 3) rfl rfl (by decide) rfl (fun ls hl => ?_)
              refine lv_goto (tgt := 8) hx hb dX0_bestOld_82 (by decide) ?_
              exact hin1 ls _ (Option.some.inj hst1).symm (lv_sub hl [0, 1, 2, 4, 5] rfl)
def sX0_chooseOld_L2 (Ah : IA) (Fhc : FA) (p1c : UInt32) (q1 : Int32 × Int32 × Int32 × UInt32) : Option ((Int32 × Int32 × Int32 × UInt32) ⊕ (Int32 × Int32 × UInt32)) :=
  if 10 ≤ q1.1 then (some (.inr (q1.2.1, q1.2.2.1, q1.2.2.2))) else ((sX0_bestOld q1.2.1 q1.2.2.1 Ah).bind fun x1 => if x1 = (-9) then (some (.inr (q1.2.1, q1.2.2.1, q1.2.2.2))) else (ck x1 10 (if (Op.cmpValue (FP.fcmp (FP.fadd q1.2.2.2 (FP.fmul (Fhc 14 0) (FP.i2f ((Ah 2) x1.toNatClampNeg)))) p1c) .l) ≤ 0 then (bd (q1.2.1 ||| (1 <<< (x1 &&& 31))) fun rg1 => bd (FP.fadd q1.2.2.2 (FP.fmul (Fhc 14 0) (FP.i2f ((Ah 2) x1.toNatClampNeg)))) fun fc1c => some (.inl (q1.1 + 1, rg1, q1.2.2.1, fc1c))) else (some (.inr (q1.2.1, q1.2.2.1, q1.2.2.2))))))
def sX0_chooseOld (rg : Int32) (yc : Int32) (fcc : UInt32) (Ah : IA) (Fhc : FA) (p1c : UInt32) : Option (Int32 × Int32 × UInt32) :=
  loopN (sX0_chooseOld_L2 Ah Fhc p1c) 2000 (0, rg, yc, fcc)
abbrev rmX0_chooseOld : Room := { frames := 2, cells := 0, slots := 0, locals := 46 }
theorem hdX0_chooseOld : yX0_chooseOld.cls = RX0 ∧ yX0_chooseOld.cls ≠ "java/lang/invoke/MethodHandle" ∧ yX0_chooseOld.cls ≠ "java/lang/invoke/VarHandle" ∧ (parseMethodDescriptor yX0_chooseOld.desc).map (fun d => d.parameters.length) = some 2 := by decide +kernel
set_option maxHeartbeats 4000000 in
set_option maxRecDepth 100000 in
theorem kX0_chooseOld {l : Launch} {g : GG} {sz : Nat} {a0 : Nat} {rg : Int32} {yc : Int32} {fc : UInt32} {adh : Nat → Nat} {Ah : IA} {Fh : FA} {fcc : UInt32} (hfc : alike32 fc fcc = true) {Fhc : FA} (hALh : AL Fh Fhc) {p1 p1c : UInt32} (hp1 : alike32 p1 p1c = true) {b : Int32 × Int32 × UInt32} (hsem : sX0_chooseOld rg yc fcc Ah Fhc p1c = some b) : MetDV l yX0_chooseOld wsX0_chooseOld rmX0_chooseOld g [.ref a0, .ref (adh 0), .float p1] ((wC g a0 rg yc fc) ++ (wH g adh Ah Fh)) sz (φ := UInt32) (fun u => alike32 u b.2.2 = true) (fun u => (wC g a0 b.1 b.2.1 u) ++ (wH g adh Ah Fh)) := by
  refine MetD.ofW (cc := cX0_chooseOld) (maxL := 6) (ret := none) (by decide) rfl ?_
  intro p e s m args below meth c s₁ B hml hv hdr
  obtain ⟨rfl, hsz, hP, hD0, hKK⟩ := hv
  subst hsz
  have hx := B.exec
  have hb := B.bytes
  have hr := B.returns
  have hts := atoms_spec (ws := wsX0_chooseOld) B.pre
  have hown : ∀ d, (s.setDrawn d).vm.findClass RX0 = some m.cls := fun _ => findClass_of_methodNamed B.named
  have hlocks := B.notSynchronized
  have hK : ∀ d, va_K g.1 vwCl (KT g) (s.setDrawn d) := fun d => (hKK.drawn d).1
  have hD := hD0.self (sz := s.heap.size)
  generalize hZe : va_A ((wC g a0 rg yc fc) ++ (wH g adh Ah Fh)) s.heap.size = Z at hD ⊢
  have hZ : ∀ q : Nat, s.heap.size ≤ q → Z q := fun q h => by rw [← hZe]; exact Or.inr h
  have hS : va_S Z s.heap s.heap [] := va_S.rf
  have hP : va_P g.1 vwCl ((wC g a0 rg yc fc) ++ (wH g adh Ah Fh)) s.heap := hP
  have hD : va_D Z ((wC g a0 rg yc fc) ++ (wH g adh Ah Fh)) := hD
  obtain ⟨d, hdr, hdd⟩ : ∃ d, s.drawn.sameBut d lw_cs ∧ s.drawn = d := ⟨_, hdr, rfl⟩
  rw [hdd]
  have hl := lv_entry ([.ref a0, .ref (adh 0), .float p1]) (n := 6) (Nat.le_of_ble_eq_true rfl)
  rw [lg_entry_eq]
  generalize (lg_sl ([.ref a0, .ref (adh 0), .float p1]) ++ List.replicate (6 - (lg_sl ([.ref a0, .ref (adh 0), .float p1])).length) Slot.unset).toArray = ls at hl ⊢
  have hl : lv_has ls 6 [(0, .ref a0), (1, .ref (adh 0)), (2, .float p1)] := hl
  unfold sX0_chooseOld at hsem
  refine lv_iconst (v := 0) hx hb dX0_chooseOld_0 (by decide) ?_
  refine lv_istore_n (lv' := [(3, .int 0), (0, .ref a0), (1, .ref (adh 0)), (2, .float p1)]) hx hb dX0_chooseOld_1 rfl hl (by decide) rfl (fun ls hl => ?_)
  refine loopMDe (g := g) hdr hsem (fun (q1 : Int32 × Int32 × Int32 × UInt32) => [(3, .int q1.1), (0, .ref a0), (1, .ref (adh 0)), (2, .float p1)]) (fun (q1 : Int32 × Int32 × Int32 × UInt32) (fz1 : UInt32) => (wC g a0 q1.2.1 q1.2.2.1 fz1) ++ (wH g adh Ah Fh)) (fun (q1 : Int32 × Int32 × Int32 × UInt32) (fz1 : UInt32) => alike32 fz1 q1.2.2.2 = true) fc hfc hP hD hS (lv_sub hl [0, 1, 2, 3] rfl) (fun q1 r hst1 hin1 hout1 d H locs ls fz1 hdr hrfz1 hP hD hS hl => ?_)
  unfold sX0_chooseOld_L2 at hst1
  have hP : va_P g.1 vwCl ((wC g a0 q1.2.1 q1.2.2.1 fz1) ++ (wH g adh Ah Fh)) H := hP
  have hD : va_D Z ((wC g a0 q1.2.1 q1.2.2.1 fz1) ++ (wH g adh Ah Fh)) := hD
  refine lv_iload_n hx hb dX0_chooseOld_2 rfl (lv_at hl 0 rfl) ?_
  refine lv_bipush (v := 10) hx hb dX0_chooseOld_3 (by decide) ?_
  refine lv_icmp_ge (tgt := 76) hx hb dX0_chooseOld_5 (by decide) (fun c1 => ?_) (fun c1 => ?_)
  · rw [if_pos c1] at hst1
    have eo := (hout1 _ (Option.some.inj hst1).symm).symm.symm
    refine W.endD hdr ?_
    subst eo
    exact W.vret hx hb hr (fun t ht hW => ⟨⟨fz1, rfl, hrfz1, ⟨by rw [ht]; exact hP, hD⟩⟩, hS.F ht⟩) hS.2.2 dX0_chooseOld_76
  · rw [if_neg c1] at hst1
    refine lv_aload_n hx hb dX0_chooseOld_8 rfl (lv_at hl 1 rfl) ?_
    refine lv_aload_n hx hb dX0_chooseOld_9 rfl (lv_at hl 2 rfl) ?_
    obtain ⟨x1, hc1, hst1⟩ := bn_some hst1
    refine pcV (C := RX0) (As := [.ref (adh 0)]) (rest := []) ⟨hx, hb, hml, (hown d), (dr_words hts d)⟩ (hKK.drawn d) (cwV 1 (dr_words hts d) gX0_chooseOld_X0_bestOld rfl rfl rfl hdX0_bestOld ⟨Nat.le_of_ble_eq_true rfl, Nat.le_of_ble_eq_true rfl⟩) (kX0_bestOld (l := l) (g := g) hP hc1) (va_recv (hK d) hP (ci := 0) (q0 := 0) rfl rfl) rfl hl.1 rfl (Nat.le_of_ble_eq_true rfl) dX0_chooseOld_10 ⟨Nat.zero_le _, Nat.zero_le _⟩ ?_
    refine lv_istore (lv' := [(4, .int x1), (3, .int q1.1), (0, .ref a0), (1, .ref (adh 0)), (2, .float p1)]) hx hb dX0_chooseOld_13 hl (by decide) rfl (fun ls hl => ?_)
    refine lv_iload hx hb dX0_chooseOld_15 (lv_at hl 0 rfl) ?_
    refine lv_bipush (v := (-9)) hx hb dX0_chooseOld_17 (by decide) ?_
    refine lv_icmp_ne (tgt := 23) hx hb dX0_chooseOld_19 (by decide) (fun c2 => ?_) (fun c2 => ?_)
    · rw [if_neg c2] at hst1
      refine lv_aload_n hx hb dX0_chooseOld_23 rfl (lv_at hl 2 rfl) ?_
      refine va_get (D := g.1) (ci := 0) (v := .float fz1) (C := RX0) (T := TX0) (N := 3) hx hb (dr_words hts d) (fun w h => List.mem_cons_of_mem _ (List.mem_append_left _ (List.mem_append_right _ h))) (hown d) (hK d) hP 0 rfl rfl 2 (by decide) ((dr_words hts d) (.fieldLink RX0 35 "PauseRegions$Choice" "forecast" "F") (List.mem_of_getElem? (i := 1) rfl)) (fun _ h9 => h9) rfl dX0_chooseOld_24 ?_
      refine lv_aload_n hx hb dX0_chooseOld_27 rfl (lv_at hl 3 rfl) ?_
      refine va_get (D := g.1) (ci := 1) (v := .float (Fh 14 0)) (C := RX1) (T := TX1) (N := 18) hx hb (dr_words hts d) (fun w h => List.mem_cons_of_mem _ (List.mem_append_right _ h)) (hown d) (hK d) hP 1 rfl rfl 14 (by decide) ((dr_words hts d) (.fieldLink RX0 28 "PauseRegions$Heap" "rate" "F") (List.mem_of_getElem? (i := 2) rfl)) (fun _ h9 => h9) rfl dX0_chooseOld_28 ?_
      refine lv_aload_n hx hb dX0_chooseOld_31 rfl (lv_at hl 3 rfl) ?_
      refine va_get (D := g.1) (ci := 1) (v := .ref (adh 3)) (C := RX1) (T := TX1) (N := 18) hx hb (dr_words hts d) (fun w h => List.mem_cons_of_mem _ (List.mem_append_right _ h)) (hown d) (hK d) hP 1 rfl rfl 2 (by decide) ((dr_words hts d) (.fieldLink RX0 46 "PauseRegions$Heap" "live" "[I") (List.mem_of_getElem? (i := 3) rfl)) (fun _ h9 => h9) rfl dX0_chooseOld_32 ?_
      refine lv_iload hx hb dX0_chooseOld_35 (lv_at hl 0 rfl) ?_
      obtain ⟨h1, hst1⟩ := ck_some hst1
      refine va_iald (D := g.1) hx hb (hK d) hP 4 0 rfl rfl h1 dX0_chooseOld_37 ?_
      refine lv_i2f hx hb dX0_chooseOld_38 ?_
      refine lv_fmul_any hdr lw_bits hx hb dX0_chooseOld_39 (fun y1 d hal hdr => ?_)
      have ay1 := al_fmul hal (hALh 14 0) (al_refl _)
      refine lv_fadd_any hdr lw_bits hx hb dX0_chooseOld_40 (fun y2 d hal hdr => ?_)
      have ay2 := al_fadd hal hrfz1 ay1
      refine lv_fstore (lv' := [(5, .float y2), (4, .int x1), (3, .int q1.1), (0, .ref a0), (1, .ref (adh 0)), (2, .float p1)]) hx hb dX0_chooseOld_41 hl (by decide) rfl (fun ls hl => ?_)
      refine lv_fload hx hb dX0_chooseOld_43 (lv_at hl 0 rfl) ?_
      refine lv_fload_n hx hb dX0_chooseOld_45 rfl (lv_at hl 5 rfl) ?_
      refine lv_fcmp hx hb dX0_chooseOld_46 ?_
      rw [al_fcmp ay2 hp1]
      refine lv_if_le (tgt := 51) hx hb dX0_chooseOld_47 (by decide) (fun c3 => ?_) (fun c3 => ?_)
      · rw [if_pos c3] at hst1
        refine lv_aload_n hx hb dX0_chooseOld_51 rfl (lv_at hl 3 rfl) ?_
        refine lv_dup hx hb dX0_chooseOld_52 rfl ?_
        refine va_get (D := g.1) (ci := 0) (v := .int q1.2.1) (C := RX0) (T := TX0) (N := 3) hx hb (dr_words hts d) (fun w h => List.mem_cons_of_mem _ (List.mem_append_left _ (List.mem_append_right _ h))) (hown d) (hK d) hP 0 rfl rfl 0 (by decide) ((dr_words hts d) (.fieldLink RX0 9 "PauseRegions$Choice" "regions" "I") (List.mem_of_getElem? (i := 4) rfl)) (fun _ h9 => h9) rfl dX0_chooseOld_53 ?_
        refine lv_iconst (v := 1) hx hb dX0_chooseOld_56 (by decide) ?_
        refine lv_iload hx hb dX0_chooseOld_57 (lv_at hl 1 rfl) ?_
        refine lv_ishl hx hb dX0_chooseOld_59 ?_
        refine lv_ior hx hb dX0_chooseOld_60 ?_
        refine va_put (D := g.1) (ci := 0) (v := .int (q1.2.1 ||| (1 <<< (x1 &&& 31)))) (ty := .int) (C := RX0) (T := TX0) (N := 3) hx hb (dr_words hts d) (fun w h => List.mem_cons_of_mem _ (List.mem_append_left _ (List.mem_append_right _ h))) tyX0 tyX0_ok nmX0 (hown d) (hK d) hP hD hS 0 rfl rfl 0 (by decide) ((dr_words hts d) (.fieldLink RX0 9 "PauseRegions$Choice" "regions" "I") (List.mem_of_getElem? (i := 4) rfl)) (fun _ h9 => h9) rfl (by decide +kernel) rfl rfl (Nat.le_of_ble_eq_true rfl) dX0_chooseOld_61 (fun H locs hP hD hS => ?_)
        obtain ⟨rg1, erg1, hst1⟩ := bd_some hst1
        have hP : va_P g.1 vwCl ((wC g a0 rg1 q1.2.2.1 fz1) ++ (wH g adh Ah Fh)) H := by rw [erg1]; exact hP
        have hD : va_D Z ((wC g a0 rg1 q1.2.2.1 fz1) ++ (wH g adh Ah Fh)) := by rw [erg1]; exact hD
        refine lv_aload_n hx hb dX0_chooseOld_64 rfl (lv_at hl 3 rfl) ?_
        refine lv_fload hx hb dX0_chooseOld_65 (lv_at hl 0 rfl) ?_
        refine va_put (D := g.1) (ci := 0) (v := .float y2) (ty := .float) (C := RX0) (T := TX0) (N := 3) hx hb (dr_words hts d) (fun w h => List.mem_cons_of_mem _ (List.mem_append_left _ (List.mem_append_right _ h))) tyX0 tyX0_ok nmX0 (hown d) (hK d) hP hD hS 0 rfl rfl 2 (by decide) ((dr_words hts d) (.fieldLink RX0 35 "PauseRegions$Choice" "forecast" "F") (List.mem_of_getElem? (i := 1) rfl)) (fun _ h9 => h9) rfl (by decide +kernel) rfl rfl (Nat.le_of_ble_eq_true rfl) dX0_chooseOld_67 (fun H locs hP hD hS => ?_)
        obtain ⟨fc1, efc1⟩ : ∃ z, z = y2 := ⟨_, rfl⟩
        obtain ⟨fc1c, efc1c, hst1⟩ := bd_some hst1
        have hafc1 : alike32 fc1 fc1c = true := by rw [efc1, efc1c]; exact ay2
        have hP : va_P g.1 vwCl ((wC g a0 rg1 q1.2.2.1 fc1) ++ (wH g adh Ah Fh)) H := by rw [efc1]; exact hP
        have hD : va_D Z ((wC g a0 rg1 q1.2.2.1 fc1) ++ (wH g adh Ah Fh)) := by rw [efc1]; exact hD
        refine lv_iinc (v := q1.1 + 1) (lv' := [(3, .int (q1.1 + 1)), (5, .float y2), (4, .int x1), (0, .ref a0), (1, .ref (adh 0)), (2, .float p1)]) hx hb dX0_chooseOld_70 hl (k := 2) rfl rfl (by decide) rfl (fun ls hl => ?_)
        refine lv_goto (tgt := 2) hx hb dX0_chooseOld_73 (by decide) ?_
        exact hin1 _ H locs ls fc1 _ (Option.some.inj hst1).symm hdr hafc1 hP hD hS (lv_sub hl [0, 3, 4, 5] rfl)
      · rw [if_neg c3] at hst1
        have eo := (hout1 _ (Option.some.inj hst1).symm).symm.symm
        refine W.endD hdr ?_
        subst eo
        exact W.vret hx hb hr (fun t ht hW => ⟨⟨fz1, rfl, hrfz1, ⟨by rw [ht]; exact hP, hD⟩⟩, hS.F ht⟩) hS.2.2 dX0_chooseOld_50
    · rw [if_pos c2] at hst1
      have eo := (hout1 _ (Option.some.inj hst1).symm).symm.symm
      refine W.endD hdr ?_
      subst eo
      exact W.vret hx hb hr (fun t ht hW => ⟨⟨fz1, rfl, hrfz1, ⟨by rw [ht]; exact hP, hD⟩⟩, hS.F ht⟩) hS.2.2 dX0_chooseOld_22
def sX0_choose_L12 (Ah : IA) (q1 : Int32 × Int32 × Int32) : Option ((Int32 × Int32 × Int32) ⊕ (Int32 × Int32)) :=
  if 10 ≤ q1.1 then (some (.inr (q1.2.1, q1.2.2))) else (ck q1.1 10 (if ((Ah 0) q1.1.toNatClampNeg) = 1 then (bd (q1.2.1 ||| (1 <<< (q1.1 &&& 31))) fun rg2 => ck q1.1 10 (bd (q1.2.2 + ((Ah 1) q1.1.toNatClampNeg)) fun yc2 => some (.inl (q1.1 + 1, rg2, yc2)))) else (some (.inl (q1.1 + 1, q1.2.1, q1.2.2)))))
def sX0_choose (rg : Int32) (yc : Int32) (fcc : UInt32) (Ah : IA) (Fhc : FA) (p1 : Int32) : Option (Int32 × Int32 × UInt32) :=
  bd 0 fun rg1 => bd 0 fun yc1 => (loopN (sX0_choose_L12 Ah) 2000 (0, rg1, yc1)).bind fun q2 => bd (FP.fadd 1092616192 (FP.fmul (Fhc 14 0) (FP.fmul (Fhc 15 0) (FP.i2f q2.2)))) fun fc1c => (sX0_chooseOld q2.1 q2.2 fc1c Ah Fhc (FP.i2f p1)).bind fun z1 => some (z1.1, z1.2.1, z1.2.2)
abbrev rmX0_choose : Room := { frames := 3, cells := 0, slots := 0, locals := 71 }
theorem hdX0_choose : yX0_choose.cls = RX0 ∧ yX0_choose.cls ≠ "java/lang/invoke/MethodHandle" ∧ yX0_choose.cls ≠ "java/lang/invoke/VarHandle" ∧ (parseMethodDescriptor yX0_choose.desc).map (fun d => d.parameters.length) = some 2 := by decide +kernel
set_option maxHeartbeats 4000000 in
set_option maxRecDepth 100000 in
theorem kX0_choose {l : Launch} {g : GG} {sz : Nat} {a0 : Nat} {rg : Int32} {yc : Int32} {fc : UInt32} {adh : Nat → Nat} {Ah : IA} {Fh : FA} {p1 : Int32} {fcc : UInt32} (hfc : alike32 fc fcc = true) {Fhc : FA} (hALh : AL Fh Fhc) {b : Int32 × Int32 × UInt32} (hsem : sX0_choose rg yc fcc Ah Fhc p1 = some b) : MetDV l yX0_choose wsX0_choose rmX0_choose g [.ref a0, .ref (adh 0), .int p1] ((wC g a0 rg yc fc) ++ (wH g adh Ah Fh)) sz (φ := UInt32) (fun u => alike32 u b.2.2 = true) (fun u => (wC g a0 b.1 b.2.1 u) ++ (wH g adh Ah Fh)) := by
  refine MetD.ofW (cc := cX0_choose) (maxL := 4) (ret := none) (by decide) rfl ?_
  intro p e s m args below meth c s₁ B hml hv hdr
  obtain ⟨rfl, hsz, hP, hD0, hKK⟩ := hv
  subst hsz
  have hx := B.exec
  have hb := B.bytes
  have hr := B.returns
  have hts := atoms_spec (ws := wsX0_choose) B.pre
  have hown : ∀ d, (s.setDrawn d).vm.findClass RX0 = some m.cls := fun _ => findClass_of_methodNamed B.named
  have hlocks := B.notSynchronized
  have hK : ∀ d, va_K g.1 vwCl (KT g) (s.setDrawn d) := fun d => (hKK.drawn d).1
  have hD := hD0.self (sz := s.heap.size)
  generalize hZe : va_A ((wC g a0 rg yc fc) ++ (wH g adh Ah Fh)) s.heap.size = Z at hD ⊢
  have hZ : ∀ q : Nat, s.heap.size ≤ q → Z q := fun q h => by rw [← hZe]; exact Or.inr h
  have hS : va_S Z s.heap s.heap [] := va_S.rf
  have hP : va_P g.1 vwCl ((wC g a0 rg yc fc) ++ (wH g adh Ah Fh)) s.heap := hP
  have hD : va_D Z ((wC g a0 rg yc fc) ++ (wH g adh Ah Fh)) := hD
  obtain ⟨d, hdr, hdd⟩ : ∃ d, s.drawn.sameBut d lw_cs ∧ s.drawn = d := ⟨_, hdr, rfl⟩
  rw [hdd]
  have hl := lv_entry ([.ref a0, .ref (adh 0), .int p1]) (n := 4) (Nat.le_of_ble_eq_true rfl)
  rw [lg_entry_eq]
  generalize (lg_sl ([.ref a0, .ref (adh 0), .int p1]) ++ List.replicate (4 - (lg_sl ([.ref a0, .ref (adh 0), .int p1])).length) Slot.unset).toArray = ls at hl ⊢
  have hl : lv_has ls 4 [(0, .ref a0), (1, .ref (adh 0)), (2, .int p1)] := hl
  unfold sX0_choose at hsem
  refine lv_aload_n hx hb dX0_choose_0 rfl (lv_at hl 0 rfl) ?_
  refine lv_iconst (v := 0) hx hb dX0_choose_1 (by decide) ?_
  refine va_put (D := g.1) (ci := 0) (v := .int 0) (ty := .int) (C := RX0) (T := TX0) (N := 3) hx hb (dr_words hts d) (fun w h => List.mem_cons_of_mem _ (List.mem_append_left _ (List.mem_append_right _ h))) tyX0 tyX0_ok nmX0 (hown d) (hK d) hP hD hS 0 rfl rfl 0 (by decide) ((dr_words hts d) (.fieldLink RX0 9 "PauseRegions$Choice" "regions" "I") (List.mem_of_getElem? (i := 1) rfl)) (fun _ h9 => h9) rfl (by decide +kernel) rfl rfl (Nat.le_of_ble_eq_true rfl) dX0_choose_2 (fun H locs hP hD hS => ?_)
  obtain ⟨rg1, erg1, hsem⟩ := bd_some hsem
  have hP : va_P g.1 vwCl ((wC g a0 rg1 yc fc) ++ (wH g adh Ah Fh)) H := by rw [erg1]; exact hP
  have hD : va_D Z ((wC g a0 rg1 yc fc) ++ (wH g adh Ah Fh)) := by rw [erg1]; exact hD
  refine lv_aload_n hx hb dX0_choose_5 rfl (lv_at hl 0 rfl) ?_
  refine lv_iconst (v := 0) hx hb dX0_choose_6 (by decide) ?_
  refine va_put (D := g.1) (ci := 0) (v := .int 0) (ty := .int) (C := RX0) (T := TX0) (N := 3) hx hb (dr_words hts d) (fun w h => List.mem_cons_of_mem _ (List.mem_append_left _ (List.mem_append_right _ h))) tyX0 tyX0_ok nmX0 (hown d) (hK d) hP hD hS 0 rfl rfl 1 (by decide) ((dr_words hts d) (.fieldLink RX0 15 "PauseRegions$Choice" "youngCells" "I") (List.mem_of_getElem? (i := 2) rfl)) (fun _ h9 => h9) rfl (by decide +kernel) rfl rfl (Nat.le_of_ble_eq_true rfl) dX0_choose_7 (fun H locs hP hD hS => ?_)
  obtain ⟨yc1, eyc1, hsem⟩ := bd_some hsem
  have hP : va_P g.1 vwCl ((wC g a0 rg1 yc1 fc) ++ (wH g adh Ah Fh)) H := by rw [eyc1]; exact hP
  have hD : va_D Z ((wC g a0 rg1 yc1 fc) ++ (wH g adh Ah Fh)) := by rw [eyc1]; exact hD
  refine lv_iconst (v := 0) hx hb dX0_choose_10 (by decide) ?_
  refine lv_istore_n (lv' := [(3, .int 0), (0, .ref a0), (1, .ref (adh 0)), (2, .int p1)]) hx hb dX0_choose_11 rfl hl (by decide) rfl (fun ls hl => ?_)
  obtain ⟨q2, hc1, hsem⟩ := bn_some hsem
  refine loopMD (g := g) hdr hc1 (fun (q1 : Int32 × Int32 × Int32) => [(3, .int q1.1), (0, .ref a0), (1, .ref (adh 0)), (2, .int p1)]) (fun (q1 : Int32 × Int32) => [(0, .ref a0), (1, .ref (adh 0)), (2, .int p1)]) (exit := 61) (fun (q1 : Int32 × Int32 × Int32) (fz1 : Unit) => (wC g a0 q1.2.1 q1.2.2 fc) ++ (wH g adh Ah Fh)) (fun (q1 : Int32 × Int32) (fz1 : Unit) => (wC g a0 q1.1 q1.2 fc) ++ (wH g adh Ah Fh)) (fun (_ : Int32 × Int32 × Int32) (_ : Unit) => True) (fun (_ : Int32 × Int32) (_ : Unit) => True) () trivial hP hD hS (lv_sub hl [0, 1, 2, 3] rfl) (fun d H locs ls fz1 hdr hrfz1 hP hD hS hl => ?_) (fun q1 r hst1 hin1 hout1 d H locs ls fz1 hdr hrfz1 hP hD hS hl => ?_)
  · have hP : va_P g.1 vwCl ((wC g a0 q2.1 q2.2 fc) ++ (wH g adh Ah Fh)) H := hP
    have hD : va_D Z ((wC g a0 q2.1 q2.2 fc) ++ (wH g adh Ah Fh)) := hD
    refine lv_aload_n hx hb dX0_choose_61 rfl (lv_at hl 0 rfl) ?_
    refine lv_ldcf hx hb (hown d) ((dr_words hts d) (.constantFloat RX0 27 (1092616192)) (List.mem_of_getElem? (i := 5) rfl)) dX0_choose_62 ?_
    refine lv_aload_n hx hb dX0_choose_64 rfl (lv_at hl 1 rfl) ?_
    refine va_get (D := g.1) (ci := 1) (v := .float (Fh 14 0)) (C := RX1) (T := TX1) (N := 18) hx hb (dr_words hts d) (fun w h => List.mem_cons_of_mem _ (List.mem_append_right _ h)) (hown d) (hK d) hP 1 rfl rfl 14 (by decide) ((dr_words hts d) (.fieldLink RX0 28 "PauseRegions$Heap" "rate" "F") (List.mem_of_getElem? (i := 6) rfl)) (fun _ h9 => h9) rfl dX0_choose_65 ?_
    refine lv_aload_n hx hb dX0_choose_68 rfl (lv_at hl 1 rfl) ?_
    refine va_get (D := g.1) (ci := 1) (v := .float (Fh 15 0)) (C := RX1) (T := TX1) (N := 18) hx hb (dr_words hts d) (fun w h => List.mem_cons_of_mem _ (List.mem_append_right _ h)) (hown d) (hK d) hP 1 rfl rfl 15 (by decide) ((dr_words hts d) (.fieldLink RX0 32 "PauseRegions$Heap" "yielded" "F") (List.mem_of_getElem? (i := 7) rfl)) (fun _ h9 => h9) rfl dX0_choose_69 ?_
    refine lv_aload_n hx hb dX0_choose_72 rfl (lv_at hl 0 rfl) ?_
    refine va_get (D := g.1) (ci := 0) (v := .int q2.2) (C := RX0) (T := TX0) (N := 3) hx hb (dr_words hts d) (fun w h => List.mem_cons_of_mem _ (List.mem_append_left _ (List.mem_append_right _ h))) (hown d) (hK d) hP 0 rfl rfl 1 (by decide) ((dr_words hts d) (.fieldLink RX0 15 "PauseRegions$Choice" "youngCells" "I") (List.mem_of_getElem? (i := 2) rfl)) (fun _ h9 => h9) rfl dX0_choose_73 ?_
    refine lv_i2f hx hb dX0_choose_76 ?_
    refine lv_fmul_any hdr lw_bits hx hb dX0_choose_77 (fun y1 d hal hdr => ?_)
    have ay1 := al_fmul hal (hALh 15 0) (al_refl _)
    refine lv_fmul_any hdr lw_bits hx hb dX0_choose_78 (fun y2 d hal hdr => ?_)
    have ay2 := al_fmul hal (hALh 14 0) ay1
    refine lv_fadd_any hdr lw_bits hx hb dX0_choose_79 (fun y3 d hal hdr => ?_)
    have ay3 := al_fadd hal (al_refl _) ay2
    refine va_put (D := g.1) (ci := 0) (v := .float y3) (ty := .float) (C := RX0) (T := TX0) (N := 3) hx hb (dr_words hts d) (fun w h => List.mem_cons_of_mem _ (List.mem_append_left _ (List.mem_append_right _ h))) tyX0 tyX0_ok nmX0 (hown d) (hK d) hP hD hS 0 rfl rfl 2 (by decide) ((dr_words hts d) (.fieldLink RX0 35 "PauseRegions$Choice" "forecast" "F") (List.mem_of_getElem? (i := 8) rfl)) (fun _ h9 => h9) rfl (by decide +kernel) rfl rfl (Nat.le_of_ble_eq_true rfl) dX0_choose_80 (fun H locs hP hD hS => ?_)
    obtain ⟨fc1, efc1⟩ : ∃ z, z = y3 := ⟨_, rfl⟩
    obtain ⟨fc1c, efc1c, hsem⟩ := bd_some hsem
    have hafc1 : alike32 fc1 fc1c = true := by rw [efc1, efc1c]; exact ay3
    have hP : va_P g.1 vwCl ((wC g a0 q2.1 q2.2 fc1) ++ (wH g adh Ah Fh)) H := by rw [efc1]; exact hP
    have hD : va_D Z ((wC g a0 q2.1 q2.2 fc1) ++ (wH g adh Ah Fh)) := by rw [efc1]; exact hD
    refine lv_aload_n hx hb dX0_choose_83 rfl (lv_at hl 0 rfl) ?_
    refine lv_aload_n hx hb dX0_choose_84 rfl (lv_at hl 1 rfl) ?_
    refine lv_iload_n hx hb dX0_choose_85 rfl (lv_at hl 2 rfl) ?_
    refine lv_i2f hx hb dX0_choose_86 ?_
    obtain ⟨z1, hc2, hsem⟩ := bn_some hsem
    refine dcV (C := RX0) (As := [.ref (adh 0), .float (FP.i2f p1)]) (rest := []) hdr ⟨hx, hb, hml, (hown d), (dr_words hts d)⟩ (hKK.drawn d) hP hD hS hZ (cwV 2 (dr_words hts d) gX0_choose_X0_chooseOld rfl rfl rfl hdX0_chooseOld ⟨Nat.le_of_ble_eq_true rfl, Nat.le_of_ble_eq_true rfl⟩) (kX0_chooseOld (l := l) (g := g) (a0 := a0) (rg := q2.1) (yc := q2.2) (adh := adh) (Ah := Ah) (fc := fc1) (fcc := fc1c) (Fh := Fh) (Fhc := Fhc) hafc1 hALh (al_refl _) hc2) (va_recv (hK d) hP (ci := 0) (q0 := 0) rfl rfl) rfl hl.1 rfl (Nat.le_of_ble_eq_true rfl) dX0_choose_87 ⟨Nat.zero_le _, Nat.zero_le _⟩ (fun u1 H locs d hpo hP hD hS hdr => ?_)
    have hq1 := hpo
    have hP : va_P g.1 vwCl ((wC g a0 z1.1 z1.2.1 u1) ++ (wH g adh Ah Fh)) H := hP
    have hD : va_D Z ((wC g a0 z1.1 z1.2.1 u1) ++ (wH g adh Ah Fh)) := hD
    have eo := (Option.some.inj hsem).symm.symm
    refine W.endD hdr ?_
    subst eo
    exact W.vret hx hb hr (fun t ht hW => ⟨⟨u1, rfl, hq1, ⟨by rw [ht]; exact hP, hD⟩⟩, hS.F ht⟩) hS.2.2 dX0_choose_90
  · unfold sX0_choose_L12 at hst1
    have hP : va_P g.1 vwCl ((wC g a0 q1.2.1 q1.2.2 fc) ++ (wH g adh Ah Fh)) H := hP
    have hD : va_D Z ((wC g a0 q1.2.1 q1.2.2 fc) ++ (wH g adh Ah Fh)) := hD
    refine lv_iload_n hx hb dX0_choose_12 rfl (lv_at hl 0 rfl) ?_
    refine lv_bipush (v := 10) hx hb dX0_choose_13 (by decide) ?_
    refine lv_icmp_ge (tgt := 61) hx hb dX0_choose_15 (by decide) (fun c1 => ?_) (fun c1 => ?_)
    · rw [if_pos c1] at hst1
      exact hout1 _ H locs ls () _ (Option.some.inj hst1).symm hdr trivial hP hD hS (lv_sub hl [1, 2, 3] rfl)
    · rw [if_neg c1] at hst1
      refine lv_aload_n hx hb dX0_choose_18 rfl (lv_at hl 2 rfl) ?_
      refine va_get (D := g.1) (ci := 1) (v := .ref (adh 1)) (C := RX1) (T := TX1) (N := 18) hx hb (dr_words hts d) (fun w h => List.mem_cons_of_mem _ (List.mem_append_right _ h)) (hown d) (hK d) hP 1 rfl rfl 0 (by decide) ((dr_words hts d) (.fieldLink RX0 18 "PauseRegions$Heap" "kind" "[I") (List.mem_of_getElem? (i := 3) rfl)) (fun _ h9 => h9) rfl dX0_choose_19 ?_
      refine lv_iload_n hx hb dX0_choose_22 rfl (lv_at hl 0 rfl) ?_
      obtain ⟨h1, hst1⟩ := ck_some hst1
      refine va_iald (D := g.1) hx hb (hK d) hP 2 0 rfl rfl h1 dX0_choose_23 ?_
      refine lv_iconst (v := 1) hx hb dX0_choose_24 (by decide) ?_
      refine lv_icmp_ne (tgt := 55) hx hb dX0_choose_25 (by decide) (fun c2 => ?_) (fun c2 => ?_)
      · rw [if_neg c2] at hst1
        refine lv_iinc (v := q1.1 + 1) (lv' := [(3, .int (q1.1 + 1)), (0, .ref a0), (1, .ref (adh 0)), (2, .int p1)]) hx hb dX0_choose_55 hl (k := 0) rfl rfl (by decide) rfl (fun ls hl => ?_)
        refine lv_goto (tgt := 12) hx hb dX0_choose_58 (by decide) ?_
        exact hin1 _ H locs ls () _ (Option.some.inj hst1).symm hdr trivial hP hD hS (lv_sub hl [0, 1, 2, 3] rfl)
      · rw [if_pos c2] at hst1
        refine lv_aload_n hx hb dX0_choose_28 rfl (lv_at hl 1 rfl) ?_
        refine lv_dup hx hb dX0_choose_29 rfl ?_
        refine va_get (D := g.1) (ci := 0) (v := .int q1.2.1) (C := RX0) (T := TX0) (N := 3) hx hb (dr_words hts d) (fun w h => List.mem_cons_of_mem _ (List.mem_append_left _ (List.mem_append_right _ h))) (hown d) (hK d) hP 0 rfl rfl 0 (by decide) ((dr_words hts d) (.fieldLink RX0 9 "PauseRegions$Choice" "regions" "I") (List.mem_of_getElem? (i := 1) rfl)) (fun _ h9 => h9) rfl dX0_choose_30 ?_
        refine lv_iconst (v := 1) hx hb dX0_choose_33 (by decide) ?_
        refine lv_iload_n hx hb dX0_choose_34 rfl (lv_at hl 0 rfl) ?_
        refine lv_ishl hx hb dX0_choose_35 ?_
        refine lv_ior hx hb dX0_choose_36 ?_
        refine va_put (D := g.1) (ci := 0) (v := .int (q1.2.1 ||| (1 <<< (q1.1 &&& 31)))) (ty := .int) (C := RX0) (T := TX0) (N := 3) hx hb (dr_words hts d) (fun w h => List.mem_cons_of_mem _ (List.mem_append_left _ (List.mem_append_right _ h))) tyX0 tyX0_ok nmX0 (hown d) (hK d) hP hD hS 0 rfl rfl 0 (by decide) ((dr_words hts d) (.fieldLink RX0 9 "PauseRegions$Choice" "regions" "I") (List.mem_of_getElem? (i := 1) rfl)) (fun _ h9 => h9) rfl (by decide +kernel) rfl rfl (Nat.le_of_ble_eq_true rfl) dX0_choose_37 (fun H locs hP hD hS => ?_)
        obtain ⟨rg2, erg2, hst1⟩ := bd_some hst1
        have hP : va_P g.1 vwCl ((wC g a0 rg2 q1.2.2 fc) ++ (wH g adh Ah Fh)) H := by rw [erg2]; exact hP
        have hD : va_D Z ((wC g a0 rg2 q1.2.2 fc) ++ (wH g adh Ah Fh)) := by rw [erg2]; exact hD
        refine lv_aload_n hx hb dX0_choose_40 rfl (lv_at hl 1 rfl) ?_
        refine lv_dup hx hb dX0_choose_41 rfl ?_
        refine va_get (D := g.1) (ci := 0) (v := .int q1.2.2) (C := RX0) (T := TX0) (N := 3) hx hb (dr_words hts d) (fun w h => List.mem_cons_of_mem _ (List.mem_append_left _ (List.mem_append_right _ h))) (hown d) (hK d) hP 0 rfl rfl 1 (by decide) ((dr_words hts d) (.fieldLink RX0 15 "PauseRegions$Choice" "youngCells" "I") (List.mem_of_getElem? (i := 2) rfl)) (fun _ h9 => h9) rfl dX0_choose_42 ?_
        refine lv_aload_n hx hb dX0_choose_45 rfl (lv_at hl 2 rfl) ?_
        refine va_get (D := g.1) (ci := 1) (v := .ref (adh 2)) (C := RX1) (T := TX1) (N := 18) hx hb (dr_words hts d) (fun w h => List.mem_cons_of_mem _ (List.mem_append_right _ h)) (hown d) (hK d) hP 1 rfl rfl 1 (by decide) ((dr_words hts d) (.fieldLink RX0 24 "PauseRegions$Heap" "top" "[I") (List.mem_of_getElem? (i := 4) rfl)) (fun _ h9 => h9) rfl dX0_choose_46 ?_
        refine lv_iload_n hx hb dX0_choose_49 rfl (lv_at hl 0 rfl) ?_
        obtain ⟨h2, hst1⟩ := ck_some hst1
        refine va_iald (D := g.1) hx hb (hK d) hP 3 0 rfl rfl h2 dX0_choose_50 ?_
        refine lv_iadd hx hb dX0_choose_51 ?_
        refine va_put (D := g.1) (ci := 0) (v := .int (q1.2.2 + ((Ah 1) q1.1.toNatClampNeg))) (ty := .int) (C := RX0) (T := TX0) (N := 3) hx hb (dr_words hts d) (fun w h => List.mem_cons_of_mem _ (List.mem_append_left _ (List.mem_append_right _ h))) tyX0 tyX0_ok nmX0 (hown d) (hK d) hP hD hS 0 rfl rfl 1 (by decide) ((dr_words hts d) (.fieldLink RX0 15 "PauseRegions$Choice" "youngCells" "I") (List.mem_of_getElem? (i := 2) rfl)) (fun _ h9 => h9) rfl (by decide +kernel) rfl rfl (Nat.le_of_ble_eq_true rfl) dX0_choose_52 (fun H locs hP hD hS => ?_)
        obtain ⟨yc2, eyc2, hst1⟩ := bd_some hst1
        have hP : va_P g.1 vwCl ((wC g a0 rg2 yc2 fc) ++ (wH g adh Ah Fh)) H := by rw [eyc2]; exact hP
        have hD : va_D Z ((wC g a0 rg2 yc2 fc) ++ (wH g adh Ah Fh)) := by rw [eyc2]; exact hD
        refine lv_iinc (v := q1.1 + 1) (lv' := [(3, .int (q1.1 + 1)), (0, .ref a0), (1, .ref (adh 0)), (2, .int p1)]) hx hb dX0_choose_55 hl (k := 0) rfl rfl (by decide) rfl (fun ls hl => ?_)
        refine lv_goto (tgt := 12) hx hb dX0_choose_58 (by decide) ?_
        exact hin1 _ H locs ls () _ (Option.some.inj hst1).symm hdr trivial hP hD hS (lv_sub hl [0, 1, 2, 3] rfl)
