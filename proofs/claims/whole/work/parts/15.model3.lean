def sX7_laysLeads_L2 (p0 : Int32) (q1 : Int32 × IA) : Option ((Int32 × IA) ⊕ (IA)) :=
  if 32 ≤ q1.1 then (some (.inr q1.2)) else (if q1.1 = p0 then (ck q1.1 32 (bd (wr q1.2 25 q1.1.toNatClampNeg 1) fun A2 => some (.inl (q1.1 + 1, A2)))) else (ck q1.1 32 (bd (wr q1.2 25 q1.1.toNatClampNeg 0) fun A1 => some (.inl (q1.1 + 1, A1)))))
def sX7_laysLeads_L54 (q3 : Int32 × IA) (q4 : Int32 × IA) (q5 : Int32 × IA) : Option ((Int32 × IA) ⊕ (IA)) :=
  if 32 ≤ q5.1 then (some (.inr q5.2)) else (ck q4.1 32 (if ((q5.2 24) q4.1.toNatClampNeg) = q3.1 then (ck q4.1 32 (if ((q5.2 25) q4.1.toNatClampNeg) = 0 then (ck q5.1 32 (if ((q5.2 25) q5.1.toNatClampNeg) = 0 then (ck q4.1 32 (bd (wr q5.2 25 q4.1.toNatClampNeg 0) fun A4 => some (.inl (q5.1 + 1, A4)))) else (ck q5.1 32 (if ((q5.2 24) q5.1.toNatClampNeg) = (q3.1 + 1) then ((sX7_isFieldOf q5.2 q4.1 q5.1).bind fun x2 => if x2 = 0 then (ck q4.1 32 (bd (wr q5.2 25 q4.1.toNatClampNeg 0) fun A6 => some (.inl (q5.1 + 1, A6)))) else (ck q4.1 32 (bd (wr q5.2 25 q4.1.toNatClampNeg 1) fun A7 => some (.inl (q5.1 + 1, A7))))) else (ck q4.1 32 (bd (wr q5.2 25 q4.1.toNatClampNeg 0) fun A5 => some (.inl (q5.1 + 1, A5)))))))) else (ck q4.1 32 (bd (wr q5.2 25 q4.1.toNatClampNeg 1) fun A3 => some (.inl (q5.1 + 1, A3)))))) else (some (.inr q5.2))))
def sX7_laysLeads_L45 (q3 : Int32 × IA) (q4 : Int32 × IA) : Option ((Int32 × IA) ⊕ (IA)) :=
  if 32 ≤ q4.1 then (some (.inr q4.2)) else ((loopN (sX7_laysLeads_L54 q3 q4) 2000 (0, q4.2)).bind fun q6 => some (.inl (q4.1 + 1, q6)))
def sX7_laysLeads_L39 (q3 : Int32 × IA) : Option ((Int32 × IA) ⊕ (IA)) :=
  if q3.1 ≤ 0 then (some (.inr q3.2)) else ((loopN (sX7_laysLeads_L45 q3) 2000 (0, q3.2)).bind fun q7 => some (.inl ((q3.1 + (-1), q7))))
def sX7_laysLeads (A : IA) (p0 : Int32) : Option (IA) :=
  (loopN (sX7_laysLeads_L2 p0) 2000 (0, A)).bind fun q2 => ck p0 32 (bd (((q2 24) p0.toNatClampNeg) - 1) fun x1 => (loopN (sX7_laysLeads_L39) 2000 (x1, q2)).bind fun q8 => some q8)
abbrev rmX7_laysLeads : Room := { frames := 2, cells := 0, slots := 0, locals := 44 }
theorem hdX7_laysLeads : yX7_laysLeads.cls = RX7 ∧ yX7_laysLeads.cls ≠ "java/lang/invoke/MethodHandle" ∧ yX7_laysLeads.cls ≠ "java/lang/invoke/VarHandle" ∧ (parseMethodDescriptor yX7_laysLeads.desc).map (fun d => d.parameters.length) = some 1 := by decide +kernel
set_option maxHeartbeats 4000000 in
set_option maxRecDepth 100000 in
theorem kX7_laysLeads {l : Launch} {g : GG} {sz : Nat} {ad : Nat → Nat} {A : IA} {F : FA} {p0 : Int32} {b : IA} (hsem : sX7_laysLeads A p0 = some b) : MetV l yX7_laysLeads wsX7_laysLeads rmX7_laysLeads g [.ref (ad 0), .int p0] (wM g ad A F) sz (wM g ad b F) := by
  refine Met.ofW (cc := cX7_laysLeads) (maxL := 5) (ret := none) (by decide) rfl ?_
  intro p e s m args below meth c s₁ B hml hv
  obtain ⟨rfl, hsz, hP, hD0, hKK⟩ := hv
  subst hsz
  have hx := B.exec
  have hb := B.bytes
  have hr := B.returns
  have hts := atoms_spec (ws := wsX7_laysLeads) B.pre
  have hown : s.vm.findClass RX7 = some m.cls := findClass_of_methodNamed B.named
  have hlocks := B.notSynchronized
  have hK := hKK.1
  have hD := hD0.self (sz := s.heap.size)
  generalize hZe : va_A (wM g ad A F) s.heap.size = Z at hD ⊢
  have hZ : ∀ q : Nat, s.heap.size ≤ q → Z q := fun q h => by rw [← hZe]; exact Or.inr h
  have hS : va_S Z s.heap s.heap [] := va_S.rf
  have hP : va_P g.1 vwCl (wM g ad A F) s.heap := hP
  have hD : va_D Z (wM g ad A F) := hD
  have hl := lv_entry ([.ref (ad 0), .int p0]) (n := 5) (Nat.le_of_ble_eq_true rfl)
  rw [lg_entry_eq]
  generalize (lg_sl ([.ref (ad 0), .int p0]) ++ List.replicate (5 - (lg_sl ([.ref (ad 0), .int p0])).length) Slot.unset).toArray = ls at hl ⊢
  have hl : lv_has ls 5 [(0, .ref (ad 0)), (1, .int p0)] := hl
  unfold sX7_laysLeads at hsem
  refine lv_iconst (v := 0) hx hb dX7_laysLeads_0 (by decide) ?_
  refine lv_istore_n (lv' := [(2, .int 0), (0, .ref (ad 0)), (1, .int p0)]) hx hb dX7_laysLeads_1 rfl hl (by decide) rfl (fun ls hl => ?_)
  obtain ⟨q2, hc1, hsem⟩ := bn_some hsem
  refine loopM (g := g) hc1 (fun (q1 : Int32 × IA) => [(2, .int q1.1), (0, .ref (ad 0)), (1, .int p0)]) (fun (q1 : IA) => [(0, .ref (ad 0)), (1, .int p0)]) (exit := 30) (fun (q1 : Int32 × IA) => wM g ad q1.2 F) (fun (q1 : IA) => wM g ad q1 F) hP hD hS (lv_sub hl [0, 1, 2] rfl) (fun H locs ls hP hD hS hl => ?_) (fun q1 r hst1 hin1 hout1 H locs ls hP hD hS hl => ?_)
  · have hP : va_P g.1 vwCl (wM g ad q2 F) H := hP
    have hD : va_D Z (wM g ad q2 F) := hD
    refine lv_aload_n hx hb dX7_laysLeads_30 rfl (lv_at hl 0 rfl) ?_
    refine va_get (D := g.1) (ci := 7) (v := .ref (ad 13)) (C := RX7) (T := TX7) (N := 26) hx hb hts (fun w h => List.mem_cons_of_mem _ (List.mem_append_right _ h)) hown hK hP 0 rfl rfl 24 (by decide) (hts (.fieldLink RX7 48 "PauseRegionsModel" "far" "[I") (List.mem_of_getElem? (i := 2) rfl)) (fun _ h9 => h9) rfl dX7_laysLeads_31 ?_
    refine lv_iload_n hx hb dX7_laysLeads_34 rfl (lv_at hl 1 rfl) ?_
    obtain ⟨h3, hsem⟩ := ck_some hsem
    refine va_iald (D := g.1) hx hb hK hP 13 0 rfl rfl h3 dX7_laysLeads_35 ?_
    refine lv_iconst (v := 1) hx hb dX7_laysLeads_36 (by decide) ?_
    refine lv_isub hx hb dX7_laysLeads_37 ?_
    obtain ⟨x1, ex1, hsem⟩ := bd_some hsem
    rw [← ex1]
    refine lv_istore_n (lv' := [(2, .int x1), (0, .ref (ad 0)), (1, .int p0)]) hx hb dX7_laysLeads_38 rfl hl (by decide) rfl (fun ls hl => ?_)
    obtain ⟨q8, hc5, hsem⟩ := bn_some hsem
    refine loopM (g := g) hc5 (fun (q3 : Int32 × IA) => [(2, .int q3.1), (0, .ref (ad 0))]) (fun (q3 : IA) => []) (exit := 142) (fun (q3 : Int32 × IA) => wM g ad q3.2 F) (fun (q3 : IA) => wM g ad q3 F) hP hD hS (lv_sub hl [0, 1] rfl) (fun H locs ls hP hD hS hl => ?_) (fun q3 r hst1 hin1 hout1 H locs ls hP hD hS hl => ?_)
    · have hP : va_P g.1 vwCl (wM g ad q8 F) H := hP
      have hD : va_D Z (wM g ad q8 F) := hD
      have eo := (Option.some.inj hsem).symm.symm
      subst eo
      exact W.vret hx hb hr (fun t ht hW => ⟨⟨(), rfl, trivial, ⟨by rw [ht]; exact hP, hD⟩⟩, hS.F ht⟩) hS.2.2 dX7_laysLeads_142
    · unfold sX7_laysLeads_L39 at hst1
      have hP : va_P g.1 vwCl (wM g ad q3.2 F) H := hP
      have hD : va_D Z (wM g ad q3.2 F) := hD
      refine lv_iload_n hx hb dX7_laysLeads_39 rfl (lv_at hl 0 rfl) ?_
      refine lv_if_le (tgt := 142) hx hb dX7_laysLeads_40 (by decide) (fun c3 => ?_) (fun c3 => ?_)
      · rw [if_pos c3] at hst1
        exact hout1 H locs ls _ (Option.some.inj hst1).symm hP hD hS (lv_sub hl [] rfl)
      · rw [if_neg c3] at hst1
        refine lv_iconst (v := 0) hx hb dX7_laysLeads_43 (by decide) ?_
        refine lv_istore_n (lv' := [(3, .int 0), (2, .int q3.1), (0, .ref (ad 0))]) hx hb dX7_laysLeads_44 rfl hl (by decide) rfl (fun ls hl => ?_)
        obtain ⟨q7, hc4, hst1⟩ := bn_some hst1
        refine loopM (g := g) hc4 (fun (q4 : Int32 × IA) => [(3, .int q4.1), (2, .int q3.1), (0, .ref (ad 0))]) (fun (q4 : IA) => [(2, .int q3.1), (0, .ref (ad 0))]) (exit := 136) (fun (q4 : Int32 × IA) => wM g ad q4.2 F) (fun (q4 : IA) => wM g ad q4 F) hP hD hS (lv_sub hl [0, 1, 2] rfl) (fun H locs ls hP hD hS hl => ?_) (fun q4 r hst2 hin2 hout2 H locs ls hP hD hS hl => ?_)
        · have hP : va_P g.1 vwCl (wM g ad q7 F) H := hP
          have hD : va_D Z (wM g ad q7 F) := hD
          refine lv_iinc (v := q3.1 + (-1)) (lv' := [(2, .int (q3.1 + (-1))), (0, .ref (ad 0))]) hx hb dX7_laysLeads_136 hl (k := 0) rfl rfl (by decide) rfl (fun ls hl => ?_)
          refine lv_goto (tgt := 39) hx hb dX7_laysLeads_139 (by decide) ?_
          exact hin1 H locs ls _ (Option.some.inj hst1).symm hP hD hS (lv_sub hl [0, 1] rfl)
        · unfold sX7_laysLeads_L45 at hst2
          have hP : va_P g.1 vwCl (wM g ad q4.2 F) H := hP
          have hD : va_D Z (wM g ad q4.2 F) := hD
          refine lv_iload_n hx hb dX7_laysLeads_45 rfl (lv_at hl 0 rfl) ?_
          refine lv_bipush (v := 32) hx hb dX7_laysLeads_46 (by decide) ?_
          refine lv_icmp_ge (tgt := 136) hx hb dX7_laysLeads_48 (by decide) (fun c4 => ?_) (fun c4 => ?_)
          · rw [if_pos c4] at hst2
            exact hout2 H locs ls _ (Option.some.inj hst2).symm hP hD hS (lv_sub hl [1, 2] rfl)
          · rw [if_neg c4] at hst2
            refine lv_iconst (v := 0) hx hb dX7_laysLeads_51 (by decide) ?_
            refine lv_istore (lv' := [(4, .int 0), (3, .int q4.1), (2, .int q3.1), (0, .ref (ad 0))]) hx hb dX7_laysLeads_52 hl (by decide) rfl (fun ls hl => ?_)
            obtain ⟨q6, hc3, hst2⟩ := bn_some hst2
            refine loopM (g := g) hc3 (fun (q5 : Int32 × IA) => [(4, .int q5.1), (3, .int q4.1), (2, .int q3.1), (0, .ref (ad 0))]) (fun (q5 : IA) => [(3, .int q4.1), (2, .int q3.1), (0, .ref (ad 0))]) (exit := 130) (fun (q5 : Int32 × IA) => wM g ad q5.2 F) (fun (q5 : IA) => wM g ad q5 F) hP hD hS (lv_sub hl [0, 1, 2, 3] rfl) (fun H locs ls hP hD hS hl => ?_) (fun q5 r hst3 hin3 hout3 H locs ls hP hD hS hl => ?_)
            · have hP : va_P g.1 vwCl (wM g ad q6 F) H := hP
              have hD : va_D Z (wM g ad q6 F) := hD
              refine lv_iinc (v := q4.1 + 1) (lv' := [(3, .int (q4.1 + 1)), (2, .int q3.1), (0, .ref (ad 0))]) hx hb dX7_laysLeads_130 hl (k := 0) rfl rfl (by decide) rfl (fun ls hl => ?_)
              refine lv_goto (tgt := 45) hx hb dX7_laysLeads_133 (by decide) ?_
              exact hin2 H locs ls _ (Option.some.inj hst2).symm hP hD hS (lv_sub hl [0, 1, 2] rfl)
            · unfold sX7_laysLeads_L54 at hst3
              have hP : va_P g.1 vwCl (wM g ad q5.2 F) H := hP
              have hD : va_D Z (wM g ad q5.2 F) := hD
              refine lv_iload hx hb dX7_laysLeads_54 (lv_at hl 0 rfl) ?_
              refine lv_bipush (v := 32) hx hb dX7_laysLeads_56 (by decide) ?_
              refine lv_icmp_ge (tgt := 130) hx hb dX7_laysLeads_58 (by decide) (fun c5 => ?_) (fun c5 => ?_)
              · rw [if_pos c5] at hst3
                exact hout3 H locs ls _ (Option.some.inj hst3).symm hP hD hS (lv_sub hl [1, 2, 3] rfl)
              · rw [if_neg c5] at hst3
                refine lv_aload_n hx hb dX7_laysLeads_61 rfl (lv_at hl 3 rfl) ?_
                refine va_get (D := g.1) (ci := 7) (v := .ref (ad 13)) (C := RX7) (T := TX7) (N := 26) hx hb hts (fun w h => List.mem_cons_of_mem _ (List.mem_append_right _ h)) hown hK hP 0 rfl rfl 24 (by decide) (hts (.fieldLink RX7 48 "PauseRegionsModel" "far" "[I") (List.mem_of_getElem? (i := 2) rfl)) (fun _ h9 => h9) rfl dX7_laysLeads_62 ?_
                refine lv_iload_n hx hb dX7_laysLeads_65 rfl (lv_at hl 1 rfl) ?_
                obtain ⟨h4, hst3⟩ := ck_some hst3
                refine va_iald (D := g.1) hx hb hK hP 13 0 rfl rfl h4 dX7_laysLeads_66 ?_
                refine lv_iload_n hx hb dX7_laysLeads_67 rfl (lv_at hl 2 rfl) ?_
                refine lv_icmp_ne (tgt := 130) hx hb dX7_laysLeads_68 (by decide) (fun c6 => ?_) (fun c6 => ?_)
                · rw [if_neg c6] at hst3
                  exact hout3 H locs ls _ (Option.some.inj hst3).symm hP hD hS (lv_sub hl [1, 2, 3] rfl)
                · rw [if_pos c6] at hst3
                  refine lv_aload_n hx hb dX7_laysLeads_71 rfl (lv_at hl 3 rfl) ?_
                  refine va_get (D := g.1) (ci := 7) (v := .ref (ad 14)) (C := RX7) (T := TX7) (N := 26) hx hb hts (fun w h => List.mem_cons_of_mem _ (List.mem_append_right _ h)) hown hK hP 0 rfl rfl 25 (by decide) (hts (.fieldLink RX7 51 "PauseRegionsModel" "leads" "[Z") (List.mem_of_getElem? (i := 1) rfl)) (fun _ h9 => h9) rfl dX7_laysLeads_72 ?_
                  refine lv_iload_n hx hb dX7_laysLeads_75 rfl (lv_at hl 1 rfl) ?_
                  refine lv_aload_n hx hb dX7_laysLeads_76 rfl (lv_at hl 3 rfl) ?_
                  refine va_get (D := g.1) (ci := 7) (v := .ref (ad 14)) (C := RX7) (T := TX7) (N := 26) hx hb hts (fun w h => List.mem_cons_of_mem _ (List.mem_append_right _ h)) hown hK hP 0 rfl rfl 25 (by decide) (hts (.fieldLink RX7 51 "PauseRegionsModel" "leads" "[Z") (List.mem_of_getElem? (i := 1) rfl)) (fun _ h9 => h9) rfl dX7_laysLeads_77 ?_
                  refine lv_iload_n hx hb dX7_laysLeads_80 rfl (lv_at hl 1 rfl) ?_
                  obtain ⟨h5, hst3⟩ := ck_some hst3
                  refine va_zald (D := g.1) hx hb hK hP 14 1 rfl rfl h5 dX7_laysLeads_81 ?_
                  refine lv_if_ne (tgt := 118) hx hb dX7_laysLeads_82 (by decide) (fun c7 => ?_) (fun c7 => ?_)
                  · rw [if_neg c7] at hst3
                    refine lv_iconst (v := 1) hx hb dX7_laysLeads_118 (by decide) ?_
                    refine lv_goto (tgt := 123) hx hb dX7_laysLeads_119 (by decide) ?_
                    obtain ⟨h6, hst3⟩ := ck_some hst3
                    refine va_zast (D := g.1) hx hb hK hP hD hS 14 1 rfl rfl h6 dX7_laysLeads_123 (fun H locs hP hD hS => ?_)
                    obtain ⟨A3, eA3, hst3⟩ := bd_some hst3
                    have hP : va_P g.1 vwCl (wM g ad A3 F) H := by rw [eA3]; exact hP
                    have hD : va_D Z (wM g ad A3 F) := by rw [eA3]; exact hD
                    refine lv_iinc (v := q5.1 + 1) (lv' := [(4, .int (q5.1 + 1)), (3, .int q4.1), (2, .int q3.1), (0, .ref (ad 0))]) hx hb dX7_laysLeads_124 hl (k := 0) rfl rfl (by decide) rfl (fun ls hl => ?_)
                    refine lv_goto (tgt := 54) hx hb dX7_laysLeads_127 (by decide) ?_
                    exact hin3 H locs ls _ (Option.some.inj hst3).symm hP hD hS (lv_sub hl [0, 1, 2, 3] rfl)
                  · rw [if_pos c7] at hst3
                    refine lv_aload_n hx hb dX7_laysLeads_85 rfl (lv_at hl 3 rfl) ?_
                    refine va_get (D := g.1) (ci := 7) (v := .ref (ad 14)) (C := RX7) (T := TX7) (N := 26) hx hb hts (fun w h => List.mem_cons_of_mem _ (List.mem_append_right _ h)) hown hK hP 0 rfl rfl 25 (by decide) (hts (.fieldLink RX7 51 "PauseRegionsModel" "leads" "[Z") (List.mem_of_getElem? (i := 1) rfl)) (fun _ h9 => h9) rfl dX7_laysLeads_86 ?_
                    refine lv_iload hx hb dX7_laysLeads_89 (lv_at hl 0 rfl) ?_
                    obtain ⟨h7, hst3⟩ := ck_some hst3
                    refine va_zald (D := g.1) hx hb hK hP 14 1 rfl rfl h7 dX7_laysLeads_91 ?_
                    refine lv_if_eq (tgt := 122) hx hb dX7_laysLeads_92 (by decide) (fun c8 => ?_) (fun c8 => ?_)
                    · rw [if_pos c8] at hst3
                      refine lv_iconst (v := 0) hx hb dX7_laysLeads_122 (by decide) ?_
                      obtain ⟨h8, hst3⟩ := ck_some hst3
                      refine va_zast (D := g.1) hx hb hK hP hD hS 14 1 rfl rfl h8 dX7_laysLeads_123 (fun H locs hP hD hS => ?_)
                      obtain ⟨A4, eA4, hst3⟩ := bd_some hst3
                      have hP : va_P g.1 vwCl (wM g ad A4 F) H := by rw [eA4]; exact hP
                      have hD : va_D Z (wM g ad A4 F) := by rw [eA4]; exact hD
                      refine lv_iinc (v := q5.1 + 1) (lv' := [(4, .int (q5.1 + 1)), (3, .int q4.1), (2, .int q3.1), (0, .ref (ad 0))]) hx hb dX7_laysLeads_124 hl (k := 0) rfl rfl (by decide) rfl (fun ls hl => ?_)
                      refine lv_goto (tgt := 54) hx hb dX7_laysLeads_127 (by decide) ?_
                      exact hin3 H locs ls _ (Option.some.inj hst3).symm hP hD hS (lv_sub hl [0, 1, 2, 3] rfl)
                    · rw [if_neg c8] at hst3
                      refine lv_aload_n hx hb dX7_laysLeads_95 rfl (lv_at hl 3 rfl) ?_
                      refine va_get (D := g.1) (ci := 7) (v := .ref (ad 13)) (C := RX7) (T := TX7) (N := 26) hx hb hts (fun w h => List.mem_cons_of_mem _ (List.mem_append_right _ h)) hown hK hP 0 rfl rfl 24 (by decide) (hts (.fieldLink RX7 48 "PauseRegionsModel" "far" "[I") (List.mem_of_getElem? (i := 2) rfl)) (fun _ h9 => h9) rfl dX7_laysLeads_96 ?_
                      refine lv_iload hx hb dX7_laysLeads_99 (lv_at hl 0 rfl) ?_
                      obtain ⟨h9, hst3⟩ := ck_some hst3
                      refine va_iald (D := g.1) hx hb hK hP 13 0 rfl rfl h9 dX7_laysLeads_101 ?_
                      refine lv_iload_n hx hb dX7_laysLeads_102 rfl (lv_at hl 2 rfl) ?_
                      refine lv_iconst (v := 1) hx hb dX7_laysLeads_103 (by decide) ?_
                      refine lv_iadd hx hb dX7_laysLeads_104 ?_
                      refine lv_icmp_ne (tgt := 122) hx hb dX7_laysLeads_105 (by decide) (fun c9 => ?_) (fun c9 => ?_)
                      · rw [if_neg c9] at hst3
                        refine lv_iconst (v := 0) hx hb dX7_laysLeads_122 (by decide) ?_
                        obtain ⟨h10, hst3⟩ := ck_some hst3
                        refine va_zast (D := g.1) hx hb hK hP hD hS 14 1 rfl rfl h10 dX7_laysLeads_123 (fun H locs hP hD hS => ?_)
                        obtain ⟨A5, eA5, hst3⟩ := bd_some hst3
                        have hP : va_P g.1 vwCl (wM g ad A5 F) H := by rw [eA5]; exact hP
                        have hD : va_D Z (wM g ad A5 F) := by rw [eA5]; exact hD
                        refine lv_iinc (v := q5.1 + 1) (lv' := [(4, .int (q5.1 + 1)), (3, .int q4.1), (2, .int q3.1), (0, .ref (ad 0))]) hx hb dX7_laysLeads_124 hl (k := 0) rfl rfl (by decide) rfl (fun ls hl => ?_)
                        refine lv_goto (tgt := 54) hx hb dX7_laysLeads_127 (by decide) ?_
                        exact hin3 H locs ls _ (Option.some.inj hst3).symm hP hD hS (lv_sub hl [0, 1, 2, 3] rfl)
                      · rw [if_pos c9] at hst3
                        refine lv_aload_n hx hb dX7_laysLeads_108 rfl (lv_at hl 3 rfl) ?_
                        refine lv_iload_n hx hb dX7_laysLeads_109 rfl (lv_at hl 1 rfl) ?_
                        refine lv_iload hx hb dX7_laysLeads_110 (lv_at hl 0 rfl) ?_
                        obtain ⟨x2, hc2, hst3⟩ := bn_some hst3
                        refine pcV (C := RX7) (As := [.int q4.1, .int q5.1]) (rest := [.int q4.1, .ref (ad 14)]) ⟨hx, hb, hml, hown, hts⟩ hKK (cwV 2 hts gX7_laysLeads_X7_isFieldOf rfl rfl rfl hdX7_isFieldOf ⟨Nat.le_of_ble_eq_true rfl, Nat.le_of_ble_eq_true rfl⟩) (kX7_isFieldOf (l := l) (g := g) hP hc2) (va_recv hK hP (ci := 7) (q0 := 0) rfl rfl) rfl hl.1 rfl (Nat.le_of_ble_eq_true rfl) dX7_laysLeads_112 ⟨Nat.zero_le _, Nat.zero_le _⟩ ?_
                        refine lv_if_eq (tgt := 122) hx hb dX7_laysLeads_115 (by decide) (fun c10 => ?_) (fun c10 => ?_)
                        · rw [if_pos c10] at hst3
                          refine lv_iconst (v := 0) hx hb dX7_laysLeads_122 (by decide) ?_
                          obtain ⟨h11, hst3⟩ := ck_some hst3
                          refine va_zast (D := g.1) hx hb hK hP hD hS 14 1 rfl rfl h11 dX7_laysLeads_123 (fun H locs hP hD hS => ?_)
                          obtain ⟨A6, eA6, hst3⟩ := bd_some hst3
                          have hP : va_P g.1 vwCl (wM g ad A6 F) H := by rw [eA6]; exact hP
                          have hD : va_D Z (wM g ad A6 F) := by rw [eA6]; exact hD
                          refine lv_iinc (v := q5.1 + 1) (lv' := [(4, .int (q5.1 + 1)), (3, .int q4.1), (2, .int q3.1), (0, .ref (ad 0))]) hx hb dX7_laysLeads_124 hl (k := 0) rfl rfl (by decide) rfl (fun ls hl => ?_)
                          refine lv_goto (tgt := 54) hx hb dX7_laysLeads_127 (by decide) ?_
                          exact hin3 H locs ls _ (Option.some.inj hst3).symm hP hD hS (lv_sub hl [0, 1, 2, 3] rfl)
                        · rw [if_neg c10] at hst3
                          refine lv_iconst (v := 1) hx hb dX7_laysLeads_118 (by decide) ?_
                          refine lv_goto (tgt := 123) hx hb dX7_laysLeads_119 (by decide) ?_
                          obtain ⟨h12, hst3⟩ := ck_some hst3
                          refine va_zast (D := g.1) hx hb hK hP hD hS 14 1 rfl rfl h12 dX7_laysLeads_123 (fun H locs hP hD hS => ?_)
                          obtain ⟨A7, eA7, hst3⟩ := bd_some hst3
                          have hP : va_P g.1 vwCl (wM g ad A7 F) H := by rw [eA7]; exact hP
                          have hD : va_D Z (wM g ad A7 F) := by rw [eA7]; exact hD
                          refine lv_iinc (v := q5.1 + 1) (lv' := [(4, .int (q5.1 + 1)), (3, .int q4.1), (2, .int q3.1), (0, .ref (ad 0))]) hx hb dX7_laysLeads_124 hl (k := 0) rfl rfl (by decide) rfl (fun ls hl => ?_)
                          refine lv_goto (tgt := 54) hx hb dX7_laysLeads_127 (by decide) ?_
                          exact hin3 H locs ls _ (Option.some.inj hst3).symm hP hD hS (lv_sub hl [0, 1, 2, 3] rfl)
  · unfold sX7_laysLeads_L2 at hst1
    have hP : va_P g.1 vwCl (wM g ad q1.2 F) H := hP
    have hD : va_D Z (wM g ad q1.2 F) := hD
    refine lv_iload_n hx hb dX7_laysLeads_2 rfl (lv_at hl 0 rfl) ?_
    refine lv_bipush (v := 32) hx hb dX7_laysLeads_3 (by decide) ?_
    refine lv_icmp_ge (tgt := 30) hx hb dX7_laysLeads_5 (by decide) (fun c1 => ?_) (fun c1 => ?_)
    · rw [if_pos c1] at hst1
      exact hout1 H locs ls _ (Option.some.inj hst1).symm hP hD hS (lv_sub hl [1, 2] rfl)
    · rw [if_neg c1] at hst1
      refine lv_aload_n hx hb dX7_laysLeads_8 rfl (lv_at hl 1 rfl) ?_
      refine va_get (D := g.1) (ci := 7) (v := .ref (ad 14)) (C := RX7) (T := TX7) (N := 26) hx hb hts (fun w h => List.mem_cons_of_mem _ (List.mem_append_right _ h)) hown hK hP 0 rfl rfl 25 (by decide) (hts (.fieldLink RX7 51 "PauseRegionsModel" "leads" "[Z") (List.mem_of_getElem? (i := 1) rfl)) (fun _ h9 => h9) rfl dX7_laysLeads_9 ?_
      refine lv_iload_n hx hb dX7_laysLeads_12 rfl (lv_at hl 0 rfl) ?_
      refine lv_iload_n hx hb dX7_laysLeads_13 rfl (lv_at hl 0 rfl) ?_
      refine lv_iload_n hx hb dX7_laysLeads_14 rfl (lv_at hl 2 rfl) ?_
      refine lv_icmp_ne (tgt := 22) hx hb dX7_laysLeads_15 (by decide) (fun c2 => ?_) (fun c2 => ?_)
      · rw [if_neg c2] at hst1
        refine lv_iconst (v := 0) hx hb dX7_laysLeads_22 (by decide) ?_
        obtain ⟨h1, hst1⟩ := ck_some hst1
        refine va_zast (D := g.1) hx hb hK hP hD hS 14 1 rfl rfl h1 dX7_laysLeads_23 (fun H locs hP hD hS => ?_)
        obtain ⟨A1, eA1, hst1⟩ := bd_some hst1
        have hP : va_P g.1 vwCl (wM g ad A1 F) H := by rw [eA1]; exact hP
        have hD : va_D Z (wM g ad A1 F) := by rw [eA1]; exact hD
        refine lv_iinc (v := q1.1 + 1) (lv' := [(2, .int (q1.1 + 1)), (0, .ref (ad 0)), (1, .int p0)]) hx hb dX7_laysLeads_24 hl (k := 0) rfl rfl (by decide) rfl (fun ls hl => ?_)
        refine lv_goto (tgt := 2) hx hb dX7_laysLeads_27 (by decide) ?_
        exact hin1 H locs ls _ (Option.some.inj hst1).symm hP hD hS (lv_sub hl [0, 1, 2] rfl)
      · rw [if_pos c2] at hst1
        refine lv_iconst (v := 1) hx hb dX7_laysLeads_18 (by decide) ?_
        refine lv_goto (tgt := 23) hx hb dX7_laysLeads_19 (by decide) ?_
        obtain ⟨h2, hst1⟩ := ck_some hst1
        refine va_zast (D := g.1) hx hb hK hP hD hS 14 1 rfl rfl h2 dX7_laysLeads_23 (fun H locs hP hD hS => ?_)
        obtain ⟨A2, eA2, hst1⟩ := bd_some hst1
        have hP : va_P g.1 vwCl (wM g ad A2 F) H := by rw [eA2]; exact hP
        have hD : va_D Z (wM g ad A2 F) := by rw [eA2]; exact hD
        refine lv_iinc (v := q1.1 + 1) (lv' := [(2, .int (q1.1 + 1)), (0, .ref (ad 0)), (1, .int p0)]) hx hb dX7_laysLeads_24 hl (k := 0) rfl rfl (by decide) rfl (fun ls hl => ?_)
        refine lv_goto (tgt := 2) hx hb dX7_laysLeads_27 (by decide) ?_
        exact hin1 H locs ls _ (Option.some.inj hst1).symm hP hD hS (lv_sub hl [0, 1, 2] rfl)
def sX7_learns_L7 (A : IA) (q1 : Int32 × Int32 × Int32) : Option ((Int32 × Int32 × Int32) ⊕ (Int32 × Int32)) :=
  if (A 14 0) ≤ q1.2.2 then (some (.inr (q1.1, q1.2.1))) else (ck q1.2.2 32 ((sX7_ofThing A ((A 15) q1.2.2.toNatClampNeg) 0).bind fun x1 => bd (q1.1 + x1) fun x2 => ck q1.2.2 32 (ck ((A 15) q1.2.2.toNatClampNeg) 32 (if (((A 23 0) >>> (((A 17) ((A 15) q1.2.2.toNatClampNeg).toNatClampNeg) &&& 31)) &&& 1) = 1 then (bd (q1.2.1 + x1) fun x4 => some (.inl (x2, x4, q1.2.2 + 1))) else (bd (q1.2.1 + 0) fun x3 => some (.inl (x2, x3, q1.2.2 + 1)))))))
def sX7_learns (A : IA) (Fc : FA) (p0 : Int32) : Option (IA × FA) :=
  (loopN (sX7_learns_L7 A) 2000 (0, 0, 0)).bind fun q2 => if q2.1 ≤ 0 then (if (A 13 0) ≤ 0 then (some (A, Fc)) else (bd (wrF Fc 2 ((Int32.toNatClampNeg 1)) (FP.fadd (FP.fmul 1061158912 (Fc 2 (Int32.toNatClampNeg 1))) (FP.fmul 1048576000 (FP.fdiv (FP.i2f q2.2) (FP.i2f (A 13 0)))))) fun F1c => some (A, F1c))) else (bd (wrF Fc 2 ((Int32.toNatClampNeg 0)) (FP.fadd (FP.fmul 1061158912 (Fc 2 (Int32.toNatClampNeg 0))) (FP.fmul 1048576000 (FP.fdiv (FP.i2f (p0 - 10)) (FP.i2f q2.1))))) fun F2c => if (A 13 0) ≤ 0 then (some (A, F2c)) else (bd (wrF F2c 2 ((Int32.toNatClampNeg 1)) (FP.fadd (FP.fmul 1061158912 (F2c 2 (Int32.toNatClampNeg 1))) (FP.fmul 1048576000 (FP.fdiv (FP.i2f q2.2) (FP.i2f (A 13 0)))))) fun F3c => some (A, F3c)))
abbrev rmX7_learns : Room := { frames := 1, cells := 0, slots := 0, locals := 22 }
theorem hdX7_learns : yX7_learns.cls = RX7 ∧ yX7_learns.cls ≠ "java/lang/invoke/MethodHandle" ∧ yX7_learns.cls ≠ "java/lang/invoke/VarHandle" ∧ (parseMethodDescriptor yX7_learns.desc).map (fun d => d.parameters.length) = some 1 := by decide +kernel
set_option maxHeartbeats 4000000 in
set_option maxRecDepth 100000 in
theorem kX7_learns {l : Launch} {g : GG} {sz : Nat} {ad : Nat → Nat} {A : IA} {F : FA} {p0 : Int32} {Fc : FA} (hAL : AL F Fc) {b : IA × FA} (hsem : sX7_learns A Fc p0 = some b) : MetDV l yX7_learns wsX7_learns rmX7_learns g [.ref (ad 0), .int p0] (wM g ad A F) sz (φ := FA) (fun u => AL u b.2) (fun u => wM g ad b.1 u) := by
  refine MetD.ofW (cc := cX7_learns) (maxL := 6) (ret := none) (by decide) rfl ?_
  intro p e s m args below meth c s₁ B hml hv hdr
  obtain ⟨rfl, hsz, hP, hD0, hKK⟩ := hv
  subst hsz
  have hx := B.exec
  have hb := B.bytes
  have hr := B.returns
  have hts := atoms_spec (ws := wsX7_learns) B.pre
  have hown : ∀ d, (s.setDrawn d).vm.findClass RX7 = some m.cls := fun _ => findClass_of_methodNamed B.named
  have hlocks := B.notSynchronized
  have hK : ∀ d, va_K g.1 vwCl (KT g) (s.setDrawn d) := fun d => (hKK.drawn d).1
  have hD := hD0.self (sz := s.heap.size)
  generalize hZe : va_A (wM g ad A F) s.heap.size = Z at hD ⊢
  have hZ : ∀ q : Nat, s.heap.size ≤ q → Z q := fun q h => by rw [← hZe]; exact Or.inr h
  have hS : va_S Z s.heap s.heap [] := va_S.rf
  have hP : va_P g.1 vwCl (wM g ad A F) s.heap := hP
  have hD : va_D Z (wM g ad A F) := hD
  obtain ⟨d, hdr, hdd⟩ : ∃ d, s.drawn.sameBut d lw_cs ∧ s.drawn = d := ⟨_, hdr, rfl⟩
  rw [hdd]
  have hl := lv_entry ([.ref (ad 0), .int p0]) (n := 6) (Nat.le_of_ble_eq_true rfl)
  rw [lg_entry_eq]
  generalize (lg_sl ([.ref (ad 0), .int p0]) ++ List.replicate (6 - (lg_sl ([.ref (ad 0), .int p0])).length) Slot.unset).toArray = ls at hl ⊢
  have hl : lv_has ls 6 [(0, .ref (ad 0)), (1, .int p0)] := hl
  unfold sX7_learns at hsem
  refine lv_iconst (v := 0) hx hb dX7_learns_0 (by decide) ?_
  refine lv_istore_n (lv' := [(2, .int 0), (0, .ref (ad 0)), (1, .int p0)]) hx hb dX7_learns_1 rfl hl (by decide) rfl (fun ls hl => ?_)
  refine lv_iconst (v := 0) hx hb dX7_learns_2 (by decide) ?_
  refine lv_istore_n (lv' := [(3, .int 0), (2, .int 0), (0, .ref (ad 0)), (1, .int p0)]) hx hb dX7_learns_3 rfl hl (by decide) rfl (fun ls hl => ?_)
  refine lv_iconst (v := 0) hx hb dX7_learns_4 (by decide) ?_
  refine lv_istore (lv' := [(4, .int 0), (3, .int 0), (2, .int 0), (0, .ref (ad 0)), (1, .int p0)]) hx hb dX7_learns_5 hl (by decide) rfl (fun ls hl => ?_)
  obtain ⟨q2, hc2, hsem⟩ := bn_some hsem
  refine loopMD (g := g) hdr hc2 (fun (q1 : Int32 × Int32 × Int32) => [(4, .int q1.2.2), (3, .int q1.2.1), (2, .int q1.1), (0, .ref (ad 0)), (1, .int p0)]) (fun (q1 : Int32 × Int32) => [(3, .int q1.2), (2, .int q1.1), (0, .ref (ad 0)), (1, .int p0)]) (exit := 73) (fun (q1 : Int32 × Int32 × Int32) (fz1 : Unit) => wM g ad A F) (fun (q1 : Int32 × Int32) (fz1 : Unit) => wM g ad A F) (fun (_ : Int32 × Int32 × Int32) (_ : Unit) => True) (fun (_ : Int32 × Int32) (_ : Unit) => True) () trivial hP hD hS (lv_sub hl [0, 1, 2, 3, 4] rfl) (fun d H locs ls fz1 hdr hrfz1 hP hD hS hl => ?_) (fun q1 r hst1 hin1 hout1 d H locs ls fz1 hdr hrfz1 hP hD hS hl => ?_)
  · have hP : va_P g.1 vwCl (wM g ad A F) H := hP
    have hD : va_D Z (wM g ad A F) := hD
    refine lv_iload_n hx hb dX7_learns_73 rfl (lv_at hl 1 rfl) ?_
    refine lv_if_le (tgt := 104) hx hb dX7_learns_74 (by decide) (fun c3 => ?_) (fun c3 => ?_)
    · rw [if_pos c3] at hsem
      refine lv_aload_n hx hb dX7_learns_104 rfl (lv_at hl 2 rfl) ?_
      refine va_get (D := g.1) (ci := 7) (v := .int (A 13 0)) (C := RX7) (T := TX7) (N := 26) hx hb (dr_words hts d) (fun w h => List.mem_cons_of_mem _ (List.mem_append_right _ h)) (hown d) (hK d) hP 0 rfl rfl 13 (by decide) ((dr_words hts d) (.fieldLink RX7 155 "PauseRegionsModel" "youngCells" "I") (List.mem_of_getElem? (i := 8) rfl)) (fun _ h9 => h9) rfl dX7_learns_105 ?_
      refine lv_if_le (tgt := 138) hx hb dX7_learns_108 (by decide) (fun c4 => ?_) (fun c4 => ?_)
      · rw [if_pos c4] at hsem
        have eo := (Option.some.inj hsem).symm.symm
        refine W.endD hdr ?_
        subst eo
        exact W.vret hx hb hr (fun t ht hW => ⟨⟨F, rfl, hAL, ⟨by rw [ht]; exact hP, hD⟩⟩, hS.F ht⟩) hS.2.2 dX7_learns_138
      · rw [if_neg c4] at hsem
        refine lv_aload_n hx hb dX7_learns_111 rfl (lv_at hl 2 rfl) ?_
        refine va_get (D := g.1) (ci := 7) (v := .ref (ad 2)) (C := RX7) (T := TX7) (N := 26) hx hb (dr_words hts d) (fun w h => List.mem_cons_of_mem _ (List.mem_append_right _ h)) (hown d) (hK d) hP 0 rfl rfl 2 (by decide) ((dr_words hts d) (.fieldLink RX7 13 "PauseRegionsModel" "learnt" "[F") (List.mem_of_getElem? (i := 5) rfl)) (fun _ h9 => h9) rfl dX7_learns_112 ?_
        refine lv_iconst (v := 1) hx hb dX7_learns_115 (by decide) ?_
        refine lv_ldcf hx hb (hown d) ((dr_words hts d) (.constantFloat RX7 199 (1061158912)) (List.mem_of_getElem? (i := 6) rfl)) dX7_learns_116 ?_
        refine lv_aload_n hx hb dX7_learns_118 rfl (lv_at hl 2 rfl) ?_
        refine va_get (D := g.1) (ci := 7) (v := .ref (ad 2)) (C := RX7) (T := TX7) (N := 26) hx hb (dr_words hts d) (fun w h => List.mem_cons_of_mem _ (List.mem_append_right _ h)) (hown d) (hK d) hP 0 rfl rfl 2 (by decide) ((dr_words hts d) (.fieldLink RX7 13 "PauseRegionsModel" "learnt" "[F") (List.mem_of_getElem? (i := 5) rfl)) (fun _ h9 => h9) rfl dX7_learns_119 ?_
        refine lv_iconst (v := 1) hx hb dX7_learns_122 (by decide) ?_
        have h4 : vp_in 1 2 := inb_vp rfl
        refine va_fald (D := g.1) hx hb (hK d) hP 2 2 rfl rfl h4 dX7_learns_123 ?_
        refine lv_fmul_any hdr lw_bits hx hb dX7_learns_124 (fun y1 d hal hdr => ?_)
        have ay1 := al_fmul hal (al_refl _) (hAL 2 _)
        refine lv_ldcf hx hb (hown d) ((dr_words hts d) (.constantFloat RX7 200 (1048576000)) (List.mem_of_getElem? (i := 7) rfl)) dX7_learns_125 ?_
        refine lv_iload_n hx hb dX7_learns_127 rfl (lv_at hl 0 rfl) ?_
        refine lv_i2f hx hb dX7_learns_128 ?_
        refine lv_aload_n hx hb dX7_learns_129 rfl (lv_at hl 2 rfl) ?_
        refine va_get (D := g.1) (ci := 7) (v := .int (A 13 0)) (C := RX7) (T := TX7) (N := 26) hx hb (dr_words hts d) (fun w h => List.mem_cons_of_mem _ (List.mem_append_right _ h)) (hown d) (hK d) hP 0 rfl rfl 13 (by decide) ((dr_words hts d) (.fieldLink RX7 155 "PauseRegionsModel" "youngCells" "I") (List.mem_of_getElem? (i := 8) rfl)) (fun _ h9 => h9) rfl dX7_learns_130 ?_
        refine lv_i2f hx hb dX7_learns_133 ?_
        refine lv_fdiv_any hdr lw_bits hx hb dX7_learns_134 (fun y2 d hal hdr => ?_)
        have ay2 := al_fdiv hal (al_refl _) (al_refl _)
        refine lv_fmul_any hdr lw_bits hx hb dX7_learns_135 (fun y3 d hal hdr => ?_)
        have ay3 := al_fmul hal (al_refl _) ay2
        refine lv_fadd_any hdr lw_bits hx hb dX7_learns_136 (fun y4 d hal hdr => ?_)
        have ay4 := al_fadd hal ay1 ay3
        have h5 : vp_in 1 2 := inb_vp rfl
        refine va_fast (D := g.1) hx hb (hK d) hP hD hS 2 2 rfl rfl h5 dX7_learns_137 (fun H locs hP hD hS => ?_)
        obtain ⟨F1, eF1⟩ : ∃ z, z = wrF F 2 ((Int32.toNatClampNeg 1)) y4 := ⟨_, rfl⟩
        obtain ⟨F1c, eF1c, hsem⟩ := bd_some hsem
        have haF1 : AL F1 F1c := by rw [eF1, eF1c]; exact AL.wr hAL ay4
        have hP : va_P g.1 vwCl (wM g ad A F1) H := by rw [eF1]; exact hP
        have hD : va_D Z (wM g ad A F1) := by rw [eF1]; exact hD
        have eo := (Option.some.inj hsem).symm.symm
        refine W.endD hdr ?_
        subst eo
        exact W.vret hx hb hr (fun t ht hW => ⟨⟨F1, rfl, haF1, ⟨by rw [ht]; exact hP, hD⟩⟩, hS.F ht⟩) hS.2.2 dX7_learns_138
    · rw [if_neg c3] at hsem
      refine lv_aload_n hx hb dX7_learns_77 rfl (lv_at hl 2 rfl) ?_
      refine va_get (D := g.1) (ci := 7) (v := .ref (ad 2)) (C := RX7) (T := TX7) (N := 26) hx hb (dr_words hts d) (fun w h => List.mem_cons_of_mem _ (List.mem_append_right _ h)) (hown d) (hK d) hP 0 rfl rfl 2 (by decide) ((dr_words hts d) (.fieldLink RX7 13 "PauseRegionsModel" "learnt" "[F") (List.mem_of_getElem? (i := 5) rfl)) (fun _ h9 => h9) rfl dX7_learns_78 ?_
      refine lv_iconst (v := 0) hx hb dX7_learns_81 (by decide) ?_
      refine lv_ldcf hx hb (hown d) ((dr_words hts d) (.constantFloat RX7 199 (1061158912)) (List.mem_of_getElem? (i := 6) rfl)) dX7_learns_82 ?_
      refine lv_aload_n hx hb dX7_learns_84 rfl (lv_at hl 2 rfl) ?_
      refine va_get (D := g.1) (ci := 7) (v := .ref (ad 2)) (C := RX7) (T := TX7) (N := 26) hx hb (dr_words hts d) (fun w h => List.mem_cons_of_mem _ (List.mem_append_right _ h)) (hown d) (hK d) hP 0 rfl rfl 2 (by decide) ((dr_words hts d) (.fieldLink RX7 13 "PauseRegionsModel" "learnt" "[F") (List.mem_of_getElem? (i := 5) rfl)) (fun _ h9 => h9) rfl dX7_learns_85 ?_
      refine lv_iconst (v := 0) hx hb dX7_learns_88 (by decide) ?_
      have h6 : vp_in 0 2 := inb_vp rfl
      refine va_fald (D := g.1) hx hb (hK d) hP 2 2 rfl rfl h6 dX7_learns_89 ?_
      refine lv_fmul_any hdr lw_bits hx hb dX7_learns_90 (fun y5 d hal hdr => ?_)
      have ay5 := al_fmul hal (al_refl _) (hAL 2 _)
      refine lv_ldcf hx hb (hown d) ((dr_words hts d) (.constantFloat RX7 200 (1048576000)) (List.mem_of_getElem? (i := 7) rfl)) dX7_learns_91 ?_
      refine lv_iload_n hx hb dX7_learns_93 rfl (lv_at hl 3 rfl) ?_
      refine lv_bipush (v := 10) hx hb dX7_learns_94 (by decide) ?_
      refine lv_isub hx hb dX7_learns_96 ?_
      refine lv_i2f hx hb dX7_learns_97 ?_
      refine lv_iload_n hx hb dX7_learns_98 rfl (lv_at hl 1 rfl) ?_
      refine lv_i2f hx hb dX7_learns_99 ?_
      refine lv_fdiv_any hdr lw_bits hx hb dX7_learns_100 (fun y6 d hal hdr => ?_)
      have ay6 := al_fdiv hal (al_refl _) (al_refl _)
      refine lv_fmul_any hdr lw_bits hx hb dX7_learns_101 (fun y7 d hal hdr => ?_)
      have ay7 := al_fmul hal (al_refl _) ay6
      refine lv_fadd_any hdr lw_bits hx hb dX7_learns_102 (fun y8 d hal hdr => ?_)
      have ay8 := al_fadd hal ay5 ay7
      have h7 : vp_in 0 2 := inb_vp rfl
      refine va_fast (D := g.1) hx hb (hK d) hP hD hS 2 2 rfl rfl h7 dX7_learns_103 (fun H locs hP hD hS => ?_)
      obtain ⟨F2, eF2⟩ : ∃ z, z = wrF F 2 ((Int32.toNatClampNeg 0)) y8 := ⟨_, rfl⟩
      obtain ⟨F2c, eF2c, hsem⟩ := bd_some hsem
      have haF2 : AL F2 F2c := by rw [eF2, eF2c]; exact AL.wr hAL ay8
      have hP : va_P g.1 vwCl (wM g ad A F2) H := by rw [eF2]; exact hP
      have hD : va_D Z (wM g ad A F2) := by rw [eF2]; exact hD
      refine lv_aload_n hx hb dX7_learns_104 rfl (lv_at hl 2 rfl) ?_
      refine va_get (D := g.1) (ci := 7) (v := .int (A 13 0)) (C := RX7) (T := TX7) (N := 26) hx hb (dr_words hts d) (fun w h => List.mem_cons_of_mem _ (List.mem_append_right _ h)) (hown d) (hK d) hP 0 rfl rfl 13 (by decide) ((dr_words hts d) (.fieldLink RX7 155 "PauseRegionsModel" "youngCells" "I") (List.mem_of_getElem? (i := 8) rfl)) (fun _ h9 => h9) rfl dX7_learns_105 ?_
      refine lv_if_le (tgt := 138) hx hb dX7_learns_108 (by decide) (fun c5 => ?_) (fun c5 => ?_)
      · rw [if_pos c5] at hsem
        have eo := (Option.some.inj hsem).symm.symm
        refine W.endD hdr ?_
        subst eo
        exact W.vret hx hb hr (fun t ht hW => ⟨⟨F2, rfl, haF2, ⟨by rw [ht]; exact hP, hD⟩⟩, hS.F ht⟩) hS.2.2 dX7_learns_138
      · rw [if_neg c5] at hsem
        refine lv_aload_n hx hb dX7_learns_111 rfl (lv_at hl 2 rfl) ?_
        refine va_get (D := g.1) (ci := 7) (v := .ref (ad 2)) (C := RX7) (T := TX7) (N := 26) hx hb (dr_words hts d) (fun w h => List.mem_cons_of_mem _ (List.mem_append_right _ h)) (hown d) (hK d) hP 0 rfl rfl 2 (by decide) ((dr_words hts d) (.fieldLink RX7 13 "PauseRegionsModel" "learnt" "[F") (List.mem_of_getElem? (i := 5) rfl)) (fun _ h9 => h9) rfl dX7_learns_112 ?_
        refine lv_iconst (v := 1) hx hb dX7_learns_115 (by decide) ?_
        refine lv_ldcf hx hb (hown d) ((dr_words hts d) (.constantFloat RX7 199 (1061158912)) (List.mem_of_getElem? (i := 6) rfl)) dX7_learns_116 ?_
        refine lv_aload_n hx hb dX7_learns_118 rfl (lv_at hl 2 rfl) ?_
        refine va_get (D := g.1) (ci := 7) (v := .ref (ad 2)) (C := RX7) (T := TX7) (N := 26) hx hb (dr_words hts d) (fun w h => List.mem_cons_of_mem _ (List.mem_append_right _ h)) (hown d) (hK d) hP 0 rfl rfl 2 (by decide) ((dr_words hts d) (.fieldLink RX7 13 "PauseRegionsModel" "learnt" "[F") (List.mem_of_getElem? (i := 5) rfl)) (fun _ h9 => h9) rfl dX7_learns_119 ?_
        refine lv_iconst (v := 1) hx hb dX7_learns_122 (by decide) ?_
        have h8 : vp_in 1 2 := inb_vp rfl
        refine va_fald (D := g.1) hx hb (hK d) hP 2 2 rfl rfl h8 dX7_learns_123 ?_
        refine lv_fmul_any hdr lw_bits hx hb dX7_learns_124 (fun y9 d hal hdr => ?_)
        have ay9 := al_fmul hal (al_refl _) (haF2 2 _)
        refine lv_ldcf hx hb (hown d) ((dr_words hts d) (.constantFloat RX7 200 (1048576000)) (List.mem_of_getElem? (i := 7) rfl)) dX7_learns_125 ?_
        refine lv_iload_n hx hb dX7_learns_127 rfl (lv_at hl 0 rfl) ?_
        refine lv_i2f hx hb dX7_learns_128 ?_
        refine lv_aload_n hx hb dX7_learns_129 rfl (lv_at hl 2 rfl) ?_
        refine va_get (D := g.1) (ci := 7) (v := .int (A 13 0)) (C := RX7) (T := TX7) (N := 26) hx hb (dr_words hts d) (fun w h => List.mem_cons_of_mem _ (List.mem_append_right _ h)) (hown d) (hK d) hP 0 rfl rfl 13 (by decide) ((dr_words hts d) (.fieldLink RX7 155 "PauseRegionsModel" "youngCells" "I") (List.mem_of_getElem? (i := 8) rfl)) (fun _ h9 => h9) rfl dX7_learns_130 ?_
        refine lv_i2f hx hb dX7_learns_133 ?_
        refine lv_fdiv_any hdr lw_bits hx hb dX7_learns_134 (fun y10 d hal hdr => ?_)
        have ay10 := al_fdiv hal (al_refl _) (al_refl _)
        refine lv_fmul_any hdr lw_bits hx hb dX7_learns_135 (fun y11 d hal hdr => ?_)
        have ay11 := al_fmul hal (al_refl _) ay10
        refine lv_fadd_any hdr lw_bits hx hb dX7_learns_136 (fun y12 d hal hdr => ?_)
        have ay12 := al_fadd hal ay9 ay11
        have h9 : vp_in 1 2 := inb_vp rfl
        refine va_fast (D := g.1) hx hb (hK d) hP hD hS 2 2 rfl rfl h9 dX7_learns_137 (fun H locs hP hD hS => ?_)
        obtain ⟨F3, eF3⟩ : ∃ z, z = wrF F2 2 ((Int32.toNatClampNeg 1)) y12 := ⟨_, rfl⟩
        obtain ⟨F3c, eF3c, hsem⟩ := bd_some hsem
        have haF3 : AL F3 F3c := by rw [eF3, eF3c]; exact AL.wr haF2 ay12
        have hP : va_P g.1 vwCl (wM g ad A F3) H := by rw [eF3]; exact hP
        have hD : va_D Z (wM g ad A F3) := by rw [eF3]; exact hD
        have eo := (Option.some.inj hsem).symm.symm
        refine W.endD hdr ?_
        subst eo
        exact W.vret hx hb hr (fun t ht hW => ⟨⟨F3, rfl, haF3, ⟨by rw [ht]; exact hP, hD⟩⟩, hS.F ht⟩) hS.2.2 dX7_learns_138
  · unfold sX7_learns_L7 at hst1
    have hP : va_P g.1 vwCl (wM g ad A F) H := hP
    have hD : va_D Z (wM g ad A F) := hD
    refine lv_iload hx hb dX7_learns_7 (lv_at hl 0 rfl) ?_
    refine lv_aload_n hx hb dX7_learns_9 rfl (lv_at hl 3 rfl) ?_
    refine va_get (D := g.1) (ci := 7) (v := .int (A 14 0)) (C := RX7) (T := TX7) (N := 26) hx hb (dr_words hts d) (fun w h => List.mem_cons_of_mem _ (List.mem_append_right _ h)) (hown d) (hK d) hP 0 rfl rfl 14 (by decide) ((dr_words hts d) (.fieldLink RX7 166 "PauseRegionsModel" "found" "I") (List.mem_of_getElem? (i := 1) rfl)) (fun _ h9 => h9) rfl dX7_learns_10 ?_
    refine lv_icmp_ge (tgt := 73) hx hb dX7_learns_13 (by decide) (fun c1 => ?_) (fun c1 => ?_)
    · rw [if_pos c1] at hst1
      exact hout1 _ H locs ls () _ (Option.some.inj hst1).symm hdr trivial hP hD hS (lv_sub hl [1, 2, 3, 4] rfl)
    · rw [if_neg c1] at hst1
      refine lv_aload_n hx hb dX7_learns_16 rfl (lv_at hl 3 rfl) ?_
      refine lv_aload_n hx hb dX7_learns_17 rfl (lv_at hl 3 rfl) ?_
      refine va_get (D := g.1) (ci := 7) (v := .ref (ad 10)) (C := RX7) (T := TX7) (N := 26) hx hb (dr_words hts d) (fun w h => List.mem_cons_of_mem _ (List.mem_append_right _ h)) (hown d) (hK d) hP 0 rfl rfl 15 (by decide) ((dr_words hts d) (.fieldLink RX7 39 "PauseRegionsModel" "row" "[I") (List.mem_of_getElem? (i := 2) rfl)) (fun _ h9 => h9) rfl dX7_learns_18 ?_
      refine lv_iload hx hb dX7_learns_21 (lv_at hl 0 rfl) ?_
      obtain ⟨h1, hst1⟩ := ck_some hst1
      refine va_iald (D := g.1) hx hb (hK d) hP 10 0 rfl rfl h1 dX7_learns_23 ?_
      refine lv_iconst (v := 0) hx hb dX7_learns_24 (by decide) ?_
      obtain ⟨x1, hc1, hst1⟩ := bn_some hst1
      refine pcV (C := RX7) (As := [.int ((A 15) q1.2.2.toNatClampNeg), .int 0]) (rest := []) ⟨hx, hb, hml, (hown d), (dr_words hts d)⟩ (hKK.drawn d) (cwV 2 (dr_words hts d) gX7_learns_X7_ofThing rfl rfl rfl hdX7_ofThing ⟨Nat.le_of_ble_eq_true rfl, Nat.le_of_ble_eq_true rfl⟩) (kX7_ofThing (l := l) (g := g) hP hc1) (va_recv (hK d) hP (ci := 7) (q0 := 0) rfl rfl) rfl hl.1 rfl (Nat.le_of_ble_eq_true rfl) dX7_learns_25 ⟨Nat.zero_le _, Nat.zero_le _⟩ ?_
      refine lv_istore (lv' := [(5, .int x1), (4, .int q1.2.2), (3, .int q1.2.1), (2, .int q1.1), (0, .ref (ad 0)), (1, .int p0)]) hx hb dX7_learns_28 hl (by decide) rfl (fun ls hl => ?_)
      refine lv_iload_n hx hb dX7_learns_30 rfl (lv_at hl 3 rfl) ?_
      refine lv_iload hx hb dX7_learns_31 (lv_at hl 0 rfl) ?_
      refine lv_iadd hx hb dX7_learns_33 ?_
      obtain ⟨x2, ex2, hst1⟩ := bd_some hst1
      rw [← ex2]
      refine lv_istore_n (lv' := [(2, .int x2), (5, .int x1), (4, .int q1.2.2), (3, .int q1.2.1), (0, .ref (ad 0)), (1, .int p0)]) hx hb dX7_learns_34 rfl hl (by decide) rfl (fun ls hl => ?_)
      refine lv_iload_n hx hb dX7_learns_35 rfl (lv_at hl 3 rfl) ?_
      refine lv_aload_n hx hb dX7_learns_36 rfl (lv_at hl 4 rfl) ?_
      refine va_get (D := g.1) (ci := 7) (v := .int (A 23 0)) (C := RX7) (T := TX7) (N := 26) hx hb (dr_words hts d) (fun w h => List.mem_cons_of_mem _ (List.mem_append_right _ h)) (hown d) (hK d) hP 0 rfl rfl 23 (by decide) ((dr_words hts d) (.fieldLink RX7 196 "PauseRegionsModel" "youngs" "I") (List.mem_of_getElem? (i := 3) rfl)) (fun _ h9 => h9) rfl dX7_learns_37 ?_
      refine lv_aload_n hx hb dX7_learns_40 rfl (lv_at hl 4 rfl) ?_
      refine va_get (D := g.1) (ci := 7) (v := .ref (ad 12)) (C := RX7) (T := TX7) (N := 26) hx hb (dr_words hts d) (fun w h => List.mem_cons_of_mem _ (List.mem_append_right _ h)) (hown d) (hK d) hP 0 rfl rfl 17 (by decide) ((dr_words hts d) (.fieldLink RX7 45 "PauseRegionsModel" "lay" "[I") (List.mem_of_getElem? (i := 4) rfl)) (fun _ h9 => h9) rfl dX7_learns_41 ?_
      refine lv_aload_n hx hb dX7_learns_44 rfl (lv_at hl 4 rfl) ?_
      refine va_get (D := g.1) (ci := 7) (v := .ref (ad 10)) (C := RX7) (T := TX7) (N := 26) hx hb (dr_words hts d) (fun w h => List.mem_cons_of_mem _ (List.mem_append_right _ h)) (hown d) (hK d) hP 0 rfl rfl 15 (by decide) ((dr_words hts d) (.fieldLink RX7 39 "PauseRegionsModel" "row" "[I") (List.mem_of_getElem? (i := 2) rfl)) (fun _ h9 => h9) rfl dX7_learns_45 ?_
      refine lv_iload hx hb dX7_learns_48 (lv_at hl 2 rfl) ?_
      obtain ⟨h2, hst1⟩ := ck_some hst1
      refine va_iald (D := g.1) hx hb (hK d) hP 10 0 rfl rfl h2 dX7_learns_50 ?_
      obtain ⟨h3, hst1⟩ := ck_some hst1
      refine va_iald (D := g.1) hx hb (hK d) hP 12 0 rfl rfl h3 dX7_learns_51 ?_
      refine lv_ishr hx hb dX7_learns_52 ?_
      refine lv_iconst (v := 1) hx hb dX7_learns_53 (by decide) ?_
      refine lv_iand hx hb dX7_learns_54 ?_
      refine lv_iconst (v := 1) hx hb dX7_learns_55 (by decide) ?_
      refine lv_icmp_ne (tgt := 64) hx hb dX7_learns_56 (by decide) (fun c2 => ?_) (fun c2 => ?_)
      · rw [if_neg c2] at hst1
        refine lv_iconst (v := 0) hx hb dX7_learns_64 (by decide) ?_
        refine lv_iadd hx hb dX7_learns_65 ?_
        obtain ⟨x3, ex3, hst1⟩ := bd_some hst1
        rw [← ex3]
        refine lv_istore_n (lv' := [(3, .int x3), (2, .int x2), (5, .int x1), (4, .int q1.2.2), (0, .ref (ad 0)), (1, .int p0)]) hx hb dX7_learns_66 rfl hl (by decide) rfl (fun ls hl => ?_)
        refine lv_iinc (v := q1.2.2 + 1) (lv' := [(4, .int (q1.2.2 + 1)), (3, .int x3), (2, .int x2), (5, .int x1), (0, .ref (ad 0)), (1, .int p0)]) hx hb dX7_learns_67 hl (k := 3) rfl rfl (by decide) rfl (fun ls hl => ?_)
        refine lv_goto (tgt := 7) hx hb dX7_learns_70 (by decide) ?_
        exact hin1 _ H locs ls () _ (Option.some.inj hst1).symm hdr trivial hP hD hS (lv_sub hl [0, 1, 2, 4, 5] rfl)
      · rw [if_pos c2] at hst1
        refine lv_iload hx hb dX7_learns_59 (lv_at hl 1 rfl) ?_
        refine lv_goto (tgt := 65) hx hb dX7_learns_61 (by decide) ?_
        refine lv_iadd hx hb dX7_learns_65 ?_
        obtain ⟨x4, ex4, hst1⟩ := bd_some hst1
        rw [← ex4]
        refine lv_istore_n (lv' := [(3, .int x4), (2, .int x2), (5, .int x1), (4, .int q1.2.2), (0, .ref (ad 0)), (1, .int p0)]) hx hb dX7_learns_66 rfl hl (by decide) rfl (fun ls hl => ?_)
        refine lv_iinc (v := q1.2.2 + 1) (lv' := [(4, .int (q1.2.2 + 1)), (3, .int x4), (2, .int x2), (5, .int x1), (0, .ref (ad 0)), (1, .int p0)]) hx hb dX7_learns_67 hl (k := 3) rfl rfl (by decide) rfl (fun ls hl => ?_)
        refine lv_goto (tgt := 7) hx hb dX7_learns_70 (by decide) ?_
        exact hin1 _ H locs ls () _ (Option.some.inj hst1).symm hdr trivial hP hD hS (lv_sub hl [0, 1, 2, 4, 5] rfl)
def sX7_learnt (A : IA) (Fc : FA) (p0 : Int32) : Option (Int32 × IA) :=
  bd (sc A 0 0) fun A1 => (sX7_in p0 0 1).bind fun x1 => if x1 = 0 then (some (((-1), A1))) else (ck p0 2 (some ((FP.f2i (FP.fmul 1120403456 (Fc 2 p0.toNatClampNeg)), A1))))
abbrev rmX7_learnt : Room := { frames := 1, cells := 0, slots := 0, locals := 22 }
theorem hdX7_learnt : yX7_learnt.cls = RX7 ∧ yX7_learnt.cls ≠ "java/lang/invoke/MethodHandle" ∧ yX7_learnt.cls ≠ "java/lang/invoke/VarHandle" ∧ (parseMethodDescriptor yX7_learnt.desc).map (fun d => d.parameters.length) = some 1 := by decide +kernel
set_option maxHeartbeats 4000000 in
set_option maxRecDepth 100000 in
theorem kX7_learnt {l : Launch} {g : GG} {sz : Nat} {ad : Nat → Nat} {A : IA} {F : FA} {p0 : Int32} {Fc : FA} (hAL : AL F Fc) {b : Int32 × IA} (hsem : sX7_learnt A Fc p0 = some b) : MetDI l yX7_learnt wsX7_learnt rmX7_learnt g [.ref (ad 0), .int p0] (wM g ad A F) sz b.1 (φ := Unit) (fun u => True) (fun u => wM g ad b.2 F) := by
  refine MetD.ofW (cc := cX7_learnt) (maxL := 2) (ret := (some .int)) (by decide) rfl ?_
  intro p e s m args below meth c s₁ B hml hv hdr
  obtain ⟨rfl, hsz, hP, hD0, hKK⟩ := hv
  subst hsz
  have hx := B.exec
  have hb := B.bytes
  have hr := B.returns
  have hts := atoms_spec (ws := wsX7_learnt) B.pre
  have hown : ∀ d, (s.setDrawn d).vm.findClass RX7 = some m.cls := fun _ => findClass_of_methodNamed B.named
  have hlocks := B.notSynchronized
  have hK : ∀ d, va_K g.1 vwCl (KT g) (s.setDrawn d) := fun d => (hKK.drawn d).1
  have hD := hD0.self (sz := s.heap.size)
  generalize hZe : va_A (wM g ad A F) s.heap.size = Z at hD ⊢
  have hZ : ∀ q : Nat, s.heap.size ≤ q → Z q := fun q h => by rw [← hZe]; exact Or.inr h
  have hS : va_S Z s.heap s.heap [] := va_S.rf
  have hP : va_P g.1 vwCl (wM g ad A F) s.heap := hP
  have hD : va_D Z (wM g ad A F) := hD
  obtain ⟨d, hdr, hdd⟩ : ∃ d, s.drawn.sameBut d lw_cs ∧ s.drawn = d := ⟨_, hdr, rfl⟩
  rw [hdd]
  have hl := lv_entry ([.ref (ad 0), .int p0]) (n := 2) (Nat.le_of_ble_eq_true rfl)
  rw [lg_entry_eq]
  generalize (lg_sl ([.ref (ad 0), .int p0]) ++ List.replicate (2 - (lg_sl ([.ref (ad 0), .int p0])).length) Slot.unset).toArray = ls at hl ⊢
  have hl : lv_has ls 2 [(0, .ref (ad 0)), (1, .int p0)] := hl
  unfold sX7_learnt at hsem
  refine lv_aload_n hx hb dX7_learnt_0 rfl (lv_at hl 0 rfl) ?_
  refine lv_iconst (v := 0) hx hb dX7_learnt_1 (by decide) ?_
  refine va_put (D := g.1) (ci := 7) (v := .int 0) (ty := .int) (C := RX7) (T := TX7) (N := 26) hx hb (dr_words hts d) (fun w h => List.mem_cons_of_mem _ (List.mem_append_right _ h)) tyX7 tyX7_ok nmX7 (hown d) (hK d) hP hD hS 0 rfl rfl 0 (by decide) ((dr_words hts d) (.fieldLink RX7 55 "PauseRegionsModel" "thrown" "I") (List.mem_of_getElem? (i := 1) rfl)) (fun _ h9 => h9) rfl (by decide +kernel) rfl rfl (Nat.le_of_ble_eq_true rfl) dX7_learnt_2 (fun H locs hP hD hS => ?_)
  obtain ⟨A1, eA1, hsem⟩ := bd_some hsem
  have hP : va_P g.1 vwCl (wM g ad A1 F) H := by rw [eA1]; exact hP
  have hD : va_D Z (wM g ad A1 F) := by rw [eA1]; exact hD
  refine lv_iload_n hx hb dX7_learnt_5 rfl (lv_at hl 1 rfl) ?_
  refine lv_iconst (v := 0) hx hb dX7_learnt_6 (by decide) ?_
  refine lv_iconst (v := 1) hx hb dX7_learnt_7 (by decide) ?_
  obtain ⟨x1, hc1, hsem⟩ := bn_some hsem
  refine pcS (As := [.int p0, .int 0, .int 1]) (rest := []) ⟨hx, hb, hml, (hown d), (dr_words hts d)⟩ (hKK.drawn d) (va_cwS 3 (dr_words hts d) gX7_learnt_X7_in rfl rfl rfl hdX7_in ⟨Nat.le_of_ble_eq_true rfl, Nat.le_of_ble_eq_true rfl⟩) (kX7_in (l := l) (g := g) hc1) rfl hl.1 rfl (Nat.le_of_ble_eq_true rfl) dX7_learnt_8 ⟨Nat.zero_le _, Nat.zero_le _⟩ ?_
  refine lv_if_eq (tgt := 27) hx hb dX7_learnt_11 (by decide) (fun c1 => ?_) (fun c1 => ?_)
  · rw [if_pos c1] at hsem
    refine lv_iconst (v := (-1)) hx hb dX7_learnt_27 (by decide) ?_
    have eo := (Option.some.inj hsem).symm.symm
    refine W.endD hdr ?_
    subst eo
    exact W.iret (v := (-1)) hx hb hr (fun t ht hW => ⟨⟨_, (), rfl, ⟨rfl, trivial⟩, ⟨by rw [ht]; exact hP, hD⟩⟩, hS.F ht⟩) hS.2.2 dX7_learnt_28
  · rw [if_neg c1] at hsem
    refine lv_ldcf hx hb (hown d) ((dr_words hts d) (.constantFloat RX7 228 (1120403456)) (List.mem_of_getElem? (i := 2) rfl)) dX7_learnt_14 ?_
    refine lv_aload_n hx hb dX7_learnt_16 rfl (lv_at hl 0 rfl) ?_
    refine va_get (D := g.1) (ci := 7) (v := .ref (ad 2)) (C := RX7) (T := TX7) (N := 26) hx hb (dr_words hts d) (fun w h => List.mem_cons_of_mem _ (List.mem_append_right _ h)) (hown d) (hK d) hP 0 rfl rfl 2 (by decide) ((dr_words hts d) (.fieldLink RX7 13 "PauseRegionsModel" "learnt" "[F") (List.mem_of_getElem? (i := 3) rfl)) (fun _ h9 => h9) rfl dX7_learnt_17 ?_
    refine lv_iload_n hx hb dX7_learnt_20 rfl (lv_at hl 1 rfl) ?_
    obtain ⟨h1, hsem⟩ := ck_some hsem
    refine va_fald (D := g.1) hx hb (hK d) hP 2 2 rfl rfl h1 dX7_learnt_21 ?_
    refine lv_fmul_any hdr lw_bits hx hb dX7_learnt_22 (fun y1 d hal hdr => ?_)
    have ay1 := al_fmul hal (al_refl _) (hAL 2 _)
    refine lv_f2i hx hb dX7_learnt_23 ?_
    rw [al_f2i ay1]
    refine lv_goto (tgt := 28) hx hb dX7_learnt_24 (by decide) ?_
    have eo := (Option.some.inj hsem).symm.symm
    refine W.endD hdr ?_
    subst eo
    exact W.iret (v := FP.f2i (FP.fmul 1120403456 (Fc 2 p0.toNatClampNeg))) hx hb hr (fun t ht hW => ⟨⟨_, (), rfl, ⟨rfl, trivial⟩, ⟨by rw [ht]; exact hP, hD⟩⟩, hS.F ht⟩) hS.2.2 dX7_learnt_28
def sX7_lies (A : IA) (p0 : Int32) (p1 : Int32) (p2 : Int32) (p3 : Int32) : Option (IA) :=
  ck ((6 * p0) + 0) 296 (bd (wr A 1 (((6 * p0) + 0).toNatClampNeg) p1) fun A1 => ck ((6 * p0) + 1) 296 (bd (wr A1 1 (((6 * p0) + 1).toNatClampNeg) p2) fun A2 => ck ((6 * p0) + 2) 296 (bd (wr A2 1 (((6 * p0) + 2).toNatClampNeg) p3) fun A3 => ck ((6 * p0) + 3) 296 (bd (wr A3 1 (((6 * p0) + 3).toNatClampNeg) (-5)) fun A4 => ck (((6 * p0) + 3) + 1) 296 (bd (wr A4 1 ((((6 * p0) + 3) + 1).toNatClampNeg) (-5)) fun A5 => ck ((6 * p0) + 5) 296 (bd (wr A5 1 (((6 * p0) + 5).toNatClampNeg) 2) fun A6 => some A6))))))
abbrev rmX7_lies : Room := { frames := 0, cells := 0, slots := 0, locals := 0 }
theorem hdX7_lies : yX7_lies.cls = RX7 ∧ yX7_lies.cls ≠ "java/lang/invoke/MethodHandle" ∧ yX7_lies.cls ≠ "java/lang/invoke/VarHandle" ∧ (parseMethodDescriptor yX7_lies.desc).map (fun d => d.parameters.length) = some 4 := by decide +kernel
set_option maxHeartbeats 4000000 in
set_option maxRecDepth 100000 in
theorem kX7_lies {l : Launch} {g : GG} {sz : Nat} {ad : Nat → Nat} {A : IA} {F : FA} {p0 p1 p2 p3 : Int32} {b : IA} (hsem : sX7_lies A p0 p1 p2 p3 = some b) : MetV l yX7_lies wsX7_lies rmX7_lies g [.ref (ad 0), .int p0, .int p1, .int p2, .int p3] (wM g ad A F) sz (wM g ad b F) := by
  refine Met.ofW (cc := cX7_lies) (maxL := 5) (ret := none) (by decide) rfl ?_
  intro p e s m args below meth c s₁ B hml hv
  obtain ⟨rfl, hsz, hP, hD0, hKK⟩ := hv
  subst hsz
  have hx := B.exec
  have hb := B.bytes
  have hr := B.returns
  have hts := atoms_spec (ws := wsX7_lies) B.pre
  have hown : s.vm.findClass RX7 = some m.cls := findClass_of_methodNamed B.named
  have hlocks := B.notSynchronized
  have hK := hKK.1
  have hD := hD0.self (sz := s.heap.size)
  generalize hZe : va_A (wM g ad A F) s.heap.size = Z at hD ⊢
  have hZ : ∀ q : Nat, s.heap.size ≤ q → Z q := fun q h => by rw [← hZe]; exact Or.inr h
  have hS : va_S Z s.heap s.heap [] := va_S.rf
  have hP : va_P g.1 vwCl (wM g ad A F) s.heap := hP
  have hD : va_D Z (wM g ad A F) := hD
  have hl := lv_entry ([.ref (ad 0), .int p0, .int p1, .int p2, .int p3]) (n := 5) (Nat.le_of_ble_eq_true rfl)
  rw [lg_entry_eq]
  generalize (lg_sl ([.ref (ad 0), .int p0, .int p1, .int p2, .int p3]) ++ List.replicate (5 - (lg_sl ([.ref (ad 0), .int p0, .int p1, .int p2, .int p3])).length) Slot.unset).toArray = ls at hl ⊢
  have hl : lv_has ls 5 [(0, .ref (ad 0)), (1, .int p0), (2, .int p1), (3, .int p2), (4, .int p3)] := hl
  unfold sX7_lies at hsem
  refine lv_aload_n hx hb dX7_lies_0 rfl (lv_at hl 0 rfl) ?_
  refine va_get (D := g.1) (ci := 7) (v := .ref (ad 1)) (C := RX7) (T := TX7) (N := 26) hx hb hts (fun w h => List.mem_cons_of_mem _ (List.mem_append_right _ h)) hown hK hP 0 rfl rfl 1 (by decide) (hts (.fieldLink RX7 7 "PauseRegionsModel" "s" "[I") (List.mem_of_getElem? (i := 1) rfl)) (fun _ h9 => h9) rfl dX7_lies_1 ?_
  refine lv_bipush (v := 6) hx hb dX7_lies_4 (by decide) ?_
  refine lv_iload_n hx hb dX7_lies_6 rfl (lv_at hl 1 rfl) ?_
  refine lv_imul hx hb dX7_lies_7 ?_
  refine lv_iconst (v := 0) hx hb dX7_lies_8 (by decide) ?_
  refine lv_iadd hx hb dX7_lies_9 ?_
  refine lv_iload_n hx hb dX7_lies_10 rfl (lv_at hl 2 rfl) ?_
  obtain ⟨h1, hsem⟩ := ck_some hsem
  refine va_iast (D := g.1) hx hb hK hP hD hS 1 0 rfl rfl h1 dX7_lies_11 (fun H locs hP hD hS => ?_)
  obtain ⟨A1, eA1, hsem⟩ := bd_some hsem
  have hP : va_P g.1 vwCl (wM g ad A1 F) H := by rw [eA1]; exact hP
  have hD : va_D Z (wM g ad A1 F) := by rw [eA1]; exact hD
  refine lv_aload_n hx hb dX7_lies_12 rfl (lv_at hl 0 rfl) ?_
  refine va_get (D := g.1) (ci := 7) (v := .ref (ad 1)) (C := RX7) (T := TX7) (N := 26) hx hb hts (fun w h => List.mem_cons_of_mem _ (List.mem_append_right _ h)) hown hK hP 0 rfl rfl 1 (by decide) (hts (.fieldLink RX7 7 "PauseRegionsModel" "s" "[I") (List.mem_of_getElem? (i := 1) rfl)) (fun _ h9 => h9) rfl dX7_lies_13 ?_
  refine lv_bipush (v := 6) hx hb dX7_lies_16 (by decide) ?_
  refine lv_iload_n hx hb dX7_lies_18 rfl (lv_at hl 1 rfl) ?_
  refine lv_imul hx hb dX7_lies_19 ?_
  refine lv_iconst (v := 1) hx hb dX7_lies_20 (by decide) ?_
  refine lv_iadd hx hb dX7_lies_21 ?_
  refine lv_iload_n hx hb dX7_lies_22 rfl (lv_at hl 3 rfl) ?_
  obtain ⟨h2, hsem⟩ := ck_some hsem
  refine va_iast (D := g.1) hx hb hK hP hD hS 1 0 rfl rfl h2 dX7_lies_23 (fun H locs hP hD hS => ?_)
  obtain ⟨A2, eA2, hsem⟩ := bd_some hsem
  have hP : va_P g.1 vwCl (wM g ad A2 F) H := by rw [eA2]; exact hP
  have hD : va_D Z (wM g ad A2 F) := by rw [eA2]; exact hD
  refine lv_aload_n hx hb dX7_lies_24 rfl (lv_at hl 0 rfl) ?_
  refine va_get (D := g.1) (ci := 7) (v := .ref (ad 1)) (C := RX7) (T := TX7) (N := 26) hx hb hts (fun w h => List.mem_cons_of_mem _ (List.mem_append_right _ h)) hown hK hP 0 rfl rfl 1 (by decide) (hts (.fieldLink RX7 7 "PauseRegionsModel" "s" "[I") (List.mem_of_getElem? (i := 1) rfl)) (fun _ h9 => h9) rfl dX7_lies_25 ?_
  refine lv_bipush (v := 6) hx hb dX7_lies_28 (by decide) ?_
  refine lv_iload_n hx hb dX7_lies_30 rfl (lv_at hl 1 rfl) ?_
  refine lv_imul hx hb dX7_lies_31 ?_
  refine lv_iconst (v := 2) hx hb dX7_lies_32 (by decide) ?_
  refine lv_iadd hx hb dX7_lies_33 ?_
  refine lv_iload hx hb dX7_lies_34 (lv_at hl 4 rfl) ?_
  obtain ⟨h3, hsem⟩ := ck_some hsem
  refine va_iast (D := g.1) hx hb hK hP hD hS 1 0 rfl rfl h3 dX7_lies_36 (fun H locs hP hD hS => ?_)
  obtain ⟨A3, eA3, hsem⟩ := bd_some hsem
  have hP : va_P g.1 vwCl (wM g ad A3 F) H := by rw [eA3]; exact hP
  have hD : va_D Z (wM g ad A3 F) := by rw [eA3]; exact hD
  refine lv_aload_n hx hb dX7_lies_37 rfl (lv_at hl 0 rfl) ?_
  refine va_get (D := g.1) (ci := 7) (v := .ref (ad 1)) (C := RX7) (T := TX7) (N := 26) hx hb hts (fun w h => List.mem_cons_of_mem _ (List.mem_append_right _ h)) hown hK hP 0 rfl rfl 1 (by decide) (hts (.fieldLink RX7 7 "PauseRegionsModel" "s" "[I") (List.mem_of_getElem? (i := 1) rfl)) (fun _ h9 => h9) rfl dX7_lies_38 ?_
  refine lv_bipush (v := 6) hx hb dX7_lies_41 (by decide) ?_
  refine lv_iload_n hx hb dX7_lies_43 rfl (lv_at hl 1 rfl) ?_
  refine lv_imul hx hb dX7_lies_44 ?_
  refine lv_iconst (v := 3) hx hb dX7_lies_45 (by decide) ?_
  refine lv_iadd hx hb dX7_lies_46 ?_
  refine lv_bipush (v := (-5)) hx hb dX7_lies_47 (by decide) ?_
  obtain ⟨h4, hsem⟩ := ck_some hsem
  refine va_iast (D := g.1) hx hb hK hP hD hS 1 0 rfl rfl h4 dX7_lies_49 (fun H locs hP hD hS => ?_)
  obtain ⟨A4, eA4, hsem⟩ := bd_some hsem
  have hP : va_P g.1 vwCl (wM g ad A4 F) H := by rw [eA4]; exact hP
  have hD : va_D Z (wM g ad A4 F) := by rw [eA4]; exact hD
  refine lv_aload_n hx hb dX7_lies_50 rfl (lv_at hl 0 rfl) ?_
  refine va_get (D := g.1) (ci := 7) (v := .ref (ad 1)) (C := RX7) (T := TX7) (N := 26) hx hb hts (fun w h => List.mem_cons_of_mem _ (List.mem_append_right _ h)) hown hK hP 0 rfl rfl 1 (by decide) (hts (.fieldLink RX7 7 "PauseRegionsModel" "s" "[I") (List.mem_of_getElem? (i := 1) rfl)) (fun _ h9 => h9) rfl dX7_lies_51 ?_
  refine lv_bipush (v := 6) hx hb dX7_lies_54 (by decide) ?_
  refine lv_iload_n hx hb dX7_lies_56 rfl (lv_at hl 1 rfl) ?_
  refine lv_imul hx hb dX7_lies_57 ?_
  refine lv_iconst (v := 3) hx hb dX7_lies_58 (by decide) ?_
  refine lv_iadd hx hb dX7_lies_59 ?_
  refine lv_iconst (v := 1) hx hb dX7_lies_60 (by decide) ?_
  refine lv_iadd hx hb dX7_lies_61 ?_
  refine lv_bipush (v := (-5)) hx hb dX7_lies_62 (by decide) ?_
  obtain ⟨h5, hsem⟩ := ck_some hsem
  refine va_iast (D := g.1) hx hb hK hP hD hS 1 0 rfl rfl h5 dX7_lies_64 (fun H locs hP hD hS => ?_)
  obtain ⟨A5, eA5, hsem⟩ := bd_some hsem
  have hP : va_P g.1 vwCl (wM g ad A5 F) H := by rw [eA5]; exact hP
  have hD : va_D Z (wM g ad A5 F) := by rw [eA5]; exact hD
  refine lv_aload_n hx hb dX7_lies_65 rfl (lv_at hl 0 rfl) ?_
  refine va_get (D := g.1) (ci := 7) (v := .ref (ad 1)) (C := RX7) (T := TX7) (N := 26) hx hb hts (fun w h => List.mem_cons_of_mem _ (List.mem_append_right _ h)) hown hK hP 0 rfl rfl 1 (by decide) (hts (.fieldLink RX7 7 "PauseRegionsModel" "s" "[I") (List.mem_of_getElem? (i := 1) rfl)) (fun _ h9 => h9) rfl dX7_lies_66 ?_
  refine lv_bipush (v := 6) hx hb dX7_lies_69 (by decide) ?_
  refine lv_iload_n hx hb dX7_lies_71 rfl (lv_at hl 1 rfl) ?_
  refine lv_imul hx hb dX7_lies_72 ?_
  refine lv_iconst (v := 5) hx hb dX7_lies_73 (by decide) ?_
  refine lv_iadd hx hb dX7_lies_74 ?_
  refine lv_iconst (v := 2) hx hb dX7_lies_75 (by decide) ?_
  obtain ⟨h6, hsem⟩ := ck_some hsem
  refine va_iast (D := g.1) hx hb hK hP hD hS 1 0 rfl rfl h6 dX7_lies_76 (fun H locs hP hD hS => ?_)
  obtain ⟨A6, eA6, hsem⟩ := bd_some hsem
  have hP : va_P g.1 vwCl (wM g ad A6 F) H := by rw [eA6]; exact hP
  have hD : va_D Z (wM g ad A6 F) := by rw [eA6]; exact hD
  have eo := (Option.some.inj hsem).symm.symm
  subst eo
  exact W.vret hx hb hr (fun t ht hW => ⟨⟨(), rfl, trivial, ⟨by rw [ht]; exact hP, hD⟩⟩, hS.F ht⟩) hS.2.2 dX7_lies_77
def sX7_lowestNumber_L2 (A : IA) (q1 : Int32) : Option ((Int32) ⊕ (Int32)) :=
  if 32 ≤ q1 then (some (.inr q1)) else ((sX7_isThing A q1).bind fun x1 => if x1 = 0 then (some (.inr q1)) else (some (.inl (q1 + 1))))
def sX7_lowestNumber (A : IA) : Option (Int32) :=
  (loopN (sX7_lowestNumber_L2 A) 2000 0).bind fun q2 => some q2
abbrev rmX7_lowestNumber : Room := { frames := 2, cells := 0, slots := 0, locals := 43 }
theorem hdX7_lowestNumber : yX7_lowestNumber.cls = RX7 ∧ yX7_lowestNumber.cls ≠ "java/lang/invoke/MethodHandle" ∧ yX7_lowestNumber.cls ≠ "java/lang/invoke/VarHandle" ∧ (parseMethodDescriptor yX7_lowestNumber.desc).map (fun d => d.parameters.length) = some 0 := by decide +kernel
set_option maxHeartbeats 4000000 in
set_option maxRecDepth 100000 in
theorem kX7_lowestNumber {l : Launch} {g : GG} {H0 : Heap} {ad : Nat → Nat} {A : IA} {F : FA} {b : Int32} (hP : va_P g.1 vwCl (wM g ad A F) H0) (hsem : sX7_lowestNumber A = some b) : MetP l yX7_lowestNumber wsX7_lowestNumber rmX7_lowestNumber g H0 [.ref (ad 0)] b := by
  refine Met.ofW (cc := cX7_lowestNumber) (maxL := 2) (ret := (some .int)) (by decide) rfl ?_
  intro p e s m args below meth c s₁ B hml hv
  obtain ⟨rfl, hH, hKK⟩ := hv
  subst hH
  have hx := B.exec
  have hb := B.bytes
  have hr := B.returns
  have hts := atoms_spec (ws := wsX7_lowestNumber) B.pre
  have hown : s.vm.findClass RX7 = some m.cls := findClass_of_methodNamed B.named
  have hlocks := B.notSynchronized
  have hK := hKK.1
  have hl := lv_entry ([.ref (ad 0)]) (n := 2) (Nat.le_of_ble_eq_true rfl)
  rw [lg_entry_eq]
  generalize (lg_sl ([.ref (ad 0)]) ++ List.replicate (2 - (lg_sl ([.ref (ad 0)])).length) Slot.unset).toArray = ls at hl ⊢
  have hl : lv_has ls 2 [(0, .ref (ad 0))] := hl
  unfold sX7_lowestNumber at hsem
  refine lv_iconst (v := 0) hx hb dX7_lowestNumber_0 (by decide) ?_
  refine lv_istore_n (lv' := [(1, .int 0), (0, .ref (ad 0))]) hx hb dX7_lowestNumber_1 rfl hl (by decide) rfl (fun ls hl => ?_)
  obtain ⟨q2, hc2, hsem⟩ := bn_some hsem
  refine loopP hc2 (fun (q1 : Int32) => [(1, .int q1), (0, .ref (ad 0))]) (fun (q1 : Int32) => [(1, .int q1)]) (exit := 22) (lv_sub hl [0, 1] rfl) (fun ls hl => ?_) (fun q1 r hst1 hin1 hout1 ls hl => ?_)
  · skip
    refine lv_iload_n hx hb dX7_lowestNumber_22 rfl (lv_at hl 0 rfl) ?_
    have eo := (Option.some.inj hsem).symm.symm
    exact W.iret (v := q2) hx hb hr (fun t ht hW => ⟨⟨_, (), rfl, eo, ht⟩, (va_S.rf (A := fun _ => False) (H0 := s.heap)).F ht⟩) (fun q hq => absurd hq List.not_mem_nil) dX7_lowestNumber_23
  · unfold sX7_lowestNumber_L2 at hst1
    refine lv_iload_n hx hb dX7_lowestNumber_2 rfl (lv_at hl 0 rfl) ?_
    refine lv_bipush (v := 32) hx hb dX7_lowestNumber_3 (by decide) ?_
    refine lv_icmp_ge (tgt := 22) hx hb dX7_lowestNumber_5 (by decide) (fun c1 => ?_) (fun c1 => ?_)
    · rw [if_pos c1] at hst1
      exact hout1 ls _ (Option.some.inj hst1).symm (lv_sub hl [0] rfl)
    · rw [if_neg c1] at hst1
      refine lv_aload_n hx hb dX7_lowestNumber_8 rfl (lv_at hl 1 rfl) ?_
      refine lv_iload_n hx hb dX7_lowestNumber_9 rfl (lv_at hl 0 rfl) ?_
      obtain ⟨x1, hc1, hst1⟩ := bn_some hst1
      refine pcV (C := RX7) (As := [.int q1]) (rest := []) ⟨hx, hb, hml, hown, hts⟩ hKK (cwV 1 hts gX7_lowestNumber_X7_isThing rfl rfl rfl hdX7_isThing ⟨Nat.le_of_ble_eq_true rfl, Nat.le_of_ble_eq_true rfl⟩) (kX7_isThing (l := l) (g := g) hP hc1) (va_recv hK hP (ci := 7) (q0 := 0) rfl rfl) rfl hl.1 rfl (Nat.le_of_ble_eq_true rfl) dX7_lowestNumber_10 ⟨Nat.zero_le _, Nat.zero_le _⟩ ?_
      refine lv_if_eq (tgt := 22) hx hb dX7_lowestNumber_13 (by decide) (fun c2 => ?_) (fun c2 => ?_)
      · rw [if_pos c2] at hst1
        exact hout1 ls _ (Option.some.inj hst1).symm (lv_sub hl [0] rfl)
      · rw [if_neg c2] at hst1
        refine lv_iinc (v := q1 + 1) (lv' := [(1, .int (q1 + 1)), (0, .ref (ad 0))]) hx hb dX7_lowestNumber_16 hl (k := 0) rfl rfl (by decide) rfl (fun ls hl => ?_)
        refine lv_goto (tgt := 2) hx hb dX7_lowestNumber_19 (by decide) ?_
        exact hin1 ls _ (Option.some.inj hst1).symm (lv_sub hl [0, 1] rfl)
def sX7_makesSmall (A : IA) (p0 : Int32) (p1 : Int32) (p2 : Int32) : Option (IA) :=
  (sX7_ofRegion A p2 0).bind fun x1 => if x1 = 0 then ((sX7_setsRegion A p2 0 1).bind fun z3 => bd (wr z3 1 (Int32.toNatClampNeg 295) p2) fun A1 => (sX7_ofRegion A1 p2 1).bind fun x4 => (sX7_lies A1 p0 p1 p2 x4).bind fun z4 => (sX7_ofRegion z4 p2 1).bind fun x5 => (sX7_setsRegion z4 p2 1 (x5 + p1)).bind fun z5 => some z5) else ((sX7_ofRegion A p2 1).bind fun x2 => (sX7_lies A p0 p1 p2 x2).bind fun z1 => (sX7_ofRegion z1 p2 1).bind fun x3 => (sX7_setsRegion z1 p2 1 (x3 + p1)).bind fun z2 => some z2)
abbrev rmX7_makesSmall : Room := { frames := 1, cells := 0, slots := 0, locals := 24 }
theorem hdX7_makesSmall : yX7_makesSmall.cls = RX7 ∧ yX7_makesSmall.cls ≠ "java/lang/invoke/MethodHandle" ∧ yX7_makesSmall.cls ≠ "java/lang/invoke/VarHandle" ∧ (parseMethodDescriptor yX7_makesSmall.desc).map (fun d => d.parameters.length) = some 3 := by decide +kernel
set_option maxHeartbeats 4000000 in
set_option maxRecDepth 100000 in
theorem kX7_makesSmall {l : Launch} {g : GG} {sz : Nat} {ad : Nat → Nat} {A : IA} {F : FA} {p0 p1 p2 : Int32} {b : IA} (hsem : sX7_makesSmall A p0 p1 p2 = some b) : MetV l yX7_makesSmall wsX7_makesSmall rmX7_makesSmall g [.ref (ad 0), .int p0, .int p1, .int p2] (wM g ad A F) sz (wM g ad b F) := by
  refine Met.ofW (cc := cX7_makesSmall) (maxL := 4) (ret := none) (by decide) rfl ?_
  intro p e s m args below meth c s₁ B hml hv
  obtain ⟨rfl, hsz, hP, hD0, hKK⟩ := hv
  subst hsz
  have hx := B.exec
  have hb := B.bytes
  have hr := B.returns
  have hts := atoms_spec (ws := wsX7_makesSmall) B.pre
  have hown : s.vm.findClass RX7 = some m.cls := findClass_of_methodNamed B.named
  have hlocks := B.notSynchronized
  have hK := hKK.1
  have hD := hD0.self (sz := s.heap.size)
  generalize hZe : va_A (wM g ad A F) s.heap.size = Z at hD ⊢
  have hZ : ∀ q : Nat, s.heap.size ≤ q → Z q := fun q h => by rw [← hZe]; exact Or.inr h
  have hS : va_S Z s.heap s.heap [] := va_S.rf
  have hP : va_P g.1 vwCl (wM g ad A F) s.heap := hP
  have hD : va_D Z (wM g ad A F) := hD
  have hl := lv_entry ([.ref (ad 0), .int p0, .int p1, .int p2]) (n := 4) (Nat.le_of_ble_eq_true rfl)
  rw [lg_entry_eq]
  generalize (lg_sl ([.ref (ad 0), .int p0, .int p1, .int p2]) ++ List.replicate (4 - (lg_sl ([.ref (ad 0), .int p0, .int p1, .int p2])).length) Slot.unset).toArray = ls at hl ⊢
  have hl : lv_has ls 4 [(0, .ref (ad 0)), (1, .int p0), (2, .int p1), (3, .int p2)] := hl
  unfold sX7_makesSmall at hsem
  refine lv_aload_n hx hb dX7_makesSmall_0 rfl (lv_at hl 0 rfl) ?_
  refine lv_iload_n hx hb dX7_makesSmall_1 rfl (lv_at hl 3 rfl) ?_
  refine lv_iconst (v := 0) hx hb dX7_makesSmall_2 (by decide) ?_
  obtain ⟨x1, hc1, hsem⟩ := bn_some hsem
  refine pcV (C := RX7) (As := [.int p2, .int 0]) (rest := []) ⟨hx, hb, hml, hown, hts⟩ hKK (cwV 2 hts gX7_makesSmall_X7_ofRegion rfl rfl rfl hdX7_ofRegion ⟨Nat.le_of_ble_eq_true rfl, Nat.le_of_ble_eq_true rfl⟩) (kX7_ofRegion (l := l) (g := g) hP hc1) (va_recv hK hP (ci := 7) (q0 := 0) rfl rfl) rfl hl.1 rfl (Nat.le_of_ble_eq_true rfl) dX7_makesSmall_3 ⟨Nat.zero_le _, Nat.zero_le _⟩ ?_
  refine lv_if_ne (tgt := 25) hx hb dX7_makesSmall_6 (by decide) (fun c1 => ?_) (fun c1 => ?_)
  · rw [if_neg c1] at hsem
    refine lv_aload_n hx hb dX7_makesSmall_25 rfl (lv_at hl 0 rfl) ?_
    refine lv_iload_n hx hb dX7_makesSmall_26 rfl (lv_at hl 1 rfl) ?_
    refine lv_iload_n hx hb dX7_makesSmall_27 rfl (lv_at hl 2 rfl) ?_
    refine lv_iload_n hx hb dX7_makesSmall_28 rfl (lv_at hl 3 rfl) ?_
    refine lv_aload_n hx hb dX7_makesSmall_29 rfl (lv_at hl 0 rfl) ?_
    refine lv_iload_n hx hb dX7_makesSmall_30 rfl (lv_at hl 3 rfl) ?_
    refine lv_iconst (v := 1) hx hb dX7_makesSmall_31 (by decide) ?_
    obtain ⟨x2, hc2, hsem⟩ := bn_some hsem
    refine pcV (C := RX7) (As := [.int p2, .int 1]) (rest := [.int p2, .int p1, .int p0, .ref (ad 0)]) ⟨hx, hb, hml, hown, hts⟩ hKK (cwV 2 hts gX7_makesSmall_X7_ofRegion rfl rfl rfl hdX7_ofRegion ⟨Nat.le_of_ble_eq_true rfl, Nat.le_of_ble_eq_true rfl⟩) (kX7_ofRegion (l := l) (g := g) hP hc2) (va_recv hK hP (ci := 7) (q0 := 0) rfl rfl) rfl hl.1 rfl (Nat.le_of_ble_eq_true rfl) dX7_makesSmall_32 ⟨Nat.zero_le _, Nat.zero_le _⟩ ?_
    obtain ⟨z1, hc3, hsem⟩ := bn_some hsem
    refine mcV (C := RX7) (As := [.int p0, .int p1, .int p2, .int x2]) (rest := []) ⟨hx, hb, hml, hown, hts⟩ hKK hP hD hS hZ (cwV 4 hts gX7_makesSmall_X7_lies rfl rfl rfl hdX7_lies ⟨Nat.le_of_ble_eq_true rfl, Nat.le_of_ble_eq_true rfl⟩) (kX7_lies (l := l) (g := g) (ad := ad) (A := A) (F := F) hc3) (va_recv hK hP (ci := 7) (q0 := 0) rfl rfl) rfl hl.1 rfl (Nat.le_of_ble_eq_true rfl) dX7_makesSmall_35 ⟨Nat.zero_le _, Nat.zero_le _⟩ (fun H locs hP hD hS => ?_)
    have hP : va_P g.1 vwCl (wM g ad z1 F) H := hP
    have hD : va_D Z (wM g ad z1 F) := hD
    refine lv_aload_n hx hb dX7_makesSmall_38 rfl (lv_at hl 0 rfl) ?_
    refine lv_iload_n hx hb dX7_makesSmall_39 rfl (lv_at hl 3 rfl) ?_
    refine lv_iconst (v := 1) hx hb dX7_makesSmall_40 (by decide) ?_
    refine lv_aload_n hx hb dX7_makesSmall_41 rfl (lv_at hl 0 rfl) ?_
    refine lv_iload_n hx hb dX7_makesSmall_42 rfl (lv_at hl 3 rfl) ?_
    refine lv_iconst (v := 1) hx hb dX7_makesSmall_43 (by decide) ?_
    obtain ⟨x3, hc4, hsem⟩ := bn_some hsem
    refine pcV (C := RX7) (As := [.int p2, .int 1]) (rest := [.int 1, .int p2, .ref (ad 0)]) ⟨hx, hb, hml, hown, hts⟩ hKK (cwV 2 hts gX7_makesSmall_X7_ofRegion rfl rfl rfl hdX7_ofRegion ⟨Nat.le_of_ble_eq_true rfl, Nat.le_of_ble_eq_true rfl⟩) (kX7_ofRegion (l := l) (g := g) hP hc4) (va_recv hK hP (ci := 7) (q0 := 0) rfl rfl) rfl hl.1 rfl (Nat.le_of_ble_eq_true rfl) dX7_makesSmall_44 ⟨Nat.zero_le _, Nat.zero_le _⟩ ?_
    refine lv_iload_n hx hb dX7_makesSmall_47 rfl (lv_at hl 2 rfl) ?_
    refine lv_iadd hx hb dX7_makesSmall_48 ?_
    obtain ⟨z2, hc5, hsem⟩ := bn_some hsem
    refine mcV (C := RX7) (As := [.int p2, .int 1, .int (x3 + p1)]) (rest := []) ⟨hx, hb, hml, hown, hts⟩ hKK hP hD hS hZ (cwV 3 hts gX7_makesSmall_X7_setsRegion rfl rfl rfl hdX7_setsRegion ⟨Nat.le_of_ble_eq_true rfl, Nat.le_of_ble_eq_true rfl⟩) (kX7_setsRegion (l := l) (g := g) (ad := ad) (A := z1) (F := F) hc5) (va_recv hK hP (ci := 7) (q0 := 0) rfl rfl) rfl hl.1 rfl (Nat.le_of_ble_eq_true rfl) dX7_makesSmall_49 ⟨Nat.zero_le _, Nat.zero_le _⟩ (fun H locs hP hD hS => ?_)
    have hP : va_P g.1 vwCl (wM g ad z2 F) H := hP
    have hD : va_D Z (wM g ad z2 F) := hD
    have eo := (Option.some.inj hsem).symm.symm
    subst eo
    exact W.vret hx hb hr (fun t ht hW => ⟨⟨(), rfl, trivial, ⟨by rw [ht]; exact hP, hD⟩⟩, hS.F ht⟩) hS.2.2 dX7_makesSmall_52
  · rw [if_pos c1] at hsem
    refine lv_aload_n hx hb dX7_makesSmall_9 rfl (lv_at hl 0 rfl) ?_
    refine lv_iload_n hx hb dX7_makesSmall_10 rfl (lv_at hl 3 rfl) ?_
    refine lv_iconst (v := 0) hx hb dX7_makesSmall_11 (by decide) ?_
    refine lv_iconst (v := 1) hx hb dX7_makesSmall_12 (by decide) ?_
    obtain ⟨z3, hc6, hsem⟩ := bn_some hsem
    refine mcV (C := RX7) (As := [.int p2, .int 0, .int 1]) (rest := []) ⟨hx, hb, hml, hown, hts⟩ hKK hP hD hS hZ (cwV 3 hts gX7_makesSmall_X7_setsRegion rfl rfl rfl hdX7_setsRegion ⟨Nat.le_of_ble_eq_true rfl, Nat.le_of_ble_eq_true rfl⟩) (kX7_setsRegion (l := l) (g := g) (ad := ad) (A := A) (F := F) hc6) (va_recv hK hP (ci := 7) (q0 := 0) rfl rfl) rfl hl.1 rfl (Nat.le_of_ble_eq_true rfl) dX7_makesSmall_13 ⟨Nat.zero_le _, Nat.zero_le _⟩ (fun H locs hP hD hS => ?_)
    have hP : va_P g.1 vwCl (wM g ad z3 F) H := hP
    have hD : va_D Z (wM g ad z3 F) := hD
    refine lv_aload_n hx hb dX7_makesSmall_16 rfl (lv_at hl 0 rfl) ?_
    refine va_get (D := g.1) (ci := 7) (v := .ref (ad 1)) (C := RX7) (T := TX7) (N := 26) hx hb hts (fun w h => List.mem_cons_of_mem _ (List.mem_append_right _ h)) hown hK hP 0 rfl rfl 1 (by decide) (hts (.fieldLink RX7 7 "PauseRegionsModel" "s" "[I") (List.mem_of_getElem? (i := 1) rfl)) (fun _ h9 => h9) rfl dX7_makesSmall_17 ?_
    refine lv_sipush (v := 295) hx hb dX7_makesSmall_20 (by decide) ?_
    refine lv_iload_n hx hb dX7_makesSmall_23 rfl (lv_at hl 3 rfl) ?_
    have h1 : vp_in 295 296 := inb_vp rfl
    refine va_iast (D := g.1) hx hb hK hP hD hS 1 0 rfl rfl h1 dX7_makesSmall_24 (fun H locs hP hD hS => ?_)
    obtain ⟨A1, eA1, hsem⟩ := bd_some hsem
    have hP : va_P g.1 vwCl (wM g ad A1 F) H := by rw [eA1]; exact hP
    have hD : va_D Z (wM g ad A1 F) := by rw [eA1]; exact hD
    refine lv_aload_n hx hb dX7_makesSmall_25 rfl (lv_at hl 0 rfl) ?_
    refine lv_iload_n hx hb dX7_makesSmall_26 rfl (lv_at hl 1 rfl) ?_
    refine lv_iload_n hx hb dX7_makesSmall_27 rfl (lv_at hl 2 rfl) ?_
    refine lv_iload_n hx hb dX7_makesSmall_28 rfl (lv_at hl 3 rfl) ?_
    refine lv_aload_n hx hb dX7_makesSmall_29 rfl (lv_at hl 0 rfl) ?_
    refine lv_iload_n hx hb dX7_makesSmall_30 rfl (lv_at hl 3 rfl) ?_
    refine lv_iconst (v := 1) hx hb dX7_makesSmall_31 (by decide) ?_
    obtain ⟨x4, hc7, hsem⟩ := bn_some hsem
    refine pcV (C := RX7) (As := [.int p2, .int 1]) (rest := [.int p2, .int p1, .int p0, .ref (ad 0)]) ⟨hx, hb, hml, hown, hts⟩ hKK (cwV 2 hts gX7_makesSmall_X7_ofRegion rfl rfl rfl hdX7_ofRegion ⟨Nat.le_of_ble_eq_true rfl, Nat.le_of_ble_eq_true rfl⟩) (kX7_ofRegion (l := l) (g := g) hP hc7) (va_recv hK hP (ci := 7) (q0 := 0) rfl rfl) rfl hl.1 rfl (Nat.le_of_ble_eq_true rfl) dX7_makesSmall_32 ⟨Nat.zero_le _, Nat.zero_le _⟩ ?_
    obtain ⟨z4, hc8, hsem⟩ := bn_some hsem
    refine mcV (C := RX7) (As := [.int p0, .int p1, .int p2, .int x4]) (rest := []) ⟨hx, hb, hml, hown, hts⟩ hKK hP hD hS hZ (cwV 4 hts gX7_makesSmall_X7_lies rfl rfl rfl hdX7_lies ⟨Nat.le_of_ble_eq_true rfl, Nat.le_of_ble_eq_true rfl⟩) (kX7_lies (l := l) (g := g) (ad := ad) (A := A1) (F := F) hc8) (va_recv hK hP (ci := 7) (q0 := 0) rfl rfl) rfl hl.1 rfl (Nat.le_of_ble_eq_true rfl) dX7_makesSmall_35 ⟨Nat.zero_le _, Nat.zero_le _⟩ (fun H locs hP hD hS => ?_)
    have hP : va_P g.1 vwCl (wM g ad z4 F) H := hP
    have hD : va_D Z (wM g ad z4 F) := hD
    refine lv_aload_n hx hb dX7_makesSmall_38 rfl (lv_at hl 0 rfl) ?_
    refine lv_iload_n hx hb dX7_makesSmall_39 rfl (lv_at hl 3 rfl) ?_
    refine lv_iconst (v := 1) hx hb dX7_makesSmall_40 (by decide) ?_
    refine lv_aload_n hx hb dX7_makesSmall_41 rfl (lv_at hl 0 rfl) ?_
    refine lv_iload_n hx hb dX7_makesSmall_42 rfl (lv_at hl 3 rfl) ?_
    refine lv_iconst (v := 1) hx hb dX7_makesSmall_43 (by decide) ?_
    obtain ⟨x5, hc9, hsem⟩ := bn_some hsem
    refine pcV (C := RX7) (As := [.int p2, .int 1]) (rest := [.int 1, .int p2, .ref (ad 0)]) ⟨hx, hb, hml, hown, hts⟩ hKK (cwV 2 hts gX7_makesSmall_X7_ofRegion rfl rfl rfl hdX7_ofRegion ⟨Nat.le_of_ble_eq_true rfl, Nat.le_of_ble_eq_true rfl⟩) (kX7_ofRegion (l := l) (g := g) hP hc9) (va_recv hK hP (ci := 7) (q0 := 0) rfl rfl) rfl hl.1 rfl (Nat.le_of_ble_eq_true rfl) dX7_makesSmall_44 ⟨Nat.zero_le _, Nat.zero_le _⟩ ?_
    refine lv_iload_n hx hb dX7_makesSmall_47 rfl (lv_at hl 2 rfl) ?_
    refine lv_iadd hx hb dX7_makesSmall_48 ?_
    obtain ⟨z5, hc10, hsem⟩ := bn_some hsem
    refine mcV (C := RX7) (As := [.int p2, .int 1, .int (x5 + p1)]) (rest := []) ⟨hx, hb, hml, hown, hts⟩ hKK hP hD hS hZ (cwV 3 hts gX7_makesSmall_X7_setsRegion rfl rfl rfl hdX7_setsRegion ⟨Nat.le_of_ble_eq_true rfl, Nat.le_of_ble_eq_true rfl⟩) (kX7_setsRegion (l := l) (g := g) (ad := ad) (A := z4) (F := F) hc10) (va_recv hK hP (ci := 7) (q0 := 0) rfl rfl) rfl hl.1 rfl (Nat.le_of_ble_eq_true rfl) dX7_makesSmall_49 ⟨Nat.zero_le _, Nat.zero_le _⟩ (fun H locs hP hD hS => ?_)
    have hP : va_P g.1 vwCl (wM g ad z5 F) H := hP
    have hD : va_D Z (wM g ad z5 F) := hD
    have eo := (Option.some.inj hsem).symm.symm
    subst eo
    exact W.vret hx hb hr (fun t ht hW => ⟨⟨(), rfl, trivial, ⟨by rw [ht]; exact hP, hD⟩⟩, hS.F ht⟩) hS.2.2 dX7_makesSmall_52
def sX7_makesBig_L3 (p1 : Int32) (p2 : Int32) (q1 : Int32 × IA) : Option ((Int32 × IA) ⊕ (IA)) :=
  if (p2 + ((p1 + 7) / 8)) ≤ q1.1 then (some (.inr q1.2)) else (if q1.1 = p2 then ((sX7_setsRegion q1.2 q1.1 0 3).bind fun z3 => (sX7_setsRegion z3 q1.1 1 8).bind fun z4 => some (.inl (q1.1 + 1, z4))) else ((sX7_setsRegion q1.2 q1.1 0 4).bind fun z1 => (sX7_setsRegion z1 q1.1 1 8).bind fun z2 => some (.inl (q1.1 + 1, z2))))
def sX7_makesBig (A : IA) (p0 : Int32) (p1 : Int32) (p2 : Int32) : Option (IA) :=
  (loopN (sX7_makesBig_L3 p1 p2) 2000 (p2, A)).bind fun q2 => (sX7_lies q2 p0 p1 p2 0).bind fun z5 => some z5
abbrev rmX7_makesBig : Room := { frames := 1, cells := 0, slots := 0, locals := 24 }
theorem hdX7_makesBig : yX7_makesBig.cls = RX7 ∧ yX7_makesBig.cls ≠ "java/lang/invoke/MethodHandle" ∧ yX7_makesBig.cls ≠ "java/lang/invoke/VarHandle" ∧ (parseMethodDescriptor yX7_makesBig.desc).map (fun d => d.parameters.length) = some 3 := by decide +kernel
set_option maxHeartbeats 4000000 in
set_option maxRecDepth 100000 in
theorem kX7_makesBig {l : Launch} {g : GG} {sz : Nat} {ad : Nat → Nat} {A : IA} {F : FA} {p0 p1 p2 : Int32} {b : IA} (hsem : sX7_makesBig A p0 p1 p2 = some b) : MetV l yX7_makesBig wsX7_makesBig rmX7_makesBig g [.ref (ad 0), .int p0, .int p1, .int p2] (wM g ad A F) sz (wM g ad b F) := by
  refine Met.ofW (cc := cX7_makesBig) (maxL := 5) (ret := none) (by decide) rfl ?_
  intro p e s m args below meth c s₁ B hml hv
  obtain ⟨rfl, hsz, hP, hD0, hKK⟩ := hv
  subst hsz
  have hx := B.exec
  have hb := B.bytes
  have hr := B.returns
  have hts := atoms_spec (ws := wsX7_makesBig) B.pre
  have hown : s.vm.findClass RX7 = some m.cls := findClass_of_methodNamed B.named
  have hlocks := B.notSynchronized
  have hK := hKK.1
  have hD := hD0.self (sz := s.heap.size)
  generalize hZe : va_A (wM g ad A F) s.heap.size = Z at hD ⊢
  have hZ : ∀ q : Nat, s.heap.size ≤ q → Z q := fun q h => by rw [← hZe]; exact Or.inr h
  have hS : va_S Z s.heap s.heap [] := va_S.rf
  have hP : va_P g.1 vwCl (wM g ad A F) s.heap := hP
  have hD : va_D Z (wM g ad A F) := hD
  have hl := lv_entry ([.ref (ad 0), .int p0, .int p1, .int p2]) (n := 5) (Nat.le_of_ble_eq_true rfl)
  rw [lg_entry_eq]
  generalize (lg_sl ([.ref (ad 0), .int p0, .int p1, .int p2]) ++ List.replicate (5 - (lg_sl ([.ref (ad 0), .int p0, .int p1, .int p2])).length) Slot.unset).toArray = ls at hl ⊢
  have hl : lv_has ls 5 [(0, .ref (ad 0)), (1, .int p0), (2, .int p1), (3, .int p2)] := hl
  unfold sX7_makesBig at hsem
  refine lv_iload_n hx hb dX7_makesBig_0 rfl (lv_at hl 3 rfl) ?_
  refine lv_istore (lv' := [(4, .int p2), (0, .ref (ad 0)), (1, .int p0), (2, .int p1), (3, .int p2)]) hx hb dX7_makesBig_1 hl (by decide) rfl (fun ls hl => ?_)
  obtain ⟨q2, hc5, hsem⟩ := bn_some hsem
  refine loopM (g := g) hc5 (fun (q1 : Int32 × IA) => [(4, .int q1.1), (0, .ref (ad 0)), (1, .int p0), (2, .int p1), (3, .int p2)]) (fun (q1 : IA) => [(0, .ref (ad 0)), (1, .int p0), (2, .int p1), (3, .int p2)]) (exit := 50) (fun (q1 : Int32 × IA) => wM g ad q1.2 F) (fun (q1 : IA) => wM g ad q1 F) hP hD hS (lv_sub hl [0, 1, 2, 3, 4] rfl) (fun H locs ls hP hD hS hl => ?_) (fun q1 r hst1 hin1 hout1 H locs ls hP hD hS hl => ?_)
  · have hP : va_P g.1 vwCl (wM g ad q2 F) H := hP
    have hD : va_D Z (wM g ad q2 F) := hD
    refine lv_aload_n hx hb dX7_makesBig_50 rfl (lv_at hl 0 rfl) ?_
    refine lv_iload_n hx hb dX7_makesBig_51 rfl (lv_at hl 1 rfl) ?_
    refine lv_iload_n hx hb dX7_makesBig_52 rfl (lv_at hl 2 rfl) ?_
    refine lv_iload_n hx hb dX7_makesBig_53 rfl (lv_at hl 3 rfl) ?_
    refine lv_iconst (v := 0) hx hb dX7_makesBig_54 (by decide) ?_
    obtain ⟨z5, hc6, hsem⟩ := bn_some hsem
    refine mcV (C := RX7) (As := [.int p0, .int p1, .int p2, .int 0]) (rest := []) ⟨hx, hb, hml, hown, hts⟩ hKK hP hD hS hZ (cwV 4 hts gX7_makesBig_X7_lies rfl rfl rfl hdX7_lies ⟨Nat.le_of_ble_eq_true rfl, Nat.le_of_ble_eq_true rfl⟩) (kX7_lies (l := l) (g := g) (ad := ad) (A := q2) (F := F) hc6) (va_recv hK hP (ci := 7) (q0 := 0) rfl rfl) rfl hl.1 rfl (Nat.le_of_ble_eq_true rfl) dX7_makesBig_55 ⟨Nat.zero_le _, Nat.zero_le _⟩ (fun H locs hP hD hS => ?_)
    have hP : va_P g.1 vwCl (wM g ad z5 F) H := hP
    have hD : va_D Z (wM g ad z5 F) := hD
    have eo := (Option.some.inj hsem).symm.symm
    subst eo
    exact W.vret hx hb hr (fun t ht hW => ⟨⟨(), rfl, trivial, ⟨by rw [ht]; exact hP, hD⟩⟩, hS.F ht⟩) hS.2.2 dX7_makesBig_58
  · unfold sX7_makesBig_L3 at hst1
    have hP : va_P g.1 vwCl (wM g ad q1.2 F) H := hP
    have hD : va_D Z (wM g ad q1.2 F) := hD
    refine lv_iload hx hb dX7_makesBig_3 (lv_at hl 0 rfl) ?_
    refine lv_iload_n hx hb dX7_makesBig_5 rfl (lv_at hl 4 rfl) ?_
    refine lv_iload_n hx hb dX7_makesBig_6 rfl (lv_at hl 3 rfl) ?_
    refine lv_bipush (v := 7) hx hb dX7_makesBig_7 (by decide) ?_
    refine lv_iadd hx hb dX7_makesBig_9 ?_
    refine lv_bipush (v := 8) hx hb dX7_makesBig_10 (by decide) ?_
    refine lv_idiv hx hb dX7_makesBig_12 (by decide) ?_
    refine lv_iadd hx hb dX7_makesBig_13 ?_
    refine lv_icmp_ge (tgt := 50) hx hb dX7_makesBig_14 (by decide) (fun c1 => ?_) (fun c1 => ?_)
    · rw [if_pos c1] at hst1
      exact hout1 H locs ls _ (Option.some.inj hst1).symm hP hD hS (lv_sub hl [1, 2, 3, 4] rfl)
    · rw [if_neg c1] at hst1
      refine lv_aload_n hx hb dX7_makesBig_17 rfl (lv_at hl 1 rfl) ?_
      refine lv_iload hx hb dX7_makesBig_18 (lv_at hl 0 rfl) ?_
      refine lv_iconst (v := 0) hx hb dX7_makesBig_20 (by decide) ?_
      refine lv_iload hx hb dX7_makesBig_21 (lv_at hl 0 rfl) ?_
      refine lv_iload_n hx hb dX7_makesBig_23 rfl (lv_at hl 4 rfl) ?_
      refine lv_icmp_ne (tgt := 31) hx hb dX7_makesBig_24 (by decide) (fun c2 => ?_) (fun c2 => ?_)
      · rw [if_neg c2] at hst1
        refine lv_iconst (v := 4) hx hb dX7_makesBig_31 (by decide) ?_
        obtain ⟨z1, hc1, hst1⟩ := bn_some hst1
        refine mcV (C := RX7) (As := [.int q1.1, .int 0, .int 4]) (rest := []) ⟨hx, hb, hml, hown, hts⟩ hKK hP hD hS hZ (cwV 3 hts gX7_makesBig_X7_setsRegion rfl rfl rfl hdX7_setsRegion ⟨Nat.le_of_ble_eq_true rfl, Nat.le_of_ble_eq_true rfl⟩) (kX7_setsRegion (l := l) (g := g) (ad := ad) (A := q1.2) (F := F) hc1) (va_recv hK hP (ci := 7) (q0 := 0) rfl rfl) rfl hl.1 rfl (Nat.le_of_ble_eq_true rfl) dX7_makesBig_32 ⟨Nat.zero_le _, Nat.zero_le _⟩ (fun H locs hP hD hS => ?_)
        have hP : va_P g.1 vwCl (wM g ad z1 F) H := hP
        have hD : va_D Z (wM g ad z1 F) := hD
        refine lv_aload_n hx hb dX7_makesBig_35 rfl (lv_at hl 1 rfl) ?_
        refine lv_iload hx hb dX7_makesBig_36 (lv_at hl 0 rfl) ?_
        refine lv_iconst (v := 1) hx hb dX7_makesBig_38 (by decide) ?_
        refine lv_bipush (v := 8) hx hb dX7_makesBig_39 (by decide) ?_
        obtain ⟨z2, hc2, hst1⟩ := bn_some hst1
        refine mcV (C := RX7) (As := [.int q1.1, .int 1, .int 8]) (rest := []) ⟨hx, hb, hml, hown, hts⟩ hKK hP hD hS hZ (cwV 3 hts gX7_makesBig_X7_setsRegion rfl rfl rfl hdX7_setsRegion ⟨Nat.le_of_ble_eq_true rfl, Nat.le_of_ble_eq_true rfl⟩) (kX7_setsRegion (l := l) (g := g) (ad := ad) (A := z1) (F := F) hc2) (va_recv hK hP (ci := 7) (q0 := 0) rfl rfl) rfl hl.1 rfl (Nat.le_of_ble_eq_true rfl) dX7_makesBig_41 ⟨Nat.zero_le _, Nat.zero_le _⟩ (fun H locs hP hD hS => ?_)
        have hP : va_P g.1 vwCl (wM g ad z2 F) H := hP
        have hD : va_D Z (wM g ad z2 F) := hD
        refine lv_iinc (v := q1.1 + 1) (lv' := [(4, .int (q1.1 + 1)), (0, .ref (ad 0)), (1, .int p0), (2, .int p1), (3, .int p2)]) hx hb dX7_makesBig_44 hl (k := 0) rfl rfl (by decide) rfl (fun ls hl => ?_)
        refine lv_goto (tgt := 3) hx hb dX7_makesBig_47 (by decide) ?_
        exact hin1 H locs ls _ (Option.some.inj hst1).symm hP hD hS (lv_sub hl [0, 1, 2, 3, 4] rfl)
      · rw [if_pos c2] at hst1
        refine lv_iconst (v := 3) hx hb dX7_makesBig_27 (by decide) ?_
        refine lv_goto (tgt := 32) hx hb dX7_makesBig_28 (by decide) ?_
        obtain ⟨z3, hc3, hst1⟩ := bn_some hst1
        refine mcV (C := RX7) (As := [.int q1.1, .int 0, .int 3]) (rest := []) ⟨hx, hb, hml, hown, hts⟩ hKK hP hD hS hZ (cwV 3 hts gX7_makesBig_X7_setsRegion rfl rfl rfl hdX7_setsRegion ⟨Nat.le_of_ble_eq_true rfl, Nat.le_of_ble_eq_true rfl⟩) (kX7_setsRegion (l := l) (g := g) (ad := ad) (A := q1.2) (F := F) hc3) (va_recv hK hP (ci := 7) (q0 := 0) rfl rfl) rfl hl.1 rfl (Nat.le_of_ble_eq_true rfl) dX7_makesBig_32 ⟨Nat.zero_le _, Nat.zero_le _⟩ (fun H locs hP hD hS => ?_)
        have hP : va_P g.1 vwCl (wM g ad z3 F) H := hP
        have hD : va_D Z (wM g ad z3 F) := hD
        refine lv_aload_n hx hb dX7_makesBig_35 rfl (lv_at hl 1 rfl) ?_
        refine lv_iload hx hb dX7_makesBig_36 (lv_at hl 0 rfl) ?_
        refine lv_iconst (v := 1) hx hb dX7_makesBig_38 (by decide) ?_
        refine lv_bipush (v := 8) hx hb dX7_makesBig_39 (by decide) ?_
        obtain ⟨z4, hc4, hst1⟩ := bn_some hst1
        refine mcV (C := RX7) (As := [.int q1.1, .int 1, .int 8]) (rest := []) ⟨hx, hb, hml, hown, hts⟩ hKK hP hD hS hZ (cwV 3 hts gX7_makesBig_X7_setsRegion rfl rfl rfl hdX7_setsRegion ⟨Nat.le_of_ble_eq_true rfl, Nat.le_of_ble_eq_true rfl⟩) (kX7_setsRegion (l := l) (g := g) (ad := ad) (A := z3) (F := F) hc4) (va_recv hK hP (ci := 7) (q0 := 0) rfl rfl) rfl hl.1 rfl (Nat.le_of_ble_eq_true rfl) dX7_makesBig_41 ⟨Nat.zero_le _, Nat.zero_le _⟩ (fun H locs hP hD hS => ?_)
        have hP : va_P g.1 vwCl (wM g ad z4 F) H := hP
        have hD : va_D Z (wM g ad z4 F) := hD
        refine lv_iinc (v := q1.1 + 1) (lv' := [(4, .int (q1.1 + 1)), (0, .ref (ad 0)), (1, .int p0), (2, .int p1), (3, .int p2)]) hx hb dX7_makesBig_44 hl (k := 0) rfl rfl (by decide) rfl (fun ls hl => ?_)
        refine lv_goto (tgt := 3) hx hb dX7_makesBig_47 (by decide) ?_
        exact hin1 H locs ls _ (Option.some.inj hst1).symm hP hD hS (lv_sub hl [0, 1, 2, 3, 4] rfl)
