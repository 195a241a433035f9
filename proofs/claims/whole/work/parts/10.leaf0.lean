def sJ6_bitCount_0f7a4 (p0 : Int32) : Option (Int32) :=
  bd (p0 - (((p0.toUInt32 >>> ((1 : Int32).toUInt32 &&& Int32.toUInt32 31)).toInt32) &&& 1431655765)) fun x1 => bd ((x1 &&& 858993459) + (((x1.toUInt32 >>> ((2 : Int32).toUInt32 &&& Int32.toUInt32 31)).toInt32) &&& 858993459)) fun x2 => bd ((x2 + ((x2.toUInt32 >>> ((4 : Int32).toUInt32 &&& Int32.toUInt32 31)).toInt32)) &&& 252645135) fun x3 => bd (x3 + ((x3.toUInt32 >>> ((8 : Int32).toUInt32 &&& Int32.toUInt32 31)).toInt32)) fun x4 => bd (x4 + ((x4.toUInt32 >>> ((16 : Int32).toUInt32 &&& Int32.toUInt32 31)).toInt32)) fun x5 => some (x5 &&& 63)
abbrev rmJ6_bitCount_0f7a4 : Room := { frames := 0, cells := 0, slots := 0, locals := 0 }
theorem hdJ6_bitCount_0f7a4 : yJ6_bitCount_0f7a4.cls ≠ "java/lang/invoke/MethodHandle" ∧ yJ6_bitCount_0f7a4.cls ≠ "java/lang/invoke/VarHandle" ∧ (parseMethodDescriptor yJ6_bitCount_0f7a4.desc).map (fun d => d.parameters.length) = some 1 := by decide +kernel
set_option maxHeartbeats 4000000 in
set_option maxRecDepth 100000 in
theorem kJ6_bitCount_0f7a4 {l : Launch} {g : GG} {H0 : Heap}  {p0 : Int32} {b : Int32} (hsem : sJ6_bitCount_0f7a4 p0 = some b) : MetP l yJ6_bitCount_0f7a4 wsJ6_bitCount_0f7a4 rmJ6_bitCount_0f7a4 g H0 [.int p0] b := by
  refine Met.ofW (cc := cJ6_bitCount_0f7a4) (maxL := 1) (ret := (some .int)) (by decide) rfl ?_
  intro p e s m args below meth c s₁ B hml hv
  obtain ⟨rfl, hH, hKK⟩ := hv
  subst hH
  have hx := B.exec
  have hb := B.bytes
  have hr := B.returns
  have hts := atoms_spec (ws := wsJ6_bitCount_0f7a4) B.pre
  have hown : s.vm.findClass RJ6 = some m.cls := findClass_of_methodNamed B.named
  have hlocks := B.notSynchronized
  have hK := hKK.1
  have hl := lv_entry ([.int p0]) (n := 1) (Nat.le_of_ble_eq_true rfl)
  rw [lg_entry_eq]
  generalize (lg_sl ([.int p0]) ++ List.replicate (1 - (lg_sl ([.int p0])).length) Slot.unset).toArray = ls at hl ⊢
  have hl : lv_has ls 1 [(0, .int p0)] := hl
  unfold sJ6_bitCount_0f7a4 at hsem
  refine lv_iload_n hx hb dJ6_bitCount_0f7a4_0 rfl (lv_at hl 0 rfl) ?_
  refine lv_iload_n hx hb dJ6_bitCount_0f7a4_1 rfl (lv_at hl 0 rfl) ?_
  refine lv_iconst (v := 1) hx hb dJ6_bitCount_0f7a4_2 (by decide) ?_
  refine lv_iushr hx hb dJ6_bitCount_0f7a4_3 rfl ?_
  refine lv_ldcw hx hb hown (hts (.constant RJ6 265 (1431655765)) (List.mem_of_getElem? (i := 1) rfl)) dJ6_bitCount_0f7a4_4 ?_
  refine lv_iand hx hb dJ6_bitCount_0f7a4_7 ?_
  refine lv_isub hx hb dJ6_bitCount_0f7a4_8 ?_
  obtain ⟨x1, ex1, hsem⟩ := bd_some hsem
  rw [← ex1]
  refine lv_istore_n (lv' := [(0, .int x1)]) hx hb dJ6_bitCount_0f7a4_9 rfl hl (by decide) rfl (fun ls hl => ?_)
  refine lv_iload_n hx hb dJ6_bitCount_0f7a4_10 rfl (lv_at hl 0 rfl) ?_
  refine lv_ldcw hx hb hown (hts (.constant RJ6 266 (858993459)) (List.mem_of_getElem? (i := 2) rfl)) dJ6_bitCount_0f7a4_11 ?_
  refine lv_iand hx hb dJ6_bitCount_0f7a4_14 ?_
  refine lv_iload_n hx hb dJ6_bitCount_0f7a4_15 rfl (lv_at hl 0 rfl) ?_
  refine lv_iconst (v := 2) hx hb dJ6_bitCount_0f7a4_16 (by decide) ?_
  refine lv_iushr hx hb dJ6_bitCount_0f7a4_17 rfl ?_
  refine lv_ldcw hx hb hown (hts (.constant RJ6 266 (858993459)) (List.mem_of_getElem? (i := 2) rfl)) dJ6_bitCount_0f7a4_18 ?_
  refine lv_iand hx hb dJ6_bitCount_0f7a4_21 ?_
  refine lv_iadd hx hb dJ6_bitCount_0f7a4_22 ?_
  obtain ⟨x2, ex2, hsem⟩ := bd_some hsem
  rw [← ex2]
  refine lv_istore_n (lv' := [(0, .int x2)]) hx hb dJ6_bitCount_0f7a4_23 rfl hl (by decide) rfl (fun ls hl => ?_)
  refine lv_iload_n hx hb dJ6_bitCount_0f7a4_24 rfl (lv_at hl 0 rfl) ?_
  refine lv_iload_n hx hb dJ6_bitCount_0f7a4_25 rfl (lv_at hl 0 rfl) ?_
  refine lv_iconst (v := 4) hx hb dJ6_bitCount_0f7a4_26 (by decide) ?_
  refine lv_iushr hx hb dJ6_bitCount_0f7a4_27 rfl ?_
  refine lv_iadd hx hb dJ6_bitCount_0f7a4_28 ?_
  refine lv_ldcw hx hb hown (hts (.constant RJ6 267 (252645135)) (List.mem_of_getElem? (i := 3) rfl)) dJ6_bitCount_0f7a4_29 ?_
  refine lv_iand hx hb dJ6_bitCount_0f7a4_32 ?_
  obtain ⟨x3, ex3, hsem⟩ := bd_some hsem
  rw [← ex3]
  refine lv_istore_n (lv' := [(0, .int x3)]) hx hb dJ6_bitCount_0f7a4_33 rfl hl (by decide) rfl (fun ls hl => ?_)
  refine lv_iload_n hx hb dJ6_bitCount_0f7a4_34 rfl (lv_at hl 0 rfl) ?_
  refine lv_iload_n hx hb dJ6_bitCount_0f7a4_35 rfl (lv_at hl 0 rfl) ?_
  refine lv_bipush (v := 8) hx hb dJ6_bitCount_0f7a4_36 (by decide) ?_
  refine lv_iushr hx hb dJ6_bitCount_0f7a4_38 rfl ?_
  refine lv_iadd hx hb dJ6_bitCount_0f7a4_39 ?_
  obtain ⟨x4, ex4, hsem⟩ := bd_some hsem
  rw [← ex4]
  refine lv_istore_n (lv' := [(0, .int x4)]) hx hb dJ6_bitCount_0f7a4_40 rfl hl (by decide) rfl (fun ls hl => ?_)
  refine lv_iload_n hx hb dJ6_bitCount_0f7a4_41 rfl (lv_at hl 0 rfl) ?_
  refine lv_iload_n hx hb dJ6_bitCount_0f7a4_42 rfl (lv_at hl 0 rfl) ?_
  refine lv_bipush (v := 16) hx hb dJ6_bitCount_0f7a4_43 (by decide) ?_
  refine lv_iushr hx hb dJ6_bitCount_0f7a4_45 rfl ?_
  refine lv_iadd hx hb dJ6_bitCount_0f7a4_46 ?_
  obtain ⟨x5, ex5, hsem⟩ := bd_some hsem
  rw [← ex5]
  refine lv_istore_n (lv' := [(0, .int x5)]) hx hb dJ6_bitCount_0f7a4_47 rfl hl (by decide) rfl (fun ls hl => ?_)
  refine lv_iload_n hx hb dJ6_bitCount_0f7a4_48 rfl (lv_at hl 0 rfl) ?_
  refine lv_bipush (v := 63) hx hb dJ6_bitCount_0f7a4_49 (by decide) ?_
  refine lv_iand hx hb dJ6_bitCount_0f7a4_51 ?_
  have eo := (Option.some.inj hsem).symm.symm
  exact W.iret (v := x5 &&& 63) hx hb hr (fun t ht hW => ⟨⟨_, (), rfl, eo, ht⟩, (va_S.rf (A := fun _ => False) (H0 := s.heap)).F ht⟩) (fun q hq => absurd hq List.not_mem_nil) dJ6_bitCount_0f7a4_52
def sJ7_fill_53178_L5 (z : Nat) (p1 : Int32) (x1 : Int32) (q1 : Int32 × (Nat → Int32)) : Option ((Int32 × (Nat → Int32)) ⊕ ((Nat → Int32))) :=
  if x1 ≤ q1.1 then (some (.inr q1.2)) else (ck q1.1 z (bd (upd q1.2 q1.1.toNatClampNeg p1) fun f1 => some (.inl (q1.1 + 1, f1))))
def sJ7_fill_53178 (z : Nat) (f : Nat → Int32) (p1 : Int32) : Option ((Nat → Int32)) :=
  bd (Int32.ofNat z) fun x1 => (loopN (sJ7_fill_53178_L5 z p1 x1) 2000 (0, f)).bind fun q2 => some q2
abbrev rmJ7_fill_53178 : Room := { frames := 0, cells := 0, slots := 0, locals := 0 }
theorem hdJ7_fill_53178 : yJ7_fill_53178.cls ≠ "java/lang/invoke/MethodHandle" ∧ yJ7_fill_53178.cls ≠ "java/lang/invoke/VarHandle" ∧ (parseMethodDescriptor yJ7_fill_53178.desc).map (fun d => d.parameters.length) = some 2 := by decide +kernel
set_option maxHeartbeats 4000000 in
set_option maxRecDepth 100000 in
theorem kJ7_fill_53178 {l : Launch} {g : GG} {sz : Nat} {a0 : Nat} {z : Nat} {f : Nat → Int32} {p1 : Int32} {b : (Nat → Int32)} (hsem : sJ7_fill_53178 z f p1 = some b) : MetV l yJ7_fill_53178 wsJ7_fill_53178 rmJ7_fill_53178 g [.ref a0, .int p1] (wIA g a0 z f) sz (wIA g a0 z b) := by
  refine Met.ofW (cc := cJ7_fill_53178) (maxL := 4) (ret := none) (by decide) rfl ?_
  intro p e s m args below meth c s₁ B hml hv
  obtain ⟨rfl, hsz, hP, hD0, hKK⟩ := hv
  subst hsz
  have hx := B.exec
  have hb := B.bytes
  have hr := B.returns
  have hts := atoms_spec (ws := wsJ7_fill_53178) B.pre
  have hown : s.vm.findClass RJ7 = some m.cls := findClass_of_methodNamed B.named
  have hlocks := B.notSynchronized
  have hK := hKK.1
  have hD := hD0.self (sz := s.heap.size)
  generalize hZe : va_A (wIA g a0 z f) s.heap.size = Z at hD ⊢
  have hZ : ∀ q : Nat, s.heap.size ≤ q → Z q := fun q h => by rw [← hZe]; exact Or.inr h
  have hS : va_S Z s.heap s.heap [] := va_S.rf
  have hP : va_P g.1 vwCl (wIA g a0 z f) s.heap := hP
  have hD : va_D Z (wIA g a0 z f) := hD
  have hl := lv_entry ([.ref a0, .int p1]) (n := 4) (Nat.le_of_ble_eq_true rfl)
  rw [lg_entry_eq]
  generalize (lg_sl ([.ref a0, .int p1]) ++ List.replicate (4 - (lg_sl ([.ref a0, .int p1])).length) Slot.unset).toArray = ls at hl ⊢
  have hl : lv_has ls 4 [(0, .ref a0), (1, .int p1)] := hl
  unfold sJ7_fill_53178 at hsem
  refine lv_iconst (v := 0) hx hb dJ7_fill_53178_0 (by decide) ?_
  refine lv_istore_n (lv' := [(2, .int 0), (0, .ref a0), (1, .int p1)]) hx hb dJ7_fill_53178_1 rfl hl (by decide) rfl (fun ls hl => ?_)
  refine lv_aload_n hx hb dJ7_fill_53178_2 rfl (lv_at hl 1 rfl) ?_
  refine va_alen (D := g.1) hx hb hK hP 0 0 rfl rfl rfl dJ7_fill_53178_3 ?_
  obtain ⟨x1, ex1, hsem⟩ := bd_some hsem
  rw [← ex1]
  refine lv_istore_n (lv' := [(3, .int x1), (2, .int 0), (0, .ref a0), (1, .int p1)]) hx hb dJ7_fill_53178_4 rfl hl (by decide) rfl (fun ls hl => ?_)
  obtain ⟨q2, hc1, hsem⟩ := bn_some hsem
  refine loopM (g := g) hc1 (fun (q1 : Int32 × (Nat → Int32)) => [(3, .int x1), (2, .int q1.1), (0, .ref a0), (1, .int p1)]) (fun (q1 : (Nat → Int32)) => []) (exit := 20) (fun (q1 : Int32 × (Nat → Int32)) => wIA g a0 z q1.2) (fun (q1 : (Nat → Int32)) => wIA g a0 z q1) hP hD hS (lv_sub hl [0, 1, 2, 3] rfl) (fun H locs ls hP hD hS hl => ?_) (fun q1 r hst1 hin1 hout1 H locs ls hP hD hS hl => ?_)
  · have hP : va_P g.1 vwCl (wIA g a0 z q2) H := hP
    have hD : va_D Z (wIA g a0 z q2) := hD
    have eo := (Option.some.inj hsem).symm.symm
    subst eo
    exact W.vret hx hb hr (fun t ht hW => ⟨⟨(), rfl, trivial, ⟨by rw [ht]; exact hP, hD⟩⟩, hS.F ht⟩) hS.2.2 dJ7_fill_53178_20
  · unfold sJ7_fill_53178_L5 at hst1
    have hP : va_P g.1 vwCl (wIA g a0 z q1.2) H := hP
    have hD : va_D Z (wIA g a0 z q1.2) := hD
    refine lv_iload_n hx hb dJ7_fill_53178_5 rfl (lv_at hl 1 rfl) ?_
    refine lv_iload_n hx hb dJ7_fill_53178_6 rfl (lv_at hl 0 rfl) ?_
    refine lv_icmp_ge (tgt := 20) hx hb dJ7_fill_53178_7 (by decide) (fun c1 => ?_) (fun c1 => ?_)
    · rw [if_pos c1] at hst1
      exact hout1 H locs ls _ (Option.some.inj hst1).symm hP hD hS (lv_sub hl [] rfl)
    · rw [if_neg c1] at hst1
      refine lv_aload_n hx hb dJ7_fill_53178_10 rfl (lv_at hl 2 rfl) ?_
      refine lv_iload_n hx hb dJ7_fill_53178_11 rfl (lv_at hl 1 rfl) ?_
      refine lv_iload_n hx hb dJ7_fill_53178_12 rfl (lv_at hl 3 rfl) ?_
      obtain ⟨h1, hst1⟩ := ck_some hst1
      refine va_iast (D := g.1) hx hb hK hP hD hS 0 0 rfl rfl h1 dJ7_fill_53178_13 (fun H locs hP hD hS => ?_)
      obtain ⟨f1, ef1, hst1⟩ := bd_some hst1
      have hP : va_P g.1 vwCl (wIA g a0 z f1) H := by rw [ef1]; exact hP
      have hD : va_D Z (wIA g a0 z f1) := by rw [ef1]; exact hD
      refine lv_iinc (v := q1.1 + 1) (lv' := [(2, .int (q1.1 + 1)), (3, .int x1), (0, .ref a0), (1, .int p1)]) hx hb dJ7_fill_53178_14 hl (k := 1) rfl rfl (by decide) rfl (fun ls hl => ?_)
      refine lv_goto (tgt := 5) hx hb dJ7_fill_53178_17 (by decide) ?_
      exact hin1 H locs ls _ (Option.some.inj hst1).symm hP hD hS (lv_sub hl [1, 0, 2, 3] rfl)
def sX6_hasBit (p0 : Int32) (p1 : Int32) : Option (Int32) :=
  if ((p0 >>> (p1 &&& 31)) &&& 1) = 1 then (some 1) else (some 0)
abbrev rmX6_hasBit : Room := { frames := 0, cells := 0, slots := 0, locals := 0 }
theorem hdX6_hasBit : yX6_hasBit.cls ≠ "java/lang/invoke/MethodHandle" ∧ yX6_hasBit.cls ≠ "java/lang/invoke/VarHandle" ∧ (parseMethodDescriptor yX6_hasBit.desc).map (fun d => d.parameters.length) = some 2 := by decide +kernel
set_option maxHeartbeats 4000000 in
set_option maxRecDepth 100000 in
theorem kX6_hasBit {l : Launch} {g : GG} {H0 : Heap}  {p0 p1 : Int32} {b : Int32} (hsem : sX6_hasBit p0 p1 = some b) : MetP l yX6_hasBit wsX6_hasBit rmX6_hasBit g H0 [.int p0, .int p1] b := by
  refine Met.ofW (cc := cX6_hasBit) (maxL := 2) (ret := (some .boolean)) (by decide) rfl ?_
  intro p e s m args below meth c s₁ B hml hv
  obtain ⟨rfl, hH, hKK⟩ := hv
  subst hH
  have hx := B.exec
  have hb := B.bytes
  have hr := B.returns
  have hts := atoms_spec (ws := wsX6_hasBit) B.pre
  have hown : s.vm.findClass RX6 = some m.cls := findClass_of_methodNamed B.named
  have hlocks := B.notSynchronized
  have hK := hKK.1
  have hl := lv_entry ([.int p0, .int p1]) (n := 2) (Nat.le_of_ble_eq_true rfl)
  rw [lg_entry_eq]
  generalize (lg_sl ([.int p0, .int p1]) ++ List.replicate (2 - (lg_sl ([.int p0, .int p1])).length) Slot.unset).toArray = ls at hl ⊢
  have hl : lv_has ls 2 [(0, .int p0), (1, .int p1)] := hl
  unfold sX6_hasBit at hsem
  refine lv_iload_n hx hb dX6_hasBit_0 rfl (lv_at hl 0 rfl) ?_
  refine lv_iload_n hx hb dX6_hasBit_1 rfl (lv_at hl 1 rfl) ?_
  refine lv_ishr hx hb dX6_hasBit_2 ?_
  refine lv_iconst (v := 1) hx hb dX6_hasBit_3 (by decide) ?_
  refine lv_iand hx hb dX6_hasBit_4 ?_
  refine lv_iconst (v := 1) hx hb dX6_hasBit_5 (by decide) ?_
  refine lv_icmp_ne (tgt := 13) hx hb dX6_hasBit_6 (by decide) (fun c1 => ?_) (fun c1 => ?_)
  · rw [if_neg c1] at hsem
    refine lv_iconst (v := 0) hx hb dX6_hasBit_13 (by decide) ?_
    have eo := (Option.some.inj hsem).symm.symm
    exact W.zret (v := 0) hx hb hr rfl (fun t ht hW => ⟨⟨_, (), rfl, eo, ht⟩, (va_S.rf (A := fun _ => False) (H0 := s.heap)).F ht⟩) (fun q hq => absurd hq List.not_mem_nil) dX6_hasBit_14
  · rw [if_pos c1] at hsem
    refine lv_iconst (v := 1) hx hb dX6_hasBit_9 (by decide) ?_
    refine lv_goto (tgt := 14) hx hb dX6_hasBit_10 (by decide) ?_
    have eo := (Option.some.inj hsem).symm.symm
    exact W.zret (v := 1) hx hb hr rfl (fun t ht hW => ⟨⟨_, (), rfl, eo, ht⟩, (va_S.rf (A := fun _ => False) (H0 := s.heap)).F ht⟩) (fun q hq => absurd hq List.not_mem_nil) dX6_hasBit_14
def sX5_append_L2 (f : Nat → Int32) (n : Int32) (p0 : Int32) (q1 : Int32) : Option ((Int32) ⊕ (Int32 × (Nat → Int32) × Int32)) :=
  if n ≤ q1 then (if n < 32 then (ck n 32 (bd (upd f n.toNatClampNeg p0) fun f1 => bd (n + 1) fun n1 => some (.inr (1, f1, n1)))) else (some (.inr (0, f, n)))) else (ck q1 32 (if (f q1.toNatClampNeg) = p0 then (some (.inr (0, f, n))) else (some (.inl (q1 + 1)))))
def sX5_append (f : Nat → Int32) (n : Int32) (p0 : Int32) : Option (Int32 × (Nat → Int32) × Int32) :=
  loopN (sX5_append_L2 f n p0) 2000 0
abbrev rmX5_append : Room := { frames := 0, cells := 0, slots := 0, locals := 0 }
theorem hdX5_append : yX5_append.cls = RX5 ∧ yX5_append.cls ≠ "java/lang/invoke/MethodHandle" ∧ yX5_append.cls ≠ "java/lang/invoke/VarHandle" ∧ (parseMethodDescriptor yX5_append.desc).map (fun d => d.parameters.length) = some 1 := by decide +kernel
set_option maxHeartbeats 4000000 in
set_option maxRecDepth 100000 in
theorem kX5_append {l : Launch} {g : GG} {sz : Nat} {a0 a1 : Nat} {f : Nat → Int32} {n : Int32} {p0 : Int32} {b : Int32 × (Nat → Int32) × Int32} (hsem : sX5_append f n p0 = some b) : MetI l yX5_append wsX5_append rmX5_append g [.ref a0, .int p0] (wRow g a0 a1 f n) sz b.1 (wRow g a0 a1 b.2.1 b.2.2) := by
  refine Met.ofW (cc := cX5_append) (maxL := 3) (ret := (some .boolean)) (by decide) rfl ?_
  intro p e s m args below meth c s₁ B hml hv
  obtain ⟨rfl, hsz, hP, hD0, hKK⟩ := hv
  subst hsz
  have hx := B.exec
  have hb := B.bytes
  have hr := B.returns
  have hts := atoms_spec (ws := wsX5_append) B.pre
  have hown : s.vm.findClass RX5 = some m.cls := findClass_of_methodNamed B.named
  have hlocks := B.notSynchronized
  have hK := hKK.1
  have hD := hD0.self (sz := s.heap.size)
  generalize hZe : va_A (wRow g a0 a1 f n) s.heap.size = Z at hD ⊢
  have hZ : ∀ q : Nat, s.heap.size ≤ q → Z q := fun q h => by rw [← hZe]; exact Or.inr h
  have hS : va_S Z s.heap s.heap [] := va_S.rf
  have hP : va_P g.1 vwCl (wRow g a0 a1 f n) s.heap := hP
  have hD : va_D Z (wRow g a0 a1 f n) := hD
  have hl := lv_entry ([.ref a0, .int p0]) (n := 3) (Nat.le_of_ble_eq_true rfl)
  rw [lg_entry_eq]
  generalize (lg_sl ([.ref a0, .int p0]) ++ List.replicate (3 - (lg_sl ([.ref a0, .int p0])).length) Slot.unset).toArray = ls at hl ⊢
  have hl : lv_has ls 3 [(0, .ref a0), (1, .int p0)] := hl
  unfold sX5_append at hsem
  refine lv_iconst (v := 0) hx hb dX5_append_0 (by decide) ?_
  refine lv_istore_n (lv' := [(2, .int 0), (0, .ref a0), (1, .int p0)]) hx hb dX5_append_1 rfl hl (by decide) rfl (fun ls hl => ?_)
  refine loopMe (g := g) hsem (fun (q1 : Int32) => [(2, .int q1), (0, .ref a0), (1, .int p0)]) (fun (q1 : Int32) => wRow g a0 a1 f n) hP hD hS (lv_sub hl [0, 1, 2] rfl) (fun q1 r hst1 hin1 hout1 H locs ls hP hD hS hl => ?_)
  unfold sX5_append_L2 at hst1
  have hP : va_P g.1 vwCl (wRow g a0 a1 f n) H := hP
  have hD : va_D Z (wRow g a0 a1 f n) := hD
  refine lv_iload_n hx hb dX5_append_2 rfl (lv_at hl 0 rfl) ?_
  refine lv_aload_n hx hb dX5_append_3 rfl (lv_at hl 1 rfl) ?_
  refine va_get (D := g.1) (ci := 5) (v := .int n) (C := RX5) (T := TX5) (N := 2) hx hb hts (fun w h => List.mem_cons_of_mem _ (List.mem_append_right _ h)) hown hK hP 0 rfl rfl 1 (by decide) (hts (.fieldLink RX5 21 "PauseRegions$Row" "length" "I") (List.mem_of_getElem? (i := 1) rfl)) (fun _ h9 => h9) rfl dX5_append_4 ?_
  refine lv_icmp_ge (tgt := 28) hx hb dX5_append_7 (by decide) (fun c1 => ?_) (fun c1 => ?_)
  · rw [if_pos c1] at hst1
    refine lv_aload_n hx hb dX5_append_28 rfl (lv_at hl 1 rfl) ?_
    refine va_get (D := g.1) (ci := 5) (v := .int n) (C := RX5) (T := TX5) (N := 2) hx hb hts (fun w h => List.mem_cons_of_mem _ (List.mem_append_right _ h)) hown hK hP 0 rfl rfl 1 (by decide) (hts (.fieldLink RX5 21 "PauseRegions$Row" "length" "I") (List.mem_of_getElem? (i := 1) rfl)) (fun _ h9 => h9) rfl dX5_append_29 ?_
    refine lv_bipush (v := 32) hx hb dX5_append_32 (by decide) ?_
    refine lv_icmp_lt (tgt := 39) hx hb dX5_append_34 (by decide) (fun c2 => ?_) (fun c2 => ?_)
    · rw [if_pos c2] at hst1
      refine lv_aload_n hx hb dX5_append_39 rfl (lv_at hl 1 rfl) ?_
      refine va_get (D := g.1) (ci := 5) (v := .ref a1) (C := RX5) (T := TX5) (N := 2) hx hb hts (fun w h => List.mem_cons_of_mem _ (List.mem_append_right _ h)) hown hK hP 0 rfl rfl 0 (by decide) (hts (.fieldLink RX5 9 "PauseRegions$Row" "items" "[I") (List.mem_of_getElem? (i := 2) rfl)) (fun _ h9 => h9) rfl dX5_append_40 ?_
      refine lv_aload_n hx hb dX5_append_43 rfl (lv_at hl 1 rfl) ?_
      refine va_get (D := g.1) (ci := 5) (v := .int n) (C := RX5) (T := TX5) (N := 2) hx hb hts (fun w h => List.mem_cons_of_mem _ (List.mem_append_right _ h)) hown hK hP 0 rfl rfl 1 (by decide) (hts (.fieldLink RX5 21 "PauseRegions$Row" "length" "I") (List.mem_of_getElem? (i := 1) rfl)) (fun _ h9 => h9) rfl dX5_append_44 ?_
      refine lv_iload_n hx hb dX5_append_47 rfl (lv_at hl 2 rfl) ?_
      obtain ⟨h1, hst1⟩ := ck_some hst1
      refine va_iast (D := g.1) hx hb hK hP hD hS 1 0 rfl rfl h1 dX5_append_48 (fun H locs hP hD hS => ?_)
      obtain ⟨f1, ef1, hst1⟩ := bd_some hst1
      have hP : va_P g.1 vwCl (wRow g a0 a1 f1 n) H := by rw [ef1]; exact hP
      have hD : va_D Z (wRow g a0 a1 f1 n) := by rw [ef1]; exact hD
      refine lv_aload_n hx hb dX5_append_49 rfl (lv_at hl 1 rfl) ?_
      refine lv_dup hx hb dX5_append_50 rfl ?_
      refine va_get (D := g.1) (ci := 5) (v := .int n) (C := RX5) (T := TX5) (N := 2) hx hb hts (fun w h => List.mem_cons_of_mem _ (List.mem_append_right _ h)) hown hK hP 0 rfl rfl 1 (by decide) (hts (.fieldLink RX5 21 "PauseRegions$Row" "length" "I") (List.mem_of_getElem? (i := 1) rfl)) (fun _ h9 => h9) rfl dX5_append_51 ?_
      refine lv_iconst (v := 1) hx hb dX5_append_54 (by decide) ?_
      refine lv_iadd hx hb dX5_append_55 ?_
      refine va_put (D := g.1) (ci := 5) (v := .int (n + 1)) (ty := .int) (C := RX5) (T := TX5) (N := 2) hx hb hts (fun w h => List.mem_cons_of_mem _ (List.mem_append_right _ h)) tyX5 tyX5_ok nmX5 hown hK hP hD hS 0 rfl rfl 1 (by decide) (hts (.fieldLink RX5 21 "PauseRegions$Row" "length" "I") (List.mem_of_getElem? (i := 1) rfl)) (fun _ h9 => h9) rfl (by decide +kernel) rfl rfl (Nat.le_of_ble_eq_true rfl) dX5_append_56 (fun H locs hP hD hS => ?_)
      obtain ⟨n1, en1, hst1⟩ := bd_some hst1
      have hP : va_P g.1 vwCl (wRow g a0 a1 f1 n1) H := by rw [en1]; exact hP
      have hD : va_D Z (wRow g a0 a1 f1 n1) := by rw [en1]; exact hD
      refine lv_iconst (v := 1) hx hb dX5_append_59 (by decide) ?_
      have eo := (hout1 _ (Option.some.inj hst1).symm).symm.symm
      subst eo
      exact W.zret (v := 1) hx hb hr rfl (fun t ht hW => ⟨⟨_, (), rfl, rfl, ⟨by rw [ht]; exact hP, hD⟩⟩, hS.F ht⟩) hS.2.2 dX5_append_60
    · rw [if_neg c2] at hst1
      refine lv_iconst (v := 0) hx hb dX5_append_37 (by decide) ?_
      have eo := (hout1 _ (Option.some.inj hst1).symm).symm.symm
      subst eo
      exact W.zret (v := 0) hx hb hr rfl (fun t ht hW => ⟨⟨_, (), rfl, rfl, ⟨by rw [ht]; exact hP, hD⟩⟩, hS.F ht⟩) hS.2.2 dX5_append_38
  · rw [if_neg c1] at hst1
    refine lv_aload_n hx hb dX5_append_10 rfl (lv_at hl 1 rfl) ?_
    refine va_get (D := g.1) (ci := 5) (v := .ref a1) (C := RX5) (T := TX5) (N := 2) hx hb hts (fun w h => List.mem_cons_of_mem _ (List.mem_append_right _ h)) hown hK hP 0 rfl rfl 0 (by decide) (hts (.fieldLink RX5 9 "PauseRegions$Row" "items" "[I") (List.mem_of_getElem? (i := 2) rfl)) (fun _ h9 => h9) rfl dX5_append_11 ?_
    refine lv_iload_n hx hb dX5_append_14 rfl (lv_at hl 0 rfl) ?_
    obtain ⟨h2, hst1⟩ := ck_some hst1
    refine va_iald (D := g.1) hx hb hK hP 1 0 rfl rfl h2 dX5_append_15 ?_
    refine lv_iload_n hx hb dX5_append_16 rfl (lv_at hl 2 rfl) ?_
    refine lv_icmp_ne (tgt := 22) hx hb dX5_append_17 (by decide) (fun c3 => ?_) (fun c3 => ?_)
    · rw [if_neg c3] at hst1
      refine lv_iinc (v := q1 + 1) (lv' := [(2, .int (q1 + 1)), (0, .ref a0), (1, .int p0)]) hx hb dX5_append_22 hl (k := 0) rfl rfl (by decide) rfl (fun ls hl => ?_)
      refine lv_goto (tgt := 2) hx hb dX5_append_25 (by decide) ?_
      exact hin1 H locs ls _ (Option.some.inj hst1).symm hP hD hS (lv_sub hl [0, 1, 2] rfl)
    · rw [if_pos c3] at hst1
      refine lv_iconst (v := 0) hx hb dX5_append_20 (by decide) ?_
      have eo := (hout1 _ (Option.some.inj hst1).symm).symm.symm
      subst eo
      exact W.zret (v := 0) hx hb hr rfl (fun t ht hW => ⟨⟨_, (), rfl, rfl, ⟨by rw [ht]; exact hP, hD⟩⟩, hS.F ht⟩) hS.2.2 dX5_append_21
def sX5_becomeLike (f : Nat → Int32) (n : Int32) (fh : Nat → Int32) (nh : Int32) : Option ((Nat → Int32) × Int32) :=
  bd (va_cpy fh f (Int32.toNatClampNeg 0) (Int32.toNatClampNeg 0) (Int32.toNatClampNeg 32)) fun f1 => bd nh fun n1 => some (f1, n1)
abbrev rmX5_becomeLike : Room := { frames := 1, cells := 0, slots := 0, locals := 40 }
theorem hdX5_becomeLike : yX5_becomeLike.cls = RX5 ∧ yX5_becomeLike.cls ≠ "java/lang/invoke/MethodHandle" ∧ yX5_becomeLike.cls ≠ "java/lang/invoke/VarHandle" ∧ (parseMethodDescriptor yX5_becomeLike.desc).map (fun d => d.parameters.length) = some 1 := by decide +kernel
set_option maxHeartbeats 4000000 in
set_option maxRecDepth 100000 in
theorem kX5_becomeLike {l : Launch} {g : GG} {sz : Nat} {a0 a1 : Nat} {f : Nat → Int32} {n : Int32} {a0h a1h : Nat} {fh : Nat → Int32} {nh : Int32} {b : (Nat → Int32) × Int32} (hsem : sX5_becomeLike f n fh nh = some b) : MetV l yX5_becomeLike wsX5_becomeLike rmX5_becomeLike g [.ref a0, .ref a0h] ((wRow g a0 a1 f n) ++ (wRow g a0h a1h fh nh)) sz ((wRow g a0 a1 b.1 b.2) ++ (wRow g a0h a1h fh nh)) := by
  refine Met.ofW (cc := cX5_becomeLike) (maxL := 2) (ret := none) (by decide) rfl ?_
  intro p e s m args below meth c s₁ B hml hv
  obtain ⟨rfl, hsz, hP, hD0, hKK⟩ := hv
  subst hsz
  have hx := B.exec
  have hb := B.bytes
  have hr := B.returns
  have hts := atoms_spec (ws := wsX5_becomeLike) B.pre
  have hown : s.vm.findClass RX5 = some m.cls := findClass_of_methodNamed B.named
  have hlocks := B.notSynchronized
  have hK := hKK.1
  have hD := hD0.self (sz := s.heap.size)
  generalize hZe : va_A ((wRow g a0 a1 f n) ++ (wRow g a0h a1h fh nh)) s.heap.size = Z at hD ⊢
  have hZ : ∀ q : Nat, s.heap.size ≤ q → Z q := fun q h => by rw [← hZe]; exact Or.inr h
  have hS : va_S Z s.heap s.heap [] := va_S.rf
  have hP : va_P g.1 vwCl ((wRow g a0 a1 f n) ++ (wRow g a0h a1h fh nh)) s.heap := hP
  have hD : va_D Z ((wRow g a0 a1 f n) ++ (wRow g a0h a1h fh nh)) := hD
  have hl := lv_entry ([.ref a0, .ref a0h]) (n := 2) (Nat.le_of_ble_eq_true rfl)
  rw [lg_entry_eq]
  generalize (lg_sl ([.ref a0, .ref a0h]) ++ List.replicate (2 - (lg_sl ([.ref a0, .ref a0h])).length) Slot.unset).toArray = ls at hl ⊢
  have hl : lv_has ls 2 [(0, .ref a0), (1, .ref a0h)] := hl
  unfold sX5_becomeLike at hsem
  refine lv_aload_n hx hb dX5_becomeLike_0 rfl (lv_at hl 1 rfl) ?_
  refine va_get (D := g.1) (ci := 5) (v := .ref a1h) (C := RX5) (T := TX5) (N := 2) hx hb hts (fun w h => List.mem_cons_of_mem _ (List.mem_append_right _ h)) hown hK hP 2 rfl rfl 0 (by decide) (hts (.fieldLink RX5 9 "PauseRegions$Row" "items" "[I") (List.mem_of_getElem? (i := 1) rfl)) (fun _ h9 => h9) rfl dX5_becomeLike_1 ?_
  refine lv_iconst (v := 0) hx hb dX5_becomeLike_4 (by decide) ?_
  refine lv_aload_n hx hb dX5_becomeLike_5 rfl (lv_at hl 0 rfl) ?_
  refine va_get (D := g.1) (ci := 5) (v := .ref a1) (C := RX5) (T := TX5) (N := 2) hx hb hts (fun w h => List.mem_cons_of_mem _ (List.mem_append_right _ h)) hown hK hP 0 rfl rfl 0 (by decide) (hts (.fieldLink RX5 9 "PauseRegions$Row" "items" "[I") (List.mem_of_getElem? (i := 1) rfl)) (fun _ h9 => h9) rfl dX5_becomeLike_6 ?_
  refine lv_iconst (v := 0) hx hb dX5_becomeLike_9 (by decide) ?_
  refine lv_bipush (v := 32) hx hb dX5_becomeLike_10 (by decide) ?_
  refine va_copyi (D := g.1) (ty := .int) hx hb (hml.trans hl.1.symm) hown (hts (.methodLink RX5 15 arraycopyName) (List.mem_of_getElem? (i := 2) rfl)) (hts (.native arraycopyName) (List.mem_of_getElem? (i := 3) rfl)) (hts (.static arraycopyName) (List.mem_of_getElem? (i := 4) rfl)) (hts (.initialized "java/lang/System") (List.mem_of_getElem? (i := 5) rfl)) hK hP hD hS 3 1 0 0 rfl rfl rfl rfl rfl (by decide) (by decide) (by decide) (by decide) (by decide) (fun _ _ => rfl) (Nat.le_of_ble_eq_true rfl) (Nat.le_of_ble_eq_true rfl) dX5_becomeLike_12 (fun H locs hP hD hS => ?_)
  obtain ⟨f1, ef1, hsem⟩ := bd_some hsem
  have hP : va_P g.1 vwCl ((wRow g a0 a1 f1 n) ++ (wRow g a0h a1h fh nh)) H := by rw [ef1]; exact hP
  have hD : va_D Z ((wRow g a0 a1 f1 n) ++ (wRow g a0h a1h fh nh)) := by rw [ef1]; exact hD
  refine lv_aload_n hx hb dX5_becomeLike_15 rfl (lv_at hl 0 rfl) ?_
  refine lv_aload_n hx hb dX5_becomeLike_16 rfl (lv_at hl 1 rfl) ?_
  refine va_get (D := g.1) (ci := 5) (v := .int nh) (C := RX5) (T := TX5) (N := 2) hx hb hts (fun w h => List.mem_cons_of_mem _ (List.mem_append_right _ h)) hown hK hP 2 rfl rfl 1 (by decide) (hts (.fieldLink RX5 21 "PauseRegions$Row" "length" "I") (List.mem_of_getElem? (i := 6) rfl)) (fun _ h9 => h9) rfl dX5_becomeLike_17 ?_
  refine va_put (D := g.1) (ci := 5) (v := .int nh) (ty := .int) (C := RX5) (T := TX5) (N := 2) hx hb hts (fun w h => List.mem_cons_of_mem _ (List.mem_append_right _ h)) tyX5 tyX5_ok nmX5 hown hK hP hD hS 0 rfl rfl 1 (by decide) (hts (.fieldLink RX5 21 "PauseRegions$Row" "length" "I") (List.mem_of_getElem? (i := 6) rfl)) (fun _ h9 => h9) rfl (by decide +kernel) rfl rfl (Nat.le_of_ble_eq_true rfl) dX5_becomeLike_20 (fun H locs hP hD hS => ?_)
  obtain ⟨n1, en1, hsem⟩ := bd_some hsem
  have hP : va_P g.1 vwCl ((wRow g a0 a1 f1 n1) ++ (wRow g a0h a1h fh nh)) H := by rw [en1]; exact hP
  have hD : va_D Z ((wRow g a0 a1 f1 n1) ++ (wRow g a0h a1h fh nh)) := by rw [en1]; exact hD
  have eo := (Option.some.inj hsem).symm.symm
  subst eo
  exact W.vret hx hb hr (fun t ht hW => ⟨⟨(), rfl, trivial, ⟨by rw [ht]; exact hP, hD⟩⟩, hS.F ht⟩) hS.2.2 dX5_becomeLike_23
def sX6_cardOf (p0 : Int32) (p1 : Int32) : Option (Int32) :=
  some ((2 * p0) + (p1 / 4))
abbrev rmX6_cardOf : Room := { frames := 0, cells := 0, slots := 0, locals := 0 }
theorem hdX6_cardOf : yX6_cardOf.cls ≠ "java/lang/invoke/MethodHandle" ∧ yX6_cardOf.cls ≠ "java/lang/invoke/VarHandle" ∧ (parseMethodDescriptor yX6_cardOf.desc).map (fun d => d.parameters.length) = some 2 := by decide +kernel
set_option maxHeartbeats 4000000 in
set_option maxRecDepth 100000 in
theorem kX6_cardOf {l : Launch} {g : GG} {H0 : Heap}  {p0 p1 : Int32} {b : Int32} (hsem : sX6_cardOf p0 p1 = some b) : MetP l yX6_cardOf wsX6_cardOf rmX6_cardOf g H0 [.int p0, .int p1] b := by
  refine Met.ofW (cc := cX6_cardOf) (maxL := 2) (ret := (some .int)) (by decide) rfl ?_
  intro p e s m args below meth c s₁ B hml hv
  obtain ⟨rfl, hH, hKK⟩ := hv
  subst hH
  have hx := B.exec
  have hb := B.bytes
  have hr := B.returns
  have hts := atoms_spec (ws := wsX6_cardOf) B.pre
  have hown : s.vm.findClass RX6 = some m.cls := findClass_of_methodNamed B.named
  have hlocks := B.notSynchronized
  have hK := hKK.1
  have hl := lv_entry ([.int p0, .int p1]) (n := 2) (Nat.le_of_ble_eq_true rfl)
  rw [lg_entry_eq]
  generalize (lg_sl ([.int p0, .int p1]) ++ List.replicate (2 - (lg_sl ([.int p0, .int p1])).length) Slot.unset).toArray = ls at hl ⊢
  have hl : lv_has ls 2 [(0, .int p0), (1, .int p1)] := hl
  unfold sX6_cardOf at hsem
  refine lv_iconst (v := 2) hx hb dX6_cardOf_0 (by decide) ?_
  refine lv_iload_n hx hb dX6_cardOf_1 rfl (lv_at hl 0 rfl) ?_
  refine lv_imul hx hb dX6_cardOf_2 ?_
  refine lv_iload_n hx hb dX6_cardOf_3 rfl (lv_at hl 1 rfl) ?_
  refine lv_iconst (v := 4) hx hb dX6_cardOf_4 (by decide) ?_
  refine lv_idiv hx hb dX6_cardOf_5 (by decide) ?_
  refine lv_iadd hx hb dX6_cardOf_6 ?_
  have eo := (Option.some.inj hsem).symm.symm
  exact W.iret (v := (2 * p0) + (p1 / 4)) hx hb hr (fun t ht hW => ⟨⟨_, (), rfl, eo, ht⟩, (va_S.rf (A := fun _ => False) (H0 := s.heap)).F ht⟩) (fun q hq => absurd hq List.not_mem_nil) dX6_cardOf_7
def sX5_drop_L4 (p0 : Int32) (q1 : Int32 × Int32 × (Nat → Int32) × Int32) : Option ((Int32 × Int32 × (Nat → Int32) × Int32) ⊕ (Int32 × (Nat → Int32) × Int32)) :=
  if q1.2.2.2 ≤ q1.2.1 then (some (.inr (q1.1, q1.2.2.1, q1.2.2.2))) else (ck q1.2.1 32 (if (q1.2.2.1 q1.2.1.toNatClampNeg) = p0 then (some (.inl (q1.1, q1.2.1 + 1, q1.2.2.1, q1.2.2.2))) else (ck q1.2.1 32 (ck q1.1 32 (bd (upd q1.2.2.1 q1.1.toNatClampNeg (q1.2.2.1 q1.2.1.toNatClampNeg)) fun f1 => some (.inl (q1.1 + 1, q1.2.1 + 1, f1, q1.2.2.2)))))))
def sX5_drop (f : Nat → Int32) (n : Int32) (p0 : Int32) : Option ((Nat → Int32) × Int32) :=
  (loopN (sX5_drop_L4 p0) 2000 (0, 0, f, n)).bind fun q2 => bd q2.1 fun n1 => some (q2.2.1, n1)
abbrev rmX5_drop : Room := { frames := 0, cells := 0, slots := 0, locals := 0 }
theorem hdX5_drop : yX5_drop.cls = RX5 ∧ yX5_drop.cls ≠ "java/lang/invoke/MethodHandle" ∧ yX5_drop.cls ≠ "java/lang/invoke/VarHandle" ∧ (parseMethodDescriptor yX5_drop.desc).map (fun d => d.parameters.length) = some 1 := by decide +kernel
set_option maxHeartbeats 4000000 in
set_option maxRecDepth 100000 in
theorem kX5_drop {l : Launch} {g : GG} {sz : Nat} {a0 a1 : Nat} {f : Nat → Int32} {n : Int32} {p0 : Int32} {b : (Nat → Int32) × Int32} (hsem : sX5_drop f n p0 = some b) : MetV l yX5_drop wsX5_drop rmX5_drop g [.ref a0, .int p0] (wRow g a0 a1 f n) sz (wRow g a0 a1 b.1 b.2) := by
  refine Met.ofW (cc := cX5_drop) (maxL := 4) (ret := none) (by decide) rfl ?_
  intro p e s m args below meth c s₁ B hml hv
  obtain ⟨rfl, hsz, hP, hD0, hKK⟩ := hv
  subst hsz
  have hx := B.exec
  have hb := B.bytes
  have hr := B.returns
  have hts := atoms_spec (ws := wsX5_drop) B.pre
  have hown : s.vm.findClass RX5 = some m.cls := findClass_of_methodNamed B.named
  have hlocks := B.notSynchronized
  have hK := hKK.1
  have hD := hD0.self (sz := s.heap.size)
  generalize hZe : va_A (wRow g a0 a1 f n) s.heap.size = Z at hD ⊢
  have hZ : ∀ q : Nat, s.heap.size ≤ q → Z q := fun q h => by rw [← hZe]; exact Or.inr h
  have hS : va_S Z s.heap s.heap [] := va_S.rf
  have hP : va_P g.1 vwCl (wRow g a0 a1 f n) s.heap := hP
  have hD : va_D Z (wRow g a0 a1 f n) := hD
  have hl := lv_entry ([.ref a0, .int p0]) (n := 4) (Nat.le_of_ble_eq_true rfl)
  rw [lg_entry_eq]
  generalize (lg_sl ([.ref a0, .int p0]) ++ List.replicate (4 - (lg_sl ([.ref a0, .int p0])).length) Slot.unset).toArray = ls at hl ⊢
  have hl : lv_has ls 4 [(0, .ref a0), (1, .int p0)] := hl
  unfold sX5_drop at hsem
  refine lv_iconst (v := 0) hx hb dX5_drop_0 (by decide) ?_
  refine lv_istore_n (lv' := [(2, .int 0), (0, .ref a0), (1, .int p0)]) hx hb dX5_drop_1 rfl hl (by decide) rfl (fun ls hl => ?_)
  refine lv_iconst (v := 0) hx hb dX5_drop_2 (by decide) ?_
  refine lv_istore_n (lv' := [(3, .int 0), (2, .int 0), (0, .ref a0), (1, .int p0)]) hx hb dX5_drop_3 rfl hl (by decide) rfl (fun ls hl => ?_)
  obtain ⟨q2, hc1, hsem⟩ := bn_some hsem
  refine loopM (g := g) hc1 (fun (q1 : Int32 × Int32 × (Nat → Int32) × Int32) => [(3, .int q1.2.1), (2, .int q1.1), (0, .ref a0), (1, .int p0)]) (fun (q1 : Int32 × (Nat → Int32) × Int32) => [(2, .int q1.1), (0, .ref a0)]) (exit := 43) (fun (q1 : Int32 × Int32 × (Nat → Int32) × Int32) => wRow g a0 a1 q1.2.2.1 q1.2.2.2) (fun (q1 : Int32 × (Nat → Int32) × Int32) => wRow g a0 a1 q1.2.1 q1.2.2) hP hD hS (lv_sub hl [0, 1, 2, 3] rfl) (fun H locs ls hP hD hS hl => ?_) (fun q1 r hst1 hin1 hout1 H locs ls hP hD hS hl => ?_)
  · have hP : va_P g.1 vwCl (wRow g a0 a1 q2.2.1 q2.2.2) H := hP
    have hD : va_D Z (wRow g a0 a1 q2.2.1 q2.2.2) := hD
    refine lv_aload_n hx hb dX5_drop_43 rfl (lv_at hl 1 rfl) ?_
    refine lv_iload_n hx hb dX5_drop_44 rfl (lv_at hl 0 rfl) ?_
    refine va_put (D := g.1) (ci := 5) (v := .int q2.1) (ty := .int) (C := RX5) (T := TX5) (N := 2) hx hb hts (fun w h => List.mem_cons_of_mem _ (List.mem_append_right _ h)) tyX5 tyX5_ok nmX5 hown hK hP hD hS 0 rfl rfl 1 (by decide) (hts (.fieldLink RX5 21 "PauseRegions$Row" "length" "I") (List.mem_of_getElem? (i := 1) rfl)) (fun _ h9 => h9) rfl (by decide +kernel) rfl rfl (Nat.le_of_ble_eq_true rfl) dX5_drop_45 (fun H locs hP hD hS => ?_)
    obtain ⟨n1, en1, hsem⟩ := bd_some hsem
    have hP : va_P g.1 vwCl (wRow g a0 a1 q2.2.1 n1) H := by rw [en1]; exact hP
    have hD : va_D Z (wRow g a0 a1 q2.2.1 n1) := by rw [en1]; exact hD
    have eo := (Option.some.inj hsem).symm.symm
    subst eo
    exact W.vret hx hb hr (fun t ht hW => ⟨⟨(), rfl, trivial, ⟨by rw [ht]; exact hP, hD⟩⟩, hS.F ht⟩) hS.2.2 dX5_drop_48
  · unfold sX5_drop_L4 at hst1
    have hP : va_P g.1 vwCl (wRow g a0 a1 q1.2.2.1 q1.2.2.2) H := hP
    have hD : va_D Z (wRow g a0 a1 q1.2.2.1 q1.2.2.2) := hD
    refine lv_iload_n hx hb dX5_drop_4 rfl (lv_at hl 0 rfl) ?_
    refine lv_aload_n hx hb dX5_drop_5 rfl (lv_at hl 2 rfl) ?_
    refine va_get (D := g.1) (ci := 5) (v := .int q1.2.2.2) (C := RX5) (T := TX5) (N := 2) hx hb hts (fun w h => List.mem_cons_of_mem _ (List.mem_append_right _ h)) hown hK hP 0 rfl rfl 1 (by decide) (hts (.fieldLink RX5 21 "PauseRegions$Row" "length" "I") (List.mem_of_getElem? (i := 1) rfl)) (fun _ h9 => h9) rfl dX5_drop_6 ?_
    refine lv_icmp_ge (tgt := 43) hx hb dX5_drop_9 (by decide) (fun c1 => ?_) (fun c1 => ?_)
    · rw [if_pos c1] at hst1
      exact hout1 H locs ls _ (Option.some.inj hst1).symm hP hD hS (lv_sub hl [1, 2] rfl)
    · rw [if_neg c1] at hst1
      refine lv_aload_n hx hb dX5_drop_12 rfl (lv_at hl 2 rfl) ?_
      refine va_get (D := g.1) (ci := 5) (v := .ref a1) (C := RX5) (T := TX5) (N := 2) hx hb hts (fun w h => List.mem_cons_of_mem _ (List.mem_append_right _ h)) hown hK hP 0 rfl rfl 0 (by decide) (hts (.fieldLink RX5 9 "PauseRegions$Row" "items" "[I") (List.mem_of_getElem? (i := 2) rfl)) (fun _ h9 => h9) rfl dX5_drop_13 ?_
      refine lv_iload_n hx hb dX5_drop_16 rfl (lv_at hl 0 rfl) ?_
      obtain ⟨h1, hst1⟩ := ck_some hst1
      refine va_iald (D := g.1) hx hb hK hP 1 0 rfl rfl h1 dX5_drop_17 ?_
      refine lv_iload_n hx hb dX5_drop_18 rfl (lv_at hl 3 rfl) ?_
      refine lv_icmp_eq (tgt := 37) hx hb dX5_drop_19 (by decide) (fun c2 => ?_) (fun c2 => ?_)
      · rw [if_pos c2] at hst1
        refine lv_iinc (v := q1.2.1 + 1) (lv' := [(3, .int (q1.2.1 + 1)), (2, .int q1.1), (0, .ref a0), (1, .int p0)]) hx hb dX5_drop_37 hl (k := 0) rfl rfl (by decide) rfl (fun ls hl => ?_)
        refine lv_goto (tgt := 4) hx hb dX5_drop_40 (by decide) ?_
        exact hin1 H locs ls _ (Option.some.inj hst1).symm hP hD hS (lv_sub hl [0, 1, 2, 3] rfl)
      · rw [if_neg c2] at hst1
        refine lv_aload_n hx hb dX5_drop_22 rfl (lv_at hl 2 rfl) ?_
        refine va_get (D := g.1) (ci := 5) (v := .ref a1) (C := RX5) (T := TX5) (N := 2) hx hb hts (fun w h => List.mem_cons_of_mem _ (List.mem_append_right _ h)) hown hK hP 0 rfl rfl 0 (by decide) (hts (.fieldLink RX5 9 "PauseRegions$Row" "items" "[I") (List.mem_of_getElem? (i := 2) rfl)) (fun _ h9 => h9) rfl dX5_drop_23 ?_
        refine lv_iload_n hx hb dX5_drop_26 rfl (lv_at hl 1 rfl) ?_
        refine lv_aload_n hx hb dX5_drop_27 rfl (lv_at hl 2 rfl) ?_
        refine va_get (D := g.1) (ci := 5) (v := .ref a1) (C := RX5) (T := TX5) (N := 2) hx hb hts (fun w h => List.mem_cons_of_mem _ (List.mem_append_right _ h)) hown hK hP 0 rfl rfl 0 (by decide) (hts (.fieldLink RX5 9 "PauseRegions$Row" "items" "[I") (List.mem_of_getElem? (i := 2) rfl)) (fun _ h9 => h9) rfl dX5_drop_28 ?_
        refine lv_iload_n hx hb dX5_drop_31 rfl (lv_at hl 0 rfl) ?_
        obtain ⟨h2, hst1⟩ := ck_some hst1
        refine va_iald (D := g.1) hx hb hK hP 1 0 rfl rfl h2 dX5_drop_32 ?_
        obtain ⟨h3, hst1⟩ := ck_some hst1
        refine va_iast (D := g.1) hx hb hK hP hD hS 1 0 rfl rfl h3 dX5_drop_33 (fun H locs hP hD hS => ?_)
        obtain ⟨f1, ef1, hst1⟩ := bd_some hst1
        have hP : va_P g.1 vwCl (wRow g a0 a1 f1 q1.2.2.2) H := by rw [ef1]; exact hP
        have hD : va_D Z (wRow g a0 a1 f1 q1.2.2.2) := by rw [ef1]; exact hD
        refine lv_iinc (v := q1.1 + 1) (lv' := [(2, .int (q1.1 + 1)), (3, .int q1.2.1), (0, .ref a0), (1, .int p0)]) hx hb dX5_drop_34 hl (k := 1) rfl rfl (by decide) rfl (fun ls hl => ?_)
        refine lv_iinc (v := q1.2.1 + 1) (lv' := [(3, .int (q1.2.1 + 1)), (2, .int (q1.1 + 1)), (0, .ref a0), (1, .int p0)]) hx hb dX5_drop_37 hl (k := 1) rfl rfl (by decide) rfl (fun ls hl => ?_)
        refine lv_goto (tgt := 4) hx hb dX5_drop_40 (by decide) ?_
        exact hin1 H locs ls _ (Option.some.inj hst1).symm hP hD hS (lv_sub hl [0, 1, 2, 3] rfl)
def sX6_cardsOf (p0 : Int32) : Option (Int32) :=
  some (3 <<< ((2 * p0) &&& 31))
abbrev rmX6_cardsOf : Room := { frames := 0, cells := 0, slots := 0, locals := 0 }
theorem hdX6_cardsOf : yX6_cardsOf.cls ≠ "java/lang/invoke/MethodHandle" ∧ yX6_cardsOf.cls ≠ "java/lang/invoke/VarHandle" ∧ (parseMethodDescriptor yX6_cardsOf.desc).map (fun d => d.parameters.length) = some 1 := by decide +kernel
set_option maxHeartbeats 4000000 in
set_option maxRecDepth 100000 in
theorem kX6_cardsOf {l : Launch} {g : GG} {H0 : Heap}  {p0 : Int32} {b : Int32} (hsem : sX6_cardsOf p0 = some b) : MetP l yX6_cardsOf wsX6_cardsOf rmX6_cardsOf g H0 [.int p0] b := by
  refine Met.ofW (cc := cX6_cardsOf) (maxL := 1) (ret := (some .int)) (by decide) rfl ?_
  intro p e s m args below meth c s₁ B hml hv
  obtain ⟨rfl, hH, hKK⟩ := hv
  subst hH
  have hx := B.exec
  have hb := B.bytes
  have hr := B.returns
  have hts := atoms_spec (ws := wsX6_cardsOf) B.pre
  have hown : s.vm.findClass RX6 = some m.cls := findClass_of_methodNamed B.named
  have hlocks := B.notSynchronized
  have hK := hKK.1
  have hl := lv_entry ([.int p0]) (n := 1) (Nat.le_of_ble_eq_true rfl)
  rw [lg_entry_eq]
  generalize (lg_sl ([.int p0]) ++ List.replicate (1 - (lg_sl ([.int p0])).length) Slot.unset).toArray = ls at hl ⊢
  have hl : lv_has ls 1 [(0, .int p0)] := hl
  unfold sX6_cardsOf at hsem
  refine lv_iconst (v := 3) hx hb dX6_cardsOf_0 (by decide) ?_
  refine lv_iconst (v := 2) hx hb dX6_cardsOf_1 (by decide) ?_
  refine lv_iload_n hx hb dX6_cardsOf_2 rfl (lv_at hl 0 rfl) ?_
  refine lv_imul hx hb dX6_cardsOf_3 ?_
  refine lv_ishl hx hb dX6_cardsOf_4 ?_
  have eo := (Option.some.inj hsem).symm.symm
  exact W.iret (v := 3 <<< ((2 * p0) &&& 31)) hx hb hr (fun t ht hW => ⟨⟨_, (), rfl, eo, ht⟩, (va_S.rf (A := fun _ => False) (H0 := s.heap)).F ht⟩) (fun q hq => absurd hq List.not_mem_nil) dX6_cardsOf_5
def sX5_itemAt (f : Nat → Int32) (n : Int32) (p0 : Int32) : Option (Int32) :=
  if p0 < 0 then (some (-9)) else (if n ≤ p0 then (some (-9)) else (ck p0 32 (some (f p0.toNatClampNeg))))
abbrev rmX5_itemAt : Room := { frames := 0, cells := 0, slots := 0, locals := 0 }
theorem hdX5_itemAt : yX5_itemAt.cls = RX5 ∧ yX5_itemAt.cls ≠ "java/lang/invoke/MethodHandle" ∧ yX5_itemAt.cls ≠ "java/lang/invoke/VarHandle" ∧ (parseMethodDescriptor yX5_itemAt.desc).map (fun d => d.parameters.length) = some 1 := by decide +kernel
set_option maxHeartbeats 4000000 in
set_option maxRecDepth 100000 in
theorem kX5_itemAt {l : Launch} {g : GG} {H0 : Heap} {a0 a1 : Nat} {f : Nat → Int32} {n : Int32} {p0 : Int32} {b : Int32} (hP : va_P g.1 vwCl (wRow g a0 a1 f n) H0) (hsem : sX5_itemAt f n p0 = some b) : MetP l yX5_itemAt wsX5_itemAt rmX5_itemAt g H0 [.ref a0, .int p0] b := by
  refine Met.ofW (cc := cX5_itemAt) (maxL := 2) (ret := (some .int)) (by decide) rfl ?_
  intro p e s m args below meth c s₁ B hml hv
  obtain ⟨rfl, hH, hKK⟩ := hv
  subst hH
  have hx := B.exec
  have hb := B.bytes
  have hr := B.returns
  have hts := atoms_spec (ws := wsX5_itemAt) B.pre
  have hown : s.vm.findClass RX5 = some m.cls := findClass_of_methodNamed B.named
  have hlocks := B.notSynchronized
  have hK := hKK.1
  have hl := lv_entry ([.ref a0, .int p0]) (n := 2) (Nat.le_of_ble_eq_true rfl)
  rw [lg_entry_eq]
  generalize (lg_sl ([.ref a0, .int p0]) ++ List.replicate (2 - (lg_sl ([.ref a0, .int p0])).length) Slot.unset).toArray = ls at hl ⊢
  have hl : lv_has ls 2 [(0, .ref a0), (1, .int p0)] := hl
  unfold sX5_itemAt at hsem
  refine lv_iload_n hx hb dX5_itemAt_0 rfl (lv_at hl 1 rfl) ?_
  refine lv_if_lt (tgt := 21) hx hb dX5_itemAt_1 (by decide) (fun c1 => ?_) (fun c1 => ?_)
  · rw [if_pos c1] at hsem
    refine lv_bipush (v := (-9)) hx hb dX5_itemAt_21 (by decide) ?_
    have eo := (Option.some.inj hsem).symm.symm
    exact W.iret (v := (-9)) hx hb hr (fun t ht hW => ⟨⟨_, (), rfl, eo, ht⟩, (va_S.rf (A := fun _ => False) (H0 := s.heap)).F ht⟩) (fun q hq => absurd hq List.not_mem_nil) dX5_itemAt_23
  · rw [if_neg c1] at hsem
    refine lv_iload_n hx hb dX5_itemAt_4 rfl (lv_at hl 1 rfl) ?_
    refine lv_aload_n hx hb dX5_itemAt_5 rfl (lv_at hl 0 rfl) ?_
    refine va_get (D := g.1) (ci := 5) (v := .int n) (C := RX5) (T := TX5) (N := 2) hx hb hts (fun w h => List.mem_cons_of_mem _ (List.mem_append_right _ h)) hown hK hP 0 rfl rfl 1 (by decide) (hts (.fieldLink RX5 21 "PauseRegions$Row" "length" "I") (List.mem_of_getElem? (i := 1) rfl)) (fun _ h9 => h9) rfl dX5_itemAt_6 ?_
    refine lv_icmp_ge (tgt := 21) hx hb dX5_itemAt_9 (by decide) (fun c2 => ?_) (fun c2 => ?_)
    · rw [if_pos c2] at hsem
      refine lv_bipush (v := (-9)) hx hb dX5_itemAt_21 (by decide) ?_
      have eo := (Option.some.inj hsem).symm.symm
      exact W.iret (v := (-9)) hx hb hr (fun t ht hW => ⟨⟨_, (), rfl, eo, ht⟩, (va_S.rf (A := fun _ => False) (H0 := s.heap)).F ht⟩) (fun q hq => absurd hq List.not_mem_nil) dX5_itemAt_23
    · rw [if_neg c2] at hsem
      refine lv_aload_n hx hb dX5_itemAt_12 rfl (lv_at hl 0 rfl) ?_
      refine va_get (D := g.1) (ci := 5) (v := .ref a1) (C := RX5) (T := TX5) (N := 2) hx hb hts (fun w h => List.mem_cons_of_mem _ (List.mem_append_right _ h)) hown hK hP 0 rfl rfl 0 (by decide) (hts (.fieldLink RX5 9 "PauseRegions$Row" "items" "[I") (List.mem_of_getElem? (i := 2) rfl)) (fun _ h9 => h9) rfl dX5_itemAt_13 ?_
      refine lv_iload_n hx hb dX5_itemAt_16 rfl (lv_at hl 1 rfl) ?_
      obtain ⟨h1, hsem⟩ := ck_some hsem
      refine va_iald (D := g.1) hx hb hK hP 1 0 rfl rfl h1 dX5_itemAt_17 ?_
      refine lv_goto (tgt := 23) hx hb dX5_itemAt_18 (by decide) ?_
      have eo := (Option.some.inj hsem).symm.symm
      exact W.iret (v := f p0.toNatClampNeg) hx hb hr (fun t ht hW => ⟨⟨_, (), rfl, eo, ht⟩, (va_S.rf (A := fun _ => False) (H0 := s.heap)).F ht⟩) (fun q hq => absurd hq List.not_mem_nil) dX5_itemAt_23
def sX6_regionOfCard (p0 : Int32) : Option (Int32) :=
  some (p0 / 2)
abbrev rmX6_regionOfCard : Room := { frames := 0, cells := 0, slots := 0, locals := 0 }
theorem hdX6_regionOfCard : yX6_regionOfCard.cls ≠ "java/lang/invoke/MethodHandle" ∧ yX6_regionOfCard.cls ≠ "java/lang/invoke/VarHandle" ∧ (parseMethodDescriptor yX6_regionOfCard.desc).map (fun d => d.parameters.length) = some 1 := by decide +kernel
set_option maxHeartbeats 4000000 in
set_option maxRecDepth 100000 in
theorem kX6_regionOfCard {l : Launch} {g : GG} {H0 : Heap}  {p0 : Int32} {b : Int32} (hsem : sX6_regionOfCard p0 = some b) : MetP l yX6_regionOfCard wsX6_regionOfCard rmX6_regionOfCard g H0 [.int p0] b := by
  refine Met.ofW (cc := cX6_regionOfCard) (maxL := 1) (ret := (some .int)) (by decide) rfl ?_
  intro p e s m args below meth c s₁ B hml hv
  obtain ⟨rfl, hH, hKK⟩ := hv
  subst hH
  have hx := B.exec
  have hb := B.bytes
  have hr := B.returns
  have hts := atoms_spec (ws := wsX6_regionOfCard) B.pre
  have hown : s.vm.findClass RX6 = some m.cls := findClass_of_methodNamed B.named
  have hlocks := B.notSynchronized
  have hK := hKK.1
  have hl := lv_entry ([.int p0]) (n := 1) (Nat.le_of_ble_eq_true rfl)
  rw [lg_entry_eq]
  generalize (lg_sl ([.int p0]) ++ List.replicate (1 - (lg_sl ([.int p0])).length) Slot.unset).toArray = ls at hl ⊢
  have hl : lv_has ls 1 [(0, .int p0)] := hl
  unfold sX6_regionOfCard at hsem
  refine lv_iload_n hx hb dX6_regionOfCard_0 rfl (lv_at hl 0 rfl) ?_
  refine lv_iconst (v := 2) hx hb dX6_regionOfCard_1 (by decide) ?_
  refine lv_idiv hx hb dX6_regionOfCard_2 (by decide) ?_
  have eo := (Option.some.inj hsem).symm.symm
  exact W.iret (v := p0 / 2) hx hb hr (fun t ht hW => ⟨⟨_, (), rfl, eo, ht⟩, (va_S.rf (A := fun _ => False) (H0 := s.heap)).F ht⟩) (fun q hq => absurd hq List.not_mem_nil) dX6_regionOfCard_3
def sX6_within (p0 : Int32) (p1 : Int32) (p2 : Int32) : Option (Int32) :=
  if p0 < p1 then (some 0) else (if p2 < p0 then (some 0) else (some 1))
abbrev rmX6_within : Room := { frames := 0, cells := 0, slots := 0, locals := 0 }
theorem hdX6_within : yX6_within.cls ≠ "java/lang/invoke/MethodHandle" ∧ yX6_within.cls ≠ "java/lang/invoke/VarHandle" ∧ (parseMethodDescriptor yX6_within.desc).map (fun d => d.parameters.length) = some 3 := by decide +kernel
set_option maxHeartbeats 4000000 in
set_option maxRecDepth 100000 in
theorem kX6_within {l : Launch} {g : GG} {H0 : Heap}  {p0 p1 p2 : Int32} {b : Int32} (hsem : sX6_within p0 p1 p2 = some b) : MetP l yX6_within wsX6_within rmX6_within g H0 [.int p0, .int p1, .int p2] b := by
  refine Met.ofW (cc := cX6_within) (maxL := 3) (ret := (some .boolean)) (by decide) rfl ?_
  intro p e s m args below meth c s₁ B hml hv
  obtain ⟨rfl, hH, hKK⟩ := hv
  subst hH
  have hx := B.exec
  have hb := B.bytes
  have hr := B.returns
  have hts := atoms_spec (ws := wsX6_within) B.pre
  have hown : s.vm.findClass RX6 = some m.cls := findClass_of_methodNamed B.named
  have hlocks := B.notSynchronized
  have hK := hKK.1
  have hl := lv_entry ([.int p0, .int p1, .int p2]) (n := 3) (Nat.le_of_ble_eq_true rfl)
  rw [lg_entry_eq]
  generalize (lg_sl ([.int p0, .int p1, .int p2]) ++ List.replicate (3 - (lg_sl ([.int p0, .int p1, .int p2])).length) Slot.unset).toArray = ls at hl ⊢
  have hl : lv_has ls 3 [(0, .int p0), (1, .int p1), (2, .int p2)] := hl
  unfold sX6_within at hsem
  refine lv_iload_n hx hb dX6_within_0 rfl (lv_at hl 0 rfl) ?_
  refine lv_iload_n hx hb dX6_within_1 rfl (lv_at hl 1 rfl) ?_
  refine lv_icmp_lt (tgt := 14) hx hb dX6_within_2 (by decide) (fun c1 => ?_) (fun c1 => ?_)
  · rw [if_pos c1] at hsem
    refine lv_iconst (v := 0) hx hb dX6_within_14 (by decide) ?_
    have eo := (Option.some.inj hsem).symm.symm
    exact W.zret (v := 0) hx hb hr rfl (fun t ht hW => ⟨⟨_, (), rfl, eo, ht⟩, (va_S.rf (A := fun _ => False) (H0 := s.heap)).F ht⟩) (fun q hq => absurd hq List.not_mem_nil) dX6_within_15
  · rw [if_neg c1] at hsem
    refine lv_iload_n hx hb dX6_within_5 rfl (lv_at hl 0 rfl) ?_
    refine lv_iload_n hx hb dX6_within_6 rfl (lv_at hl 2 rfl) ?_
    refine lv_icmp_gt (tgt := 14) hx hb dX6_within_7 (by decide) (fun c2 => ?_) (fun c2 => ?_)
    · rw [if_pos c2] at hsem
      refine lv_iconst (v := 0) hx hb dX6_within_14 (by decide) ?_
      have eo := (Option.some.inj hsem).symm.symm
      exact W.zret (v := 0) hx hb hr rfl (fun t ht hW => ⟨⟨_, (), rfl, eo, ht⟩, (va_S.rf (A := fun _ => False) (H0 := s.heap)).F ht⟩) (fun q hq => absurd hq List.not_mem_nil) dX6_within_15
    · rw [if_neg c2] at hsem
      refine lv_iconst (v := 1) hx hb dX6_within_10 (by decide) ?_
      refine lv_goto (tgt := 15) hx hb dX6_within_11 (by decide) ?_
      have eo := (Option.some.inj hsem).symm.symm
      exact W.zret (v := 1) hx hb hr rfl (fun t ht hW => ⟨⟨_, (), rfl, eo, ht⟩, (va_S.rf (A := fun _ => False) (H0 := s.heap)).F ht⟩) (fun q hq => absurd hq List.not_mem_nil) dX6_within_15
def sX6_isImage (p0 : Int32) : Option (Int32) :=
  (sX6_within p0 0 1).bind fun x1 => ckb x1 (some x1)
abbrev rmX6_isImage : Room := { frames := 1, cells := 0, slots := 0, locals := 22 }
theorem hdX6_isImage : yX6_isImage.cls ≠ "java/lang/invoke/MethodHandle" ∧ yX6_isImage.cls ≠ "java/lang/invoke/VarHandle" ∧ (parseMethodDescriptor yX6_isImage.desc).map (fun d => d.parameters.length) = some 1 := by decide +kernel
set_option maxHeartbeats 4000000 in
set_option maxRecDepth 100000 in
theorem kX6_isImage {l : Launch} {g : GG} {H0 : Heap}  {p0 : Int32} {b : Int32} (hsem : sX6_isImage p0 = some b) : MetP l yX6_isImage wsX6_isImage rmX6_isImage g H0 [.int p0] b := by
  refine Met.ofW (cc := cX6_isImage) (maxL := 1) (ret := (some .boolean)) (by decide) rfl ?_
  intro p e s m args below meth c s₁ B hml hv
  obtain ⟨rfl, hH, hKK⟩ := hv
  subst hH
  have hx := B.exec
  have hb := B.bytes
  have hr := B.returns
  have hts := atoms_spec (ws := wsX6_isImage) B.pre
  have hown : s.vm.findClass RX6 = some m.cls := findClass_of_methodNamed B.named
  have hlocks := B.notSynchronized
  have hK := hKK.1
  have hl := lv_entry ([.int p0]) (n := 1) (Nat.le_of_ble_eq_true rfl)
  rw [lg_entry_eq]
  generalize (lg_sl ([.int p0]) ++ List.replicate (1 - (lg_sl ([.int p0])).length) Slot.unset).toArray = ls at hl ⊢
  have hl : lv_has ls 1 [(0, .int p0)] := hl
  unfold sX6_isImage at hsem
  refine lv_iload_n hx hb dX6_isImage_0 rfl (lv_at hl 0 rfl) ?_
  refine lv_iconst (v := 0) hx hb dX6_isImage_1 (by decide) ?_
  refine lv_iconst (v := 1) hx hb dX6_isImage_2 (by decide) ?_
  obtain ⟨x1, hc1, hsem⟩ := bn_some hsem
  refine pcS (As := [.int p0, .int 0, .int 1]) (rest := []) ⟨hx, hb, hml, hown, hts⟩ hKK (va_cwS 3 hts gX6_isImage_X6_within rfl rfl rfl hdX6_within ⟨Nat.le_of_ble_eq_true rfl, Nat.le_of_ble_eq_true rfl⟩) (kX6_within (l := l) (g := g) hc1) rfl hl.1 rfl (Nat.le_of_ble_eq_true rfl) dX6_isImage_3 ⟨Nat.zero_le _, Nat.zero_le _⟩ ?_
  obtain ⟨h1, hsem⟩ := ckb_some hsem
  have eo := (Option.some.inj hsem).symm.symm
  exact W.zret (v := x1) hx hb hr (nar_bool h1) (fun t ht hW => ⟨⟨_, (), rfl, eo, ht⟩, (va_S.rf (A := fun _ => False) (H0 := s.heap)).F ht⟩) (fun q hq => absurd hq List.not_mem_nil) dX6_isImage_6
def sX6_isGoal (p0 : Int32) : Option (Int32) :=
  (sX6_within p0 0 999).bind fun x1 => ckb x1 (some x1)
abbrev rmX6_isGoal : Room := { frames := 1, cells := 0, slots := 0, locals := 22 }
theorem hdX6_isGoal : yX6_isGoal.cls ≠ "java/lang/invoke/MethodHandle" ∧ yX6_isGoal.cls ≠ "java/lang/invoke/VarHandle" ∧ (parseMethodDescriptor yX6_isGoal.desc).map (fun d => d.parameters.length) = some 1 := by decide +kernel
set_option maxHeartbeats 4000000 in
set_option maxRecDepth 100000 in
theorem kX6_isGoal {l : Launch} {g : GG} {H0 : Heap}  {p0 : Int32} {b : Int32} (hsem : sX6_isGoal p0 = some b) : MetP l yX6_isGoal wsX6_isGoal rmX6_isGoal g H0 [.int p0] b := by
  refine Met.ofW (cc := cX6_isGoal) (maxL := 1) (ret := (some .boolean)) (by decide) rfl ?_
  intro p e s m args below meth c s₁ B hml hv
  obtain ⟨rfl, hH, hKK⟩ := hv
  subst hH
  have hx := B.exec
  have hb := B.bytes
  have hr := B.returns
  have hts := atoms_spec (ws := wsX6_isGoal) B.pre
  have hown : s.vm.findClass RX6 = some m.cls := findClass_of_methodNamed B.named
  have hlocks := B.notSynchronized
  have hK := hKK.1
  have hl := lv_entry ([.int p0]) (n := 1) (Nat.le_of_ble_eq_true rfl)
  rw [lg_entry_eq]
  generalize (lg_sl ([.int p0]) ++ List.replicate (1 - (lg_sl ([.int p0])).length) Slot.unset).toArray = ls at hl ⊢
  have hl : lv_has ls 1 [(0, .int p0)] := hl
  unfold sX6_isGoal at hsem
  refine lv_iload_n hx hb dX6_isGoal_0 rfl (lv_at hl 0 rfl) ?_
  refine lv_iconst (v := 0) hx hb dX6_isGoal_1 (by decide) ?_
  refine lv_sipush (v := 999) hx hb dX6_isGoal_2 (by decide) ?_
  obtain ⟨x1, hc1, hsem⟩ := bn_some hsem
  refine pcS (As := [.int p0, .int 0, .int 999]) (rest := []) ⟨hx, hb, hml, hown, hts⟩ hKK (va_cwS 3 hts gX6_isGoal_X6_within rfl rfl rfl hdX6_within ⟨Nat.le_of_ble_eq_true rfl, Nat.le_of_ble_eq_true rfl⟩) (kX6_within (l := l) (g := g) hc1) rfl hl.1 rfl (Nat.le_of_ble_eq_true rfl) dX6_isGoal_5 ⟨Nat.zero_le _, Nat.zero_le _⟩ ?_
  obtain ⟨h1, hsem⟩ := ckb_some hsem
  have eo := (Option.some.inj hsem).symm.symm
  exact W.zret (v := x1) hx hb hr (nar_bool h1) (fun t ht hW => ⟨⟨_, (), rfl, eo, ht⟩, (va_S.rf (A := fun _ => False) (H0 := s.heap)).F ht⟩) (fun q hq => absurd hq List.not_mem_nil) dX6_isGoal_8
def sX6_isRegion (p0 : Int32) : Option (Int32) :=
  (sX6_within p0 0 9).bind fun x1 => ckb x1 (some x1)
abbrev rmX6_isRegion : Room := { frames := 1, cells := 0, slots := 0, locals := 22 }
theorem hdX6_isRegion : yX6_isRegion.cls ≠ "java/lang/invoke/MethodHandle" ∧ yX6_isRegion.cls ≠ "java/lang/invoke/VarHandle" ∧ (parseMethodDescriptor yX6_isRegion.desc).map (fun d => d.parameters.length) = some 1 := by decide +kernel
set_option maxHeartbeats 4000000 in
set_option maxRecDepth 100000 in
theorem kX6_isRegion {l : Launch} {g : GG} {H0 : Heap}  {p0 : Int32} {b : Int32} (hsem : sX6_isRegion p0 = some b) : MetP l yX6_isRegion wsX6_isRegion rmX6_isRegion g H0 [.int p0] b := by
  refine Met.ofW (cc := cX6_isRegion) (maxL := 1) (ret := (some .boolean)) (by decide) rfl ?_
  intro p e s m args below meth c s₁ B hml hv
  obtain ⟨rfl, hH, hKK⟩ := hv
  subst hH
  have hx := B.exec
  have hb := B.bytes
  have hr := B.returns
  have hts := atoms_spec (ws := wsX6_isRegion) B.pre
  have hown : s.vm.findClass RX6 = some m.cls := findClass_of_methodNamed B.named
  have hlocks := B.notSynchronized
  have hK := hKK.1
  have hl := lv_entry ([.int p0]) (n := 1) (Nat.le_of_ble_eq_true rfl)
  rw [lg_entry_eq]
  generalize (lg_sl ([.int p0]) ++ List.replicate (1 - (lg_sl ([.int p0])).length) Slot.unset).toArray = ls at hl ⊢
  have hl : lv_has ls 1 [(0, .int p0)] := hl
  unfold sX6_isRegion at hsem
  refine lv_iload_n hx hb dX6_isRegion_0 rfl (lv_at hl 0 rfl) ?_
  refine lv_iconst (v := 0) hx hb dX6_isRegion_1 (by decide) ?_
  refine lv_bipush (v := 9) hx hb dX6_isRegion_2 (by decide) ?_
  obtain ⟨x1, hc1, hsem⟩ := bn_some hsem
  refine pcS (As := [.int p0, .int 0, .int 9]) (rest := []) ⟨hx, hb, hml, hown, hts⟩ hKK (va_cwS 3 hts gX6_isRegion_X6_within rfl rfl rfl hdX6_within ⟨Nat.le_of_ble_eq_true rfl, Nat.le_of_ble_eq_true rfl⟩) (kX6_within (l := l) (g := g) hc1) rfl hl.1 rfl (Nat.le_of_ble_eq_true rfl) dX6_isRegion_4 ⟨Nat.zero_le _, Nat.zero_le _⟩ ?_
  obtain ⟨h1, hsem⟩ := ckb_some hsem
  have eo := (Option.some.inj hsem).symm.symm
  exact W.zret (v := x1) hx hb hr (nar_bool h1) (fun t ht hW => ⟨⟨_, (), rfl, eo, ht⟩, (va_S.rf (A := fun _ => False) (H0 := s.heap)).F ht⟩) (fun q hq => absurd hq List.not_mem_nil) dX6_isRegion_7
def sX6_isRoot (p0 : Int32) : Option (Int32) :=
  (sX6_within p0 0 5).bind fun x1 => ckb x1 (some x1)
abbrev rmX6_isRoot : Room := { frames := 1, cells := 0, slots := 0, locals := 22 }
theorem hdX6_isRoot : yX6_isRoot.cls ≠ "java/lang/invoke/MethodHandle" ∧ yX6_isRoot.cls ≠ "java/lang/invoke/VarHandle" ∧ (parseMethodDescriptor yX6_isRoot.desc).map (fun d => d.parameters.length) = some 1 := by decide +kernel
set_option maxHeartbeats 4000000 in
set_option maxRecDepth 100000 in
theorem kX6_isRoot {l : Launch} {g : GG} {H0 : Heap}  {p0 : Int32} {b : Int32} (hsem : sX6_isRoot p0 = some b) : MetP l yX6_isRoot wsX6_isRoot rmX6_isRoot g H0 [.int p0] b := by
  refine Met.ofW (cc := cX6_isRoot) (maxL := 1) (ret := (some .boolean)) (by decide) rfl ?_
  intro p e s m args below meth c s₁ B hml hv
  obtain ⟨rfl, hH, hKK⟩ := hv
  subst hH
  have hx := B.exec
  have hb := B.bytes
  have hr := B.returns
  have hts := atoms_spec (ws := wsX6_isRoot) B.pre
  have hown : s.vm.findClass RX6 = some m.cls := findClass_of_methodNamed B.named
  have hlocks := B.notSynchronized
  have hK := hKK.1
  have hl := lv_entry ([.int p0]) (n := 1) (Nat.le_of_ble_eq_true rfl)
  rw [lg_entry_eq]
  generalize (lg_sl ([.int p0]) ++ List.replicate (1 - (lg_sl ([.int p0])).length) Slot.unset).toArray = ls at hl ⊢
  have hl : lv_has ls 1 [(0, .int p0)] := hl
  unfold sX6_isRoot at hsem
  refine lv_iload_n hx hb dX6_isRoot_0 rfl (lv_at hl 0 rfl) ?_
  refine lv_iconst (v := 0) hx hb dX6_isRoot_1 (by decide) ?_
  refine lv_iconst (v := 5) hx hb dX6_isRoot_2 (by decide) ?_
  obtain ⟨x1, hc1, hsem⟩ := bn_some hsem
  refine pcS (As := [.int p0, .int 0, .int 5]) (rest := []) ⟨hx, hb, hml, hown, hts⟩ hKK (va_cwS 3 hts gX6_isRoot_X6_within rfl rfl rfl hdX6_within ⟨Nat.le_of_ble_eq_true rfl, Nat.le_of_ble_eq_true rfl⟩) (kX6_within (l := l) (g := g) hc1) rfl hl.1 rfl (Nat.le_of_ble_eq_true rfl) dX6_isRoot_3 ⟨Nat.zero_le _, Nat.zero_le _⟩ ?_
  obtain ⟨h1, hsem⟩ := ckb_some hsem
  have eo := (Option.some.inj hsem).symm.symm
  exact W.zret (v := x1) hx hb hr (nar_bool h1) (fun t ht hW => ⟨⟨_, (), rfl, eo, ht⟩, (va_S.rf (A := fun _ => False) (H0 := s.heap)).F ht⟩) (fun q hq => absurd hq List.not_mem_nil) dX6_isRoot_6
def sX6_isRootOrNil (p0 : Int32) : Option (Int32) :=
  (sX6_within p0 (-1) 5).bind fun x1 => ckb x1 (some x1)
abbrev rmX6_isRootOrNil : Room := { frames := 1, cells := 0, slots := 0, locals := 22 }
theorem hdX6_isRootOrNil : yX6_isRootOrNil.cls ≠ "java/lang/invoke/MethodHandle" ∧ yX6_isRootOrNil.cls ≠ "java/lang/invoke/VarHandle" ∧ (parseMethodDescriptor yX6_isRootOrNil.desc).map (fun d => d.parameters.length) = some 1 := by decide +kernel
set_option maxHeartbeats 4000000 in
set_option maxRecDepth 100000 in
theorem kX6_isRootOrNil {l : Launch} {g : GG} {H0 : Heap}  {p0 : Int32} {b : Int32} (hsem : sX6_isRootOrNil p0 = some b) : MetP l yX6_isRootOrNil wsX6_isRootOrNil rmX6_isRootOrNil g H0 [.int p0] b := by
  refine Met.ofW (cc := cX6_isRootOrNil) (maxL := 1) (ret := (some .boolean)) (by decide) rfl ?_
  intro p e s m args below meth c s₁ B hml hv
  obtain ⟨rfl, hH, hKK⟩ := hv
  subst hH
  have hx := B.exec
  have hb := B.bytes
  have hr := B.returns
  have hts := atoms_spec (ws := wsX6_isRootOrNil) B.pre
  have hown : s.vm.findClass RX6 = some m.cls := findClass_of_methodNamed B.named
  have hlocks := B.notSynchronized
  have hK := hKK.1
  have hl := lv_entry ([.int p0]) (n := 1) (Nat.le_of_ble_eq_true rfl)
  rw [lg_entry_eq]
  generalize (lg_sl ([.int p0]) ++ List.replicate (1 - (lg_sl ([.int p0])).length) Slot.unset).toArray = ls at hl ⊢
  have hl : lv_has ls 1 [(0, .int p0)] := hl
  unfold sX6_isRootOrNil at hsem
  refine lv_iload_n hx hb dX6_isRootOrNil_0 rfl (lv_at hl 0 rfl) ?_
  refine lv_iconst (v := (-1)) hx hb dX6_isRootOrNil_1 (by decide) ?_
  refine lv_iconst (v := 5) hx hb dX6_isRootOrNil_2 (by decide) ?_
  obtain ⟨x1, hc1, hsem⟩ := bn_some hsem
  refine pcS (As := [.int p0, .int (-1), .int 5]) (rest := []) ⟨hx, hb, hml, hown, hts⟩ hKK (va_cwS 3 hts gX6_isRootOrNil_X6_within rfl rfl rfl hdX6_within ⟨Nat.le_of_ble_eq_true rfl, Nat.le_of_ble_eq_true rfl⟩) (kX6_within (l := l) (g := g) hc1) rfl hl.1 rfl (Nat.le_of_ble_eq_true rfl) dX6_isRootOrNil_3 ⟨Nat.zero_le _, Nat.zero_le _⟩ ?_
  obtain ⟨h1, hsem⟩ := ckb_some hsem
  have eo := (Option.some.inj hsem).symm.symm
  exact W.zret (v := x1) hx hb hr (nar_bool h1) (fun t ht hW => ⟨⟨_, (), rfl, eo, ht⟩, (va_S.rf (A := fun _ => False) (H0 := s.heap)).F ht⟩) (fun q hq => absurd hq List.not_mem_nil) dX6_isRootOrNil_6
