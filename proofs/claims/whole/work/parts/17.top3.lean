def sX6_remembers (HA : Nat → IA) (p0 : Int32) (p1 : Int32) : Option (Int32) :=
  (sX6_isRegion p0).bind fun x1 => if x1 = 0 then (some (-1)) else ((sX6_within p1 0 19).bind fun x2 => if x2 = 0 then (some (-1)) else (ck p0 10 ((sX6_hasBit (((HA 0) 3) p0.toNatClampNeg) p1).bind fun x3 => if x3 = 0 then (some 0) else (some 1))))
abbrev rmX6_remembers : Room := { frames := 2, cells := 0, slots := 0, locals := 42 }
theorem hdX6_remembers : yX6_remembers.cls = RX6 ∧ yX6_remembers.cls ≠ "java/lang/invoke/MethodHandle" ∧ yX6_remembers.cls ≠ "java/lang/invoke/VarHandle" ∧ (parseMethodDescriptor yX6_remembers.desc).map (fun d => d.parameters.length) = some 2 := by decide +kernel
set_option maxHeartbeats 8000000 in
set_option maxRecDepth 100000 in
theorem kX6_remembers {l : Launch} {g : GG} {sz : Nat} {a0 a1 a2 : Nat} {im : Nat → Option Nat} {kf : Nat → Int32} {a0t : Nat} {rgt : Int32} {yct : Int32} {fct : UInt32} {adp : Nat → Nat} {Ap : IA} {Fp : FA} {adr : Nat → Nat} {Ar : IA} {a0i a1i : Nat} {pf : Nat → Option Nat} {nxi kni : Int32} {hd : Nat → Nat → Nat} {HA : Nat → IA} {HF : Nat → FA} {p0 p1 : Int32} {b : Int32} (hsem : sX6_remembers HA p0 p1 = some b) : MetI l yX6_remembers wsX6_remembers rmX6_remembers g [.ref a0, .int p0, .int p1] (wTp g a0 a1 a2 a0t (adp 0) (adr 0) a0i (hd 0 0) (hd 1 0) im kf ++ (wC g a0t rgt yct fct ++ (wPa g adp Ap Fp ++ (wRe g adr Ar ++ (wHi g a0i a1i pf nxi kni ++ (wH g (hd 0) (HA 0) (HF 0) ++ (wH g (hd 1) (HA 1) (HF 1) ++ (wH g (hd 2) (HA 2) (HF 2) ++ (wH g (hd 3) (HA 3) (HF 3) ++ (wH g (hd 4) (HA 4) (HF 4) ++ (wH g (hd 5) (HA 5) (HF 5) ++ (wH g (hd 6) (HA 6) (HF 6) ++ (wH g (hd 7) (HA 7) (HF 7) ++ (wH g (hd 8) (HA 8) (HF 8) ++ (wH g (hd 9) (HA 9) (HF 9) ++ ([])))))))))))))))) sz b (wTp g a0 a1 a2 a0t (adp 0) (adr 0) a0i (hd 0 0) (hd 1 0) im kf ++ (wC g a0t rgt yct fct ++ (wPa g adp Ap Fp ++ (wRe g adr Ar ++ (wHi g a0i a1i pf nxi kni ++ (wH g (hd 0) (HA 0) (HF 0) ++ (wH g (hd 1) (HA 1) (HF 1) ++ (wH g (hd 2) (HA 2) (HF 2) ++ (wH g (hd 3) (HA 3) (HF 3) ++ (wH g (hd 4) (HA 4) (HF 4) ++ (wH g (hd 5) (HA 5) (HF 5) ++ (wH g (hd 6) (HA 6) (HF 6) ++ (wH g (hd 7) (HA 7) (HF 7) ++ (wH g (hd 8) (HA 8) (HF 8) ++ (wH g (hd 9) (HA 9) (HF 9) ++ ([])))))))))))))))) := by
  refine Met.ofW (cc := cX6_remembers) (maxL := 3) (ret := (some .int)) (by decide) rfl ?_
  intro p e s m args below meth c s₁ B hml hv
  obtain ⟨rfl, hsz, hP, hD0, hKK⟩ := hv
  subst hsz
  have hx := B.exec
  have hb := B.bytes
  have hr := B.returns
  have hts := atoms_spec (ws := wsX6_remembers) B.pre
  have hown : s.vm.findClass RX6 = some m.cls := findClass_of_methodNamed B.named
  have hlocks := B.notSynchronized
  have hK := hKK.1
  have hD := hD0.self (sz := s.heap.size)
  generalize hZe : va_A (wTp g a0 a1 a2 a0t (adp 0) (adr 0) a0i (hd 0 0) (hd 1 0) im kf ++ (wC g a0t rgt yct fct ++ (wPa g adp Ap Fp ++ (wRe g adr Ar ++ (wHi g a0i a1i pf nxi kni ++ (wH g (hd 0) (HA 0) (HF 0) ++ (wH g (hd 1) (HA 1) (HF 1) ++ (wH g (hd 2) (HA 2) (HF 2) ++ (wH g (hd 3) (HA 3) (HF 3) ++ (wH g (hd 4) (HA 4) (HF 4) ++ (wH g (hd 5) (HA 5) (HF 5) ++ (wH g (hd 6) (HA 6) (HF 6) ++ (wH g (hd 7) (HA 7) (HF 7) ++ (wH g (hd 8) (HA 8) (HF 8) ++ (wH g (hd 9) (HA 9) (HF 9) ++ ([])))))))))))))))) s.heap.size = Z at hD ⊢
  have hZ : ∀ q : Nat, s.heap.size ≤ q → Z q := fun q h => by rw [← hZe]; exact Or.inr h
  have hS : va_S Z s.heap s.heap [] := va_S.rf
  have hP : va_P g.1 vwCl (wTp g a0 a1 a2 a0t (adp 0) (adr 0) a0i (hd 0 0) (hd 1 0) im kf ++ (wC g a0t rgt yct fct ++ (wPa g adp Ap Fp ++ (wRe g adr Ar ++ (wHi g a0i a1i pf nxi kni ++ (wH g (hd 0) (HA 0) (HF 0) ++ (wH g (hd 1) (HA 1) (HF 1) ++ (wH g (hd 2) (HA 2) (HF 2) ++ (wH g (hd 3) (HA 3) (HF 3) ++ (wH g (hd 4) (HA 4) (HF 4) ++ (wH g (hd 5) (HA 5) (HF 5) ++ (wH g (hd 6) (HA 6) (HF 6) ++ (wH g (hd 7) (HA 7) (HF 7) ++ (wH g (hd 8) (HA 8) (HF 8) ++ (wH g (hd 9) (HA 9) (HF 9) ++ ([])))))))))))))))) s.heap := hP
  have hD : va_D Z (wTp g a0 a1 a2 a0t (adp 0) (adr 0) a0i (hd 0 0) (hd 1 0) im kf ++ (wC g a0t rgt yct fct ++ (wPa g adp Ap Fp ++ (wRe g adr Ar ++ (wHi g a0i a1i pf nxi kni ++ (wH g (hd 0) (HA 0) (HF 0) ++ (wH g (hd 1) (HA 1) (HF 1) ++ (wH g (hd 2) (HA 2) (HF 2) ++ (wH g (hd 3) (HA 3) (HF 3) ++ (wH g (hd 4) (HA 4) (HF 4) ++ (wH g (hd 5) (HA 5) (HF 5) ++ (wH g (hd 6) (HA 6) (HF 6) ++ (wH g (hd 7) (HA 7) (HF 7) ++ (wH g (hd 8) (HA 8) (HF 8) ++ (wH g (hd 9) (HA 9) (HF 9) ++ ([])))))))))))))))) := hD
  have hl := lv_entry ([.ref a0, .int p0, .int p1]) (n := 3) (Nat.le_of_ble_eq_true rfl)
  rw [lg_entry_eq]
  generalize (lg_sl ([.ref a0, .int p0, .int p1]) ++ List.replicate (3 - (lg_sl ([.ref a0, .int p0, .int p1])).length) Slot.unset).toArray = ls at hl ⊢
  have hl : lv_has ls 3 [(0, .ref a0), (1, .int p0), (2, .int p1)] := hl
  unfold sX6_remembers at hsem
  refine lv_iload_n hx hb dX6_remembers_0 rfl (lv_at hl 1 rfl) ?_
  obtain ⟨x1, hc1, hsem⟩ := bn_some hsem
  refine pcS (As := [.int p0]) (rest := []) ⟨hx, hb, hml, hown, hts⟩ hKK (va_cwS 1 hts gX6_remembers_X6_isRegion rfl rfl rfl hdX6_isRegion ⟨Nat.le_of_ble_eq_true rfl, Nat.le_of_ble_eq_true rfl⟩) (kX6_isRegion (l := l) (g := g) hc1) rfl hl.1 rfl (Nat.le_of_ble_eq_true rfl) dX6_remembers_1 ⟨Nat.zero_le _, Nat.zero_le _⟩ ?_
  refine lv_if_eq (tgt := 17) hx hb dX6_remembers_4 (by decide) (fun c1 => ?_) (fun c1 => ?_)
  · rw [if_pos c1] at hsem
    refine lv_iconst (v := (-1)) hx hb dX6_remembers_17 (by decide) ?_
    have eo := (Option.some.inj hsem).symm.symm
    subst eo
    exact W.iret (v := (-1)) hx hb hr (fun t ht hW => ⟨⟨_, (), rfl, rfl, ⟨by rw [ht]; exact hP, hD⟩⟩, hS.F ht⟩) hS.2.2 dX6_remembers_18
  · rw [if_neg c1] at hsem
    refine lv_iload_n hx hb dX6_remembers_7 rfl (lv_at hl 2 rfl) ?_
    refine lv_iconst (v := 0) hx hb dX6_remembers_8 (by decide) ?_
    refine lv_bipush (v := 19) hx hb dX6_remembers_9 (by decide) ?_
    obtain ⟨x2, hc2, hsem⟩ := bn_some hsem
    refine pcS (As := [.int p1, .int 0, .int 19]) (rest := []) ⟨hx, hb, hml, hown, hts⟩ hKK (va_cwS 3 hts gX6_remembers_X6_within rfl rfl rfl hdX6_within ⟨Nat.le_of_ble_eq_true rfl, Nat.le_of_ble_eq_true rfl⟩) (kX6_within (l := l) (g := g) hc2) rfl hl.1 rfl (Nat.le_of_ble_eq_true rfl) dX6_remembers_11 ⟨Nat.zero_le _, Nat.zero_le _⟩ ?_
    refine lv_if_ne (tgt := 19) hx hb dX6_remembers_14 (by decide) (fun c2 => ?_) (fun c2 => ?_)
    · rw [if_neg c2] at hsem
      refine lv_aload_n hx hb dX6_remembers_19 rfl (lv_at hl 0 rfl) ?_
      refine va_get (D := g.1) (ci := 6) (v := .ref (hd 0 0)) (C := RX6) (T := TX6) (N := 8) hx hb hts (fun w h => List.mem_cons_of_mem _ (List.mem_append_left _ (List.mem_append_right _ h))) hown hK hP 0 rfl rfl 0 (by decide) (hts (.fieldLink RX6 10 "PauseRegions" "heap" "LPauseRegions$Heap;") (List.mem_of_getElem? (i := 1) rfl)) (fun _ h9 => h9) rfl dX6_remembers_20 ?_
      refine va_get (D := g.1) (ci := 1) (v := .ref (hd 0 4)) (C := RX1) (T := TX1) (N := 18) hx hb hts (fun w h => List.mem_cons_of_mem _ (List.mem_append_right _ h)) hown hK hP 14 rfl rfl 3 (by decide) (hts (.fieldLink RX6 165 "PauseRegions$Heap" "memory" "[I") (List.mem_of_getElem? (i := 2) rfl)) (fun _ h9 => h9) rfl dX6_remembers_23 ?_
      refine lv_iload_n hx hb dX6_remembers_26 rfl (lv_at hl 1 rfl) ?_
      obtain ⟨h1, hsem⟩ := ck_some hsem
      refine va_iald (D := g.1) hx hb hK hP 18 0 rfl rfl h1 dX6_remembers_27 ?_
      refine lv_iload_n hx hb dX6_remembers_28 rfl (lv_at hl 2 rfl) ?_
      obtain ⟨x3, hc3, hsem⟩ := bn_some hsem
      refine pcS (As := [.int (((HA 0) 3) p0.toNatClampNeg), .int p1]) (rest := []) ⟨hx, hb, hml, hown, hts⟩ hKK (va_cwS 2 hts gX6_remembers_X6_hasBit rfl rfl rfl hdX6_hasBit ⟨Nat.le_of_ble_eq_true rfl, Nat.le_of_ble_eq_true rfl⟩) (kX6_hasBit (l := l) (g := g) hc3) rfl hl.1 rfl (Nat.le_of_ble_eq_true rfl) dX6_remembers_29 ⟨Nat.zero_le _, Nat.zero_le _⟩ ?_
      refine lv_if_eq (tgt := 39) hx hb dX6_remembers_32 (by decide) (fun c3 => ?_) (fun c3 => ?_)
      · rw [if_pos c3] at hsem
        refine lv_iconst (v := 0) hx hb dX6_remembers_39 (by decide) ?_
        have eo := (Option.some.inj hsem).symm.symm
        subst eo
        exact W.iret (v := 0) hx hb hr (fun t ht hW => ⟨⟨_, (), rfl, rfl, ⟨by rw [ht]; exact hP, hD⟩⟩, hS.F ht⟩) hS.2.2 dX6_remembers_40
      · rw [if_neg c3] at hsem
        refine lv_iconst (v := 1) hx hb dX6_remembers_35 (by decide) ?_
        refine lv_goto (tgt := 40) hx hb dX6_remembers_36 (by decide) ?_
        have eo := (Option.some.inj hsem).symm.symm
        subst eo
        exact W.iret (v := 1) hx hb hr (fun t ht hW => ⟨⟨_, (), rfl, rfl, ⟨by rw [ht]; exact hP, hD⟩⟩, hS.F ht⟩) hS.2.2 dX6_remembers_40
    · rw [if_pos c2] at hsem
      refine lv_iconst (v := (-1)) hx hb dX6_remembers_17 (by decide) ?_
      have eo := (Option.some.inj hsem).symm.symm
      subst eo
      exact W.iret (v := (-1)) hx hb hr (fun t ht hW => ⟨⟨_, (), rfl, rfl, ⟨by rw [ht]; exact hP, hD⟩⟩, hS.F ht⟩) hS.2.2 dX6_remembers_18
def sX6_root (HA : Nat → IA) (p0 : Int32) : Option (Int32) :=
  (sX6_isRoot p0).bind fun x1 => if x1 = 0 then (some (-1)) else (ck p0 6 (some (((HA 0) 9) p0.toNatClampNeg)))
abbrev rmX6_root : Room := { frames := 2, cells := 0, slots := 0, locals := 42 }
theorem hdX6_root : yX6_root.cls = RX6 ∧ yX6_root.cls ≠ "java/lang/invoke/MethodHandle" ∧ yX6_root.cls ≠ "java/lang/invoke/VarHandle" ∧ (parseMethodDescriptor yX6_root.desc).map (fun d => d.parameters.length) = some 1 := by decide +kernel
set_option maxHeartbeats 8000000 in
set_option maxRecDepth 100000 in
theorem kX6_root {l : Launch} {g : GG} {sz : Nat} {a0 a1 a2 : Nat} {im : Nat → Option Nat} {kf : Nat → Int32} {a0t : Nat} {rgt : Int32} {yct : Int32} {fct : UInt32} {adp : Nat → Nat} {Ap : IA} {Fp : FA} {adr : Nat → Nat} {Ar : IA} {a0i a1i : Nat} {pf : Nat → Option Nat} {nxi kni : Int32} {hd : Nat → Nat → Nat} {HA : Nat → IA} {HF : Nat → FA} {p0 : Int32} {b : Int32} (hsem : sX6_root HA p0 = some b) : MetI l yX6_root wsX6_root rmX6_root g [.ref a0, .int p0] (wTp g a0 a1 a2 a0t (adp 0) (adr 0) a0i (hd 0 0) (hd 1 0) im kf ++ (wC g a0t rgt yct fct ++ (wPa g adp Ap Fp ++ (wRe g adr Ar ++ (wHi g a0i a1i pf nxi kni ++ (wH g (hd 0) (HA 0) (HF 0) ++ (wH g (hd 1) (HA 1) (HF 1) ++ (wH g (hd 2) (HA 2) (HF 2) ++ (wH g (hd 3) (HA 3) (HF 3) ++ (wH g (hd 4) (HA 4) (HF 4) ++ (wH g (hd 5) (HA 5) (HF 5) ++ (wH g (hd 6) (HA 6) (HF 6) ++ (wH g (hd 7) (HA 7) (HF 7) ++ (wH g (hd 8) (HA 8) (HF 8) ++ (wH g (hd 9) (HA 9) (HF 9) ++ ([])))))))))))))))) sz b (wTp g a0 a1 a2 a0t (adp 0) (adr 0) a0i (hd 0 0) (hd 1 0) im kf ++ (wC g a0t rgt yct fct ++ (wPa g adp Ap Fp ++ (wRe g adr Ar ++ (wHi g a0i a1i pf nxi kni ++ (wH g (hd 0) (HA 0) (HF 0) ++ (wH g (hd 1) (HA 1) (HF 1) ++ (wH g (hd 2) (HA 2) (HF 2) ++ (wH g (hd 3) (HA 3) (HF 3) ++ (wH g (hd 4) (HA 4) (HF 4) ++ (wH g (hd 5) (HA 5) (HF 5) ++ (wH g (hd 6) (HA 6) (HF 6) ++ (wH g (hd 7) (HA 7) (HF 7) ++ (wH g (hd 8) (HA 8) (HF 8) ++ (wH g (hd 9) (HA 9) (HF 9) ++ ([])))))))))))))))) := by
  refine Met.ofW (cc := cX6_root) (maxL := 2) (ret := (some .int)) (by decide) rfl ?_
  intro p e s m args below meth c s₁ B hml hv
  obtain ⟨rfl, hsz, hP, hD0, hKK⟩ := hv
  subst hsz
  have hx := B.exec
  have hb := B.bytes
  have hr := B.returns
  have hts := atoms_spec (ws := wsX6_root) B.pre
  have hown : s.vm.findClass RX6 = some m.cls := findClass_of_methodNamed B.named
  have hlocks := B.notSynchronized
  have hK := hKK.1
  have hD := hD0.self (sz := s.heap.size)
  generalize hZe : va_A (wTp g a0 a1 a2 a0t (adp 0) (adr 0) a0i (hd 0 0) (hd 1 0) im kf ++ (wC g a0t rgt yct fct ++ (wPa g adp Ap Fp ++ (wRe g adr Ar ++ (wHi g a0i a1i pf nxi kni ++ (wH g (hd 0) (HA 0) (HF 0) ++ (wH g (hd 1) (HA 1) (HF 1) ++ (wH g (hd 2) (HA 2) (HF 2) ++ (wH g (hd 3) (HA 3) (HF 3) ++ (wH g (hd 4) (HA 4) (HF 4) ++ (wH g (hd 5) (HA 5) (HF 5) ++ (wH g (hd 6) (HA 6) (HF 6) ++ (wH g (hd 7) (HA 7) (HF 7) ++ (wH g (hd 8) (HA 8) (HF 8) ++ (wH g (hd 9) (HA 9) (HF 9) ++ ([])))))))))))))))) s.heap.size = Z at hD ⊢
  have hZ : ∀ q : Nat, s.heap.size ≤ q → Z q := fun q h => by rw [← hZe]; exact Or.inr h
  have hS : va_S Z s.heap s.heap [] := va_S.rf
  have hP : va_P g.1 vwCl (wTp g a0 a1 a2 a0t (adp 0) (adr 0) a0i (hd 0 0) (hd 1 0) im kf ++ (wC g a0t rgt yct fct ++ (wPa g adp Ap Fp ++ (wRe g adr Ar ++ (wHi g a0i a1i pf nxi kni ++ (wH g (hd 0) (HA 0) (HF 0) ++ (wH g (hd 1) (HA 1) (HF 1) ++ (wH g (hd 2) (HA 2) (HF 2) ++ (wH g (hd 3) (HA 3) (HF 3) ++ (wH g (hd 4) (HA 4) (HF 4) ++ (wH g (hd 5) (HA 5) (HF 5) ++ (wH g (hd 6) (HA 6) (HF 6) ++ (wH g (hd 7) (HA 7) (HF 7) ++ (wH g (hd 8) (HA 8) (HF 8) ++ (wH g (hd 9) (HA 9) (HF 9) ++ ([])))))))))))))))) s.heap := hP
  have hD : va_D Z (wTp g a0 a1 a2 a0t (adp 0) (adr 0) a0i (hd 0 0) (hd 1 0) im kf ++ (wC g a0t rgt yct fct ++ (wPa g adp Ap Fp ++ (wRe g adr Ar ++ (wHi g a0i a1i pf nxi kni ++ (wH g (hd 0) (HA 0) (HF 0) ++ (wH g (hd 1) (HA 1) (HF 1) ++ (wH g (hd 2) (HA 2) (HF 2) ++ (wH g (hd 3) (HA 3) (HF 3) ++ (wH g (hd 4) (HA 4) (HF 4) ++ (wH g (hd 5) (HA 5) (HF 5) ++ (wH g (hd 6) (HA 6) (HF 6) ++ (wH g (hd 7) (HA 7) (HF 7) ++ (wH g (hd 8) (HA 8) (HF 8) ++ (wH g (hd 9) (HA 9) (HF 9) ++ ([])))))))))))))))) := hD
  have hl := lv_entry ([.ref a0, .int p0]) (n := 2) (Nat.le_of_ble_eq_true rfl)
  rw [lg_entry_eq]
  generalize (lg_sl ([.ref a0, .int p0]) ++ List.replicate (2 - (lg_sl ([.ref a0, .int p0])).length) Slot.unset).toArray = ls at hl ⊢
  have hl : lv_has ls 2 [(0, .ref a0), (1, .int p0)] := hl
  unfold sX6_root at hsem
  refine lv_iload_n hx hb dX6_root_0 rfl (lv_at hl 1 rfl) ?_
  obtain ⟨x1, hc1, hsem⟩ := bn_some hsem
  refine pcS (As := [.int p0]) (rest := []) ⟨hx, hb, hml, hown, hts⟩ hKK (va_cwS 1 hts gX6_root_X6_isRoot rfl rfl rfl hdX6_isRoot ⟨Nat.le_of_ble_eq_true rfl, Nat.le_of_ble_eq_true rfl⟩) (kX6_isRoot (l := l) (g := g) hc1) rfl hl.1 rfl (Nat.le_of_ble_eq_true rfl) dX6_root_1 ⟨Nat.zero_le _, Nat.zero_le _⟩ ?_
  refine lv_if_eq (tgt := 19) hx hb dX6_root_4 (by decide) (fun c1 => ?_) (fun c1 => ?_)
  · rw [if_pos c1] at hsem
    refine lv_iconst (v := (-1)) hx hb dX6_root_19 (by decide) ?_
    have eo := (Option.some.inj hsem).symm.symm
    subst eo
    exact W.iret (v := (-1)) hx hb hr (fun t ht hW => ⟨⟨_, (), rfl, rfl, ⟨by rw [ht]; exact hP, hD⟩⟩, hS.F ht⟩) hS.2.2 dX6_root_20
  · rw [if_neg c1] at hsem
    refine lv_aload_n hx hb dX6_root_7 rfl (lv_at hl 0 rfl) ?_
    refine va_get (D := g.1) (ci := 6) (v := .ref (hd 0 0)) (C := RX6) (T := TX6) (N := 8) hx hb hts (fun w h => List.mem_cons_of_mem _ (List.mem_append_left _ (List.mem_append_right _ h))) hown hK hP 0 rfl rfl 0 (by decide) (hts (.fieldLink RX6 10 "PauseRegions" "heap" "LPauseRegions$Heap;") (List.mem_of_getElem? (i := 1) rfl)) (fun _ h9 => h9) rfl dX6_root_8 ?_
    refine va_get (D := g.1) (ci := 1) (v := .ref (hd 0 10)) (C := RX1) (T := TX1) (N := 18) hx hb hts (fun w h => List.mem_cons_of_mem _ (List.mem_append_right _ h)) hown hK hP 14 rfl rfl 9 (by decide) (hts (.fieldLink RX6 79 "PauseRegions$Heap" "roots" "[I") (List.mem_of_getElem? (i := 2) rfl)) (fun _ h9 => h9) rfl dX6_root_11 ?_
    refine lv_iload_n hx hb dX6_root_14 rfl (lv_at hl 1 rfl) ?_
    obtain ⟨h1, hsem⟩ := ck_some hsem
    refine va_iald (D := g.1) hx hb hK hP 24 0 rfl rfl h1 dX6_root_15 ?_
    refine lv_goto (tgt := 20) hx hb dX6_root_16 (by decide) ?_
    have eo := (Option.some.inj hsem).symm.symm
    subst eo
    exact W.iret (v := ((HA 0) 9) p0.toNatClampNeg) hx hb hr (fun t ht hW => ⟨⟨_, (), rfl, rfl, ⟨by rw [ht]; exact hP, hD⟩⟩, hS.F ht⟩) hS.2.2 dX6_root_20
def sX6_rubbish_L26 (HA : Nat → IA) (p0 : Int32) (z1 : IA) (q1 : Int32 × Int32) : Option ((Int32 × Int32) ⊕ (Int32)) :=
  if 32 ≤ q1.2 then (some (.inr q1.1)) else ((sX1_isThere (HA 0) q1.2).bind fun x2 => if x2 = 0 then (some (.inl (q1.1, q1.2 + 1))) else ((sX6_hasBit (z1 0 0) q1.2).bind fun x3 => if x3 = 0 then (if p0 = 0 then (bd (q1.1 + 1) fun x5 => some (.inl (x5, q1.2 + 1))) else (ck q1.2 32 (bd (q1.1 + (((HA 0) 4) q1.2.toNatClampNeg)) fun x4 => some (.inl (x4, q1.2 + 1))))) else (some (.inl (q1.1, q1.2 + 1)))))
def sX6_rubbish (Ar : IA) (HA : Nat → IA) (p0 : Int32) : Option (Int32 × IA) :=
  (sX6_within p0 0 1).bind fun x1 => if x1 = 0 then (some (((-1), Ar))) else ((sX4_findReached Ar (HA 0)).bind fun z1 => (loopN (sX6_rubbish_L26 HA p0 z1) 2000 (0, 0)).bind fun q2 => some (q2, z1))
abbrev rmX6_rubbish : Room := { frames := 3, cells := 0, slots := 0, locals := 66 }
theorem hdX6_rubbish : yX6_rubbish.cls = RX6 ∧ yX6_rubbish.cls ≠ "java/lang/invoke/MethodHandle" ∧ yX6_rubbish.cls ≠ "java/lang/invoke/VarHandle" ∧ (parseMethodDescriptor yX6_rubbish.desc).map (fun d => d.parameters.length) = some 1 := by decide +kernel
set_option maxHeartbeats 8000000 in
set_option maxRecDepth 100000 in
theorem kX6_rubbish {l : Launch} {g : GG} {sz : Nat} {a0 a1 a2 : Nat} {im : Nat → Option Nat} {kf : Nat → Int32} {a0t : Nat} {rgt : Int32} {yct : Int32} {fct : UInt32} {adp : Nat → Nat} {Ap : IA} {Fp : FA} {adr : Nat → Nat} {Ar : IA} {a0i a1i : Nat} {pf : Nat → Option Nat} {nxi kni : Int32} {hd : Nat → Nat → Nat} {HA : Nat → IA} {HF : Nat → FA} {p0 : Int32} {b : Int32 × IA} (hsem : sX6_rubbish Ar HA p0 = some b) : MetI l yX6_rubbish wsX6_rubbish rmX6_rubbish g [.ref a0, .int p0] (wTp g a0 a1 a2 a0t (adp 0) (adr 0) a0i (hd 0 0) (hd 1 0) im kf ++ (wC g a0t rgt yct fct ++ (wPa g adp Ap Fp ++ (wRe g adr Ar ++ (wHi g a0i a1i pf nxi kni ++ (wH g (hd 0) (HA 0) (HF 0) ++ (wH g (hd 1) (HA 1) (HF 1) ++ (wH g (hd 2) (HA 2) (HF 2) ++ (wH g (hd 3) (HA 3) (HF 3) ++ (wH g (hd 4) (HA 4) (HF 4) ++ (wH g (hd 5) (HA 5) (HF 5) ++ (wH g (hd 6) (HA 6) (HF 6) ++ (wH g (hd 7) (HA 7) (HF 7) ++ (wH g (hd 8) (HA 8) (HF 8) ++ (wH g (hd 9) (HA 9) (HF 9) ++ ([])))))))))))))))) sz b.1 (wTp g a0 a1 a2 a0t (adp 0) (adr 0) a0i (hd 0 0) (hd 1 0) im kf ++ (wC g a0t rgt yct fct ++ (wPa g adp Ap Fp ++ (wRe g adr b.2 ++ (wHi g a0i a1i pf nxi kni ++ (wH g (hd 0) (HA 0) (HF 0) ++ (wH g (hd 1) (HA 1) (HF 1) ++ (wH g (hd 2) (HA 2) (HF 2) ++ (wH g (hd 3) (HA 3) (HF 3) ++ (wH g (hd 4) (HA 4) (HF 4) ++ (wH g (hd 5) (HA 5) (HF 5) ++ (wH g (hd 6) (HA 6) (HF 6) ++ (wH g (hd 7) (HA 7) (HF 7) ++ (wH g (hd 8) (HA 8) (HF 8) ++ (wH g (hd 9) (HA 9) (HF 9) ++ ([])))))))))))))))) := by
  refine Met.ofW (cc := cX6_rubbish) (maxL := 4) (ret := (some .int)) (by decide) rfl ?_
  intro p e s m args below meth c s₁ B hml hv
  obtain ⟨rfl, hsz, hP, hD0, hKK⟩ := hv
  subst hsz
  have hx := B.exec
  have hb := B.bytes
  have hr := B.returns
  have hts := atoms_spec (ws := wsX6_rubbish) B.pre
  have hown : s.vm.findClass RX6 = some m.cls := findClass_of_methodNamed B.named
  have hlocks := B.notSynchronized
  have hK := hKK.1
  have hD := hD0.self (sz := s.heap.size)
  generalize hZe : va_A (wTp g a0 a1 a2 a0t (adp 0) (adr 0) a0i (hd 0 0) (hd 1 0) im kf ++ (wC g a0t rgt yct fct ++ (wPa g adp Ap Fp ++ (wRe g adr Ar ++ (wHi g a0i a1i pf nxi kni ++ (wH g (hd 0) (HA 0) (HF 0) ++ (wH g (hd 1) (HA 1) (HF 1) ++ (wH g (hd 2) (HA 2) (HF 2) ++ (wH g (hd 3) (HA 3) (HF 3) ++ (wH g (hd 4) (HA 4) (HF 4) ++ (wH g (hd 5) (HA 5) (HF 5) ++ (wH g (hd 6) (HA 6) (HF 6) ++ (wH g (hd 7) (HA 7) (HF 7) ++ (wH g (hd 8) (HA 8) (HF 8) ++ (wH g (hd 9) (HA 9) (HF 9) ++ ([])))))))))))))))) s.heap.size = Z at hD ⊢
  have hZ : ∀ q : Nat, s.heap.size ≤ q → Z q := fun q h => by rw [← hZe]; exact Or.inr h
  have hS : va_S Z s.heap s.heap [] := va_S.rf
  have hP : va_P g.1 vwCl (wTp g a0 a1 a2 a0t (adp 0) (adr 0) a0i (hd 0 0) (hd 1 0) im kf ++ (wC g a0t rgt yct fct ++ (wPa g adp Ap Fp ++ (wRe g adr Ar ++ (wHi g a0i a1i pf nxi kni ++ (wH g (hd 0) (HA 0) (HF 0) ++ (wH g (hd 1) (HA 1) (HF 1) ++ (wH g (hd 2) (HA 2) (HF 2) ++ (wH g (hd 3) (HA 3) (HF 3) ++ (wH g (hd 4) (HA 4) (HF 4) ++ (wH g (hd 5) (HA 5) (HF 5) ++ (wH g (hd 6) (HA 6) (HF 6) ++ (wH g (hd 7) (HA 7) (HF 7) ++ (wH g (hd 8) (HA 8) (HF 8) ++ (wH g (hd 9) (HA 9) (HF 9) ++ ([])))))))))))))))) s.heap := hP
  have hD : va_D Z (wTp g a0 a1 a2 a0t (adp 0) (adr 0) a0i (hd 0 0) (hd 1 0) im kf ++ (wC g a0t rgt yct fct ++ (wPa g adp Ap Fp ++ (wRe g adr Ar ++ (wHi g a0i a1i pf nxi kni ++ (wH g (hd 0) (HA 0) (HF 0) ++ (wH g (hd 1) (HA 1) (HF 1) ++ (wH g (hd 2) (HA 2) (HF 2) ++ (wH g (hd 3) (HA 3) (HF 3) ++ (wH g (hd 4) (HA 4) (HF 4) ++ (wH g (hd 5) (HA 5) (HF 5) ++ (wH g (hd 6) (HA 6) (HF 6) ++ (wH g (hd 7) (HA 7) (HF 7) ++ (wH g (hd 8) (HA 8) (HF 8) ++ (wH g (hd 9) (HA 9) (HF 9) ++ ([])))))))))))))))) := hD
  have hl := lv_entry ([.ref a0, .int p0]) (n := 4) (Nat.le_of_ble_eq_true rfl)
  rw [lg_entry_eq]
  generalize (lg_sl ([.ref a0, .int p0]) ++ List.replicate (4 - (lg_sl ([.ref a0, .int p0])).length) Slot.unset).toArray = ls at hl ⊢
  have hl : lv_has ls 4 [(0, .ref a0), (1, .int p0)] := hl
  unfold sX6_rubbish at hsem
  refine lv_iload_n hx hb dX6_rubbish_0 rfl (lv_at hl 1 rfl) ?_
  refine lv_iconst (v := 0) hx hb dX6_rubbish_1 (by decide) ?_
  refine lv_iconst (v := 1) hx hb dX6_rubbish_2 (by decide) ?_
  obtain ⟨x1, hc1, hsem⟩ := bn_some hsem
  refine pcS (As := [.int p0, .int 0, .int 1]) (rest := []) ⟨hx, hb, hml, hown, hts⟩ hKK (va_cwS 3 hts gX6_rubbish_X6_within rfl rfl rfl hdX6_within ⟨Nat.le_of_ble_eq_true rfl, Nat.le_of_ble_eq_true rfl⟩) (kX6_within (l := l) (g := g) hc1) rfl hl.1 rfl (Nat.le_of_ble_eq_true rfl) dX6_rubbish_3 ⟨Nat.zero_le _, Nat.zero_le _⟩ ?_
  refine lv_if_ne (tgt := 11) hx hb dX6_rubbish_6 (by decide) (fun c1 => ?_) (fun c1 => ?_)
  · rw [if_neg c1] at hsem
    refine lv_aload_n hx hb dX6_rubbish_11 rfl (lv_at hl 0 rfl) ?_
    refine va_get (D := g.1) (ci := 6) (v := .ref (adr 0)) (C := RX6) (T := TX6) (N := 8) hx hb hts (fun w h => List.mem_cons_of_mem _ (List.mem_append_left _ (List.mem_append_left _ (List.mem_append_left _ (List.mem_append_right _ h))))) hown hK hP 0 rfl rfl 7 (by decide) (hts (.fieldLink RX6 51 "PauseRegions" "reach" "LPauseRegions$Reach;") (List.mem_of_getElem? (i := 1) rfl)) (fun _ h9 => h9) rfl dX6_rubbish_12 ?_
    refine lv_aload_n hx hb dX6_rubbish_15 rfl (lv_at hl 0 rfl) ?_
    refine va_get (D := g.1) (ci := 6) (v := .ref (hd 0 0)) (C := RX6) (T := TX6) (N := 8) hx hb hts (fun w h => List.mem_cons_of_mem _ (List.mem_append_left _ (List.mem_append_left _ (List.mem_append_left _ (List.mem_append_right _ h))))) hown hK hP 0 rfl rfl 0 (by decide) (hts (.fieldLink RX6 10 "PauseRegions" "heap" "LPauseRegions$Heap;") (List.mem_of_getElem? (i := 2) rfl)) (fun _ h9 => h9) rfl dX6_rubbish_16 ?_
    obtain ⟨z1, hc2, hsem⟩ := bn_some hsem
    refine tcV (C := RX4) (As := [.ref (hd 0 0)]) (rest := []) hP hD hS hZ (pF2 (wTp g a0 a1 a2 a0t (adp 0) (adr 0) a0i (hd 0 0) (hd 1 0) im kf ++ (wC g a0t rgt yct fct ++ (wPa g adp Ap Fp ++ ([])))) (wRe g adr Ar) (wHi g a0i a1i pf nxi kni ++ ([])) (wH g (hd 0) (HA 0) (HF 0)) (wH g (hd 1) (HA 1) (HF 1) ++ (wH g (hd 2) (HA 2) (HF 2) ++ (wH g (hd 3) (HA 3) (HF 3) ++ (wH g (hd 4) (HA 4) (HF 4) ++ (wH g (hd 5) (HA 5) (HF 5) ++ (wH g (hd 6) (HA 6) (HF 6) ++ (wH g (hd 7) (HA 7) (HF 7) ++ (wH g (hd 8) (HA 8) (HF 8) ++ (wH g (hd 9) (HA 9) (HF 9) ++ ([]))))))))))) ⟨hx, hb, hml, hown, hts⟩ hKK (cwV 1 hts gX6_rubbish_X4_findReached rfl rfl rfl hdX4_findReached ⟨Nat.le_of_ble_eq_true rfl, Nat.le_of_ble_eq_true rfl⟩) (kX4_findReached (l := l) (g := g) (ad := adr) (A := Ar) (adh := hd 0) (Ah := (HA 0)) (Fh := (HF 0))  hc2) (va_recv hK hP (ci := 4) (q0 := 8) rfl rfl) rfl hl.1 rfl (Nat.le_of_ble_eq_true rfl) dX6_rubbish_19 ⟨Nat.zero_le _, Nat.zero_le _⟩ (fun H locs hP hD hS => ?_)
    have hP : va_P g.1 vwCl (wTp g a0 a1 a2 a0t (adp 0) (adr 0) a0i (hd 0 0) (hd 1 0) im kf ++ (wC g a0t rgt yct fct ++ (wPa g adp Ap Fp ++ (wRe g adr z1 ++ (wHi g a0i a1i pf nxi kni ++ (wH g (hd 0) (HA 0) (HF 0) ++ (wH g (hd 1) (HA 1) (HF 1) ++ (wH g (hd 2) (HA 2) (HF 2) ++ (wH g (hd 3) (HA 3) (HF 3) ++ (wH g (hd 4) (HA 4) (HF 4) ++ (wH g (hd 5) (HA 5) (HF 5) ++ (wH g (hd 6) (HA 6) (HF 6) ++ (wH g (hd 7) (HA 7) (HF 7) ++ (wH g (hd 8) (HA 8) (HF 8) ++ (wH g (hd 9) (HA 9) (HF 9) ++ ([])))))))))))))))) H := vaP_perm (pF2 (wTp g a0 a1 a2 a0t (adp 0) (adr 0) a0i (hd 0 0) (hd 1 0) im kf ++ (wC g a0t rgt yct fct ++ (wPa g adp Ap Fp ++ ([])))) (wRe g adr z1) (wHi g a0i a1i pf nxi kni ++ ([])) (wH g (hd 0) (HA 0) (HF 0)) (wH g (hd 1) (HA 1) (HF 1) ++ (wH g (hd 2) (HA 2) (HF 2) ++ (wH g (hd 3) (HA 3) (HF 3) ++ (wH g (hd 4) (HA 4) (HF 4) ++ (wH g (hd 5) (HA 5) (HF 5) ++ (wH g (hd 6) (HA 6) (HF 6) ++ (wH g (hd 7) (HA 7) (HF 7) ++ (wH g (hd 8) (HA 8) (HF 8) ++ (wH g (hd 9) (HA 9) (HF 9) ++ ([]))))))))))).symm (by exact hP)
    have hD : va_D Z (wTp g a0 a1 a2 a0t (adp 0) (adr 0) a0i (hd 0 0) (hd 1 0) im kf ++ (wC g a0t rgt yct fct ++ (wPa g adp Ap Fp ++ (wRe g adr z1 ++ (wHi g a0i a1i pf nxi kni ++ (wH g (hd 0) (HA 0) (HF 0) ++ (wH g (hd 1) (HA 1) (HF 1) ++ (wH g (hd 2) (HA 2) (HF 2) ++ (wH g (hd 3) (HA 3) (HF 3) ++ (wH g (hd 4) (HA 4) (HF 4) ++ (wH g (hd 5) (HA 5) (HF 5) ++ (wH g (hd 6) (HA 6) (HF 6) ++ (wH g (hd 7) (HA 7) (HF 7) ++ (wH g (hd 8) (HA 8) (HF 8) ++ (wH g (hd 9) (HA 9) (HF 9) ++ ([])))))))))))))))) := vaD_perm (pF2 (wTp g a0 a1 a2 a0t (adp 0) (adr 0) a0i (hd 0 0) (hd 1 0) im kf ++ (wC g a0t rgt yct fct ++ (wPa g adp Ap Fp ++ ([])))) (wRe g adr z1) (wHi g a0i a1i pf nxi kni ++ ([])) (wH g (hd 0) (HA 0) (HF 0)) (wH g (hd 1) (HA 1) (HF 1) ++ (wH g (hd 2) (HA 2) (HF 2) ++ (wH g (hd 3) (HA 3) (HF 3) ++ (wH g (hd 4) (HA 4) (HF 4) ++ (wH g (hd 5) (HA 5) (HF 5) ++ (wH g (hd 6) (HA 6) (HF 6) ++ (wH g (hd 7) (HA 7) (HF 7) ++ (wH g (hd 8) (HA 8) (HF 8) ++ (wH g (hd 9) (HA 9) (HF 9) ++ ([]))))))))))).symm (by exact hD)
    refine lv_iconst (v := 0) hx hb dX6_rubbish_22 (by decide) ?_
    refine lv_istore_n (lv' := [(2, .int 0), (0, .ref a0), (1, .int p0)]) hx hb dX6_rubbish_23 rfl hl (by decide) rfl (fun ls hl => ?_)
    refine lv_iconst (v := 0) hx hb dX6_rubbish_24 (by decide) ?_
    refine lv_istore_n (lv' := [(3, .int 0), (2, .int 0), (0, .ref a0), (1, .int p0)]) hx hb dX6_rubbish_25 rfl hl (by decide) rfl (fun ls hl => ?_)
    obtain ⟨q2, hc5, hsem⟩ := bn_some hsem
    refine loopM (g := g) hc5 (fun (q1 : Int32 × Int32) => [(3, .int q1.2), (2, .int q1.1), (0, .ref a0), (1, .int p0)]) (fun (q1 : Int32) => [(2, .int q1)]) (exit := 83) (fun (q1 : Int32 × Int32) => wTp g a0 a1 a2 a0t (adp 0) (adr 0) a0i (hd 0 0) (hd 1 0) im kf ++ (wC g a0t rgt yct fct ++ (wPa g adp Ap Fp ++ (wRe g adr z1 ++ (wHi g a0i a1i pf nxi kni ++ (wH g (hd 0) (HA 0) (HF 0) ++ (wH g (hd 1) (HA 1) (HF 1) ++ (wH g (hd 2) (HA 2) (HF 2) ++ (wH g (hd 3) (HA 3) (HF 3) ++ (wH g (hd 4) (HA 4) (HF 4) ++ (wH g (hd 5) (HA 5) (HF 5) ++ (wH g (hd 6) (HA 6) (HF 6) ++ (wH g (hd 7) (HA 7) (HF 7) ++ (wH g (hd 8) (HA 8) (HF 8) ++ (wH g (hd 9) (HA 9) (HF 9) ++ ([])))))))))))))))) (fun (q1 : Int32) => wTp g a0 a1 a2 a0t (adp 0) (adr 0) a0i (hd 0 0) (hd 1 0) im kf ++ (wC g a0t rgt yct fct ++ (wPa g adp Ap Fp ++ (wRe g adr z1 ++ (wHi g a0i a1i pf nxi kni ++ (wH g (hd 0) (HA 0) (HF 0) ++ (wH g (hd 1) (HA 1) (HF 1) ++ (wH g (hd 2) (HA 2) (HF 2) ++ (wH g (hd 3) (HA 3) (HF 3) ++ (wH g (hd 4) (HA 4) (HF 4) ++ (wH g (hd 5) (HA 5) (HF 5) ++ (wH g (hd 6) (HA 6) (HF 6) ++ (wH g (hd 7) (HA 7) (HF 7) ++ (wH g (hd 8) (HA 8) (HF 8) ++ (wH g (hd 9) (HA 9) (HF 9) ++ ([])))))))))))))))) hP hD hS (lv_sub hl [0, 1, 2, 3] rfl) (fun H locs ls hP hD hS hl => ?_) (fun q1 r hst1 hin1 hout1 H locs ls hP hD hS hl => ?_)
    · have hP : va_P g.1 vwCl (wTp g a0 a1 a2 a0t (adp 0) (adr 0) a0i (hd 0 0) (hd 1 0) im kf ++ (wC g a0t rgt yct fct ++ (wPa g adp Ap Fp ++ (wRe g adr z1 ++ (wHi g a0i a1i pf nxi kni ++ (wH g (hd 0) (HA 0) (HF 0) ++ (wH g (hd 1) (HA 1) (HF 1) ++ (wH g (hd 2) (HA 2) (HF 2) ++ (wH g (hd 3) (HA 3) (HF 3) ++ (wH g (hd 4) (HA 4) (HF 4) ++ (wH g (hd 5) (HA 5) (HF 5) ++ (wH g (hd 6) (HA 6) (HF 6) ++ (wH g (hd 7) (HA 7) (HF 7) ++ (wH g (hd 8) (HA 8) (HF 8) ++ (wH g (hd 9) (HA 9) (HF 9) ++ ([])))))))))))))))) H := hP
      have hD : va_D Z (wTp g a0 a1 a2 a0t (adp 0) (adr 0) a0i (hd 0 0) (hd 1 0) im kf ++ (wC g a0t rgt yct fct ++ (wPa g adp Ap Fp ++ (wRe g adr z1 ++ (wHi g a0i a1i pf nxi kni ++ (wH g (hd 0) (HA 0) (HF 0) ++ (wH g (hd 1) (HA 1) (HF 1) ++ (wH g (hd 2) (HA 2) (HF 2) ++ (wH g (hd 3) (HA 3) (HF 3) ++ (wH g (hd 4) (HA 4) (HF 4) ++ (wH g (hd 5) (HA 5) (HF 5) ++ (wH g (hd 6) (HA 6) (HF 6) ++ (wH g (hd 7) (HA 7) (HF 7) ++ (wH g (hd 8) (HA 8) (HF 8) ++ (wH g (hd 9) (HA 9) (HF 9) ++ ([])))))))))))))))) := hD
      refine lv_iload_n hx hb dX6_rubbish_83 rfl (lv_at hl 0 rfl) ?_
      have eo := (Option.some.inj hsem).symm.symm
      subst eo
      exact W.iret (v := q2) hx hb hr (fun t ht hW => ⟨⟨_, (), rfl, rfl, ⟨by rw [ht]; exact hP, hD⟩⟩, hS.F ht⟩) hS.2.2 dX6_rubbish_84
    · unfold sX6_rubbish_L26 at hst1
      have hP : va_P g.1 vwCl (wTp g a0 a1 a2 a0t (adp 0) (adr 0) a0i (hd 0 0) (hd 1 0) im kf ++ (wC g a0t rgt yct fct ++ (wPa g adp Ap Fp ++ (wRe g adr z1 ++ (wHi g a0i a1i pf nxi kni ++ (wH g (hd 0) (HA 0) (HF 0) ++ (wH g (hd 1) (HA 1) (HF 1) ++ (wH g (hd 2) (HA 2) (HF 2) ++ (wH g (hd 3) (HA 3) (HF 3) ++ (wH g (hd 4) (HA 4) (HF 4) ++ (wH g (hd 5) (HA 5) (HF 5) ++ (wH g (hd 6) (HA 6) (HF 6) ++ (wH g (hd 7) (HA 7) (HF 7) ++ (wH g (hd 8) (HA 8) (HF 8) ++ (wH g (hd 9) (HA 9) (HF 9) ++ ([])))))))))))))))) H := hP
      have hD : va_D Z (wTp g a0 a1 a2 a0t (adp 0) (adr 0) a0i (hd 0 0) (hd 1 0) im kf ++ (wC g a0t rgt yct fct ++ (wPa g adp Ap Fp ++ (wRe g adr z1 ++ (wHi g a0i a1i pf nxi kni ++ (wH g (hd 0) (HA 0) (HF 0) ++ (wH g (hd 1) (HA 1) (HF 1) ++ (wH g (hd 2) (HA 2) (HF 2) ++ (wH g (hd 3) (HA 3) (HF 3) ++ (wH g (hd 4) (HA 4) (HF 4) ++ (wH g (hd 5) (HA 5) (HF 5) ++ (wH g (hd 6) (HA 6) (HF 6) ++ (wH g (hd 7) (HA 7) (HF 7) ++ (wH g (hd 8) (HA 8) (HF 8) ++ (wH g (hd 9) (HA 9) (HF 9) ++ ([])))))))))))))))) := hD
      refine lv_iload_n hx hb dX6_rubbish_26 rfl (lv_at hl 0 rfl) ?_
      refine lv_bipush (v := 32) hx hb dX6_rubbish_27 (by decide) ?_
      refine lv_icmp_ge (tgt := 83) hx hb dX6_rubbish_29 (by decide) (fun c2 => ?_) (fun c2 => ?_)
      · rw [if_pos c2] at hst1
        exact hout1 H locs ls _ (Option.some.inj hst1).symm hP hD hS (lv_sub hl [1] rfl)
      · rw [if_neg c2] at hst1
        refine lv_aload_n hx hb dX6_rubbish_32 rfl (lv_at hl 2 rfl) ?_
        refine va_get (D := g.1) (ci := 6) (v := .ref (hd 0 0)) (C := RX6) (T := TX6) (N := 8) hx hb hts (fun w h => List.mem_cons_of_mem _ (List.mem_append_left _ (List.mem_append_left _ (List.mem_append_left _ (List.mem_append_right _ h))))) hown hK hP 0 rfl rfl 0 (by decide) (hts (.fieldLink RX6 10 "PauseRegions" "heap" "LPauseRegions$Heap;") (List.mem_of_getElem? (i := 2) rfl)) (fun _ h9 => h9) rfl dX6_rubbish_33 ?_
        refine lv_iload_n hx hb dX6_rubbish_36 rfl (lv_at hl 0 rfl) ?_
        obtain ⟨x2, hc3, hst1⟩ := bn_some hst1
        refine pcV (C := RX1) (As := [.int q1.2]) (rest := []) ⟨hx, hb, hml, hown, hts⟩ hKK (cwV 1 hts gX6_rubbish_X1_isThere rfl rfl rfl hdX1_isThere ⟨Nat.le_of_ble_eq_true rfl, Nat.le_of_ble_eq_true rfl⟩) (kX1_isThere (l := l) (g := g) (hP.sub (ws' := wH g (hd 0) (HA 0) (HF 0)) [14, 15, 16, 17, 18, 19, 20, 21, 22, 23, 24, 25, 26, 27, 28] rfl) hc3) (va_recv hK hP (ci := 1) (q0 := 14) rfl rfl) rfl hl.1 rfl (Nat.le_of_ble_eq_true rfl) dX6_rubbish_37 ⟨Nat.zero_le _, Nat.zero_le _⟩ ?_
        refine lv_if_eq (tgt := 77) hx hb dX6_rubbish_40 (by decide) (fun c3 => ?_) (fun c3 => ?_)
        · rw [if_pos c3] at hst1
          refine lv_iinc (v := q1.2 + 1) (lv' := [(3, .int (q1.2 + 1)), (2, .int q1.1), (0, .ref a0), (1, .int p0)]) hx hb dX6_rubbish_77 hl (k := 0) rfl rfl (by decide) rfl (fun ls hl => ?_)
          refine lv_goto (tgt := 26) hx hb dX6_rubbish_80 (by decide) ?_
          exact hin1 H locs ls _ (Option.some.inj hst1).symm hP hD hS (lv_sub hl [0, 1, 2, 3] rfl)
        · rw [if_neg c3] at hst1
          refine lv_aload_n hx hb dX6_rubbish_43 rfl (lv_at hl 2 rfl) ?_
          refine va_get (D := g.1) (ci := 6) (v := .ref (adr 0)) (C := RX6) (T := TX6) (N := 8) hx hb hts (fun w h => List.mem_cons_of_mem _ (List.mem_append_left _ (List.mem_append_left _ (List.mem_append_left _ (List.mem_append_right _ h))))) hown hK hP 0 rfl rfl 7 (by decide) (hts (.fieldLink RX6 51 "PauseRegions" "reach" "LPauseRegions$Reach;") (List.mem_of_getElem? (i := 1) rfl)) (fun _ h9 => h9) rfl dX6_rubbish_44 ?_
          refine va_get (D := g.1) (ci := 4) (v := .int (z1 0 0)) (C := RX4) (T := TX4) (N := 3) hx hb hts (fun w h => List.mem_cons_of_mem _ (List.mem_append_left _ (List.mem_append_left _ (List.mem_append_right _ h)))) hown hK hP 8 rfl rfl 0 (by decide) (hts (.fieldLink RX6 204 "PauseRegions$Reach" "reached" "I") (List.mem_of_getElem? (i := 3) rfl)) (fun _ h9 => h9) rfl dX6_rubbish_47 ?_
          refine lv_iload_n hx hb dX6_rubbish_50 rfl (lv_at hl 0 rfl) ?_
          obtain ⟨x3, hc4, hst1⟩ := bn_some hst1
          refine pcS (As := [.int (z1 0 0), .int q1.2]) (rest := []) ⟨hx, hb, hml, hown, hts⟩ hKK (va_cwS 2 hts gX6_rubbish_X6_hasBit rfl rfl rfl hdX6_hasBit ⟨Nat.le_of_ble_eq_true rfl, Nat.le_of_ble_eq_true rfl⟩) (kX6_hasBit (l := l) (g := g) hc4) rfl hl.1 rfl (Nat.le_of_ble_eq_true rfl) dX6_rubbish_51 ⟨Nat.zero_le _, Nat.zero_le _⟩ ?_
          refine lv_if_ne (tgt := 77) hx hb dX6_rubbish_54 (by decide) (fun c4 => ?_) (fun c4 => ?_)
          · rw [if_neg c4] at hst1
            refine lv_iinc (v := q1.2 + 1) (lv' := [(3, .int (q1.2 + 1)), (2, .int q1.1), (0, .ref a0), (1, .int p0)]) hx hb dX6_rubbish_77 hl (k := 0) rfl rfl (by decide) rfl (fun ls hl => ?_)
            refine lv_goto (tgt := 26) hx hb dX6_rubbish_80 (by decide) ?_
            exact hin1 H locs ls _ (Option.some.inj hst1).symm hP hD hS (lv_sub hl [0, 1, 2, 3] rfl)
          · rw [if_pos c4] at hst1
            refine lv_iload_n hx hb dX6_rubbish_57 rfl (lv_at hl 1 rfl) ?_
            refine lv_iload_n hx hb dX6_rubbish_58 rfl (lv_at hl 3 rfl) ?_
            refine lv_if_ne (tgt := 66) hx hb dX6_rubbish_59 (by decide) (fun c5 => ?_) (fun c5 => ?_)
            · rw [if_neg c5] at hst1
              refine lv_aload_n hx hb dX6_rubbish_66 rfl (lv_at hl 2 rfl) ?_
              refine va_get (D := g.1) (ci := 6) (v := .ref (hd 0 0)) (C := RX6) (T := TX6) (N := 8) hx hb hts (fun w h => List.mem_cons_of_mem _ (List.mem_append_left _ (List.mem_append_left _ (List.mem_append_left _ (List.mem_append_right _ h))))) hown hK hP 0 rfl rfl 0 (by decide) (hts (.fieldLink RX6 10 "PauseRegions" "heap" "LPauseRegions$Heap;") (List.mem_of_getElem? (i := 2) rfl)) (fun _ h9 => h9) rfl dX6_rubbish_67 ?_
              refine va_get (D := g.1) (ci := 1) (v := .ref (hd 0 5)) (C := RX1) (T := TX1) (N := 18) hx hb hts (fun w h => List.mem_cons_of_mem _ (List.mem_append_left _ (List.mem_append_right _ h))) hown hK hP 14 rfl rfl 4 (by decide) (hts (.fieldLink RX6 138 "PauseRegions$Heap" "size" "[I") (List.mem_of_getElem? (i := 4) rfl)) (fun _ h9 => h9) rfl dX6_rubbish_70 ?_
              refine lv_iload_n hx hb dX6_rubbish_73 rfl (lv_at hl 0 rfl) ?_
              obtain ⟨h1, hst1⟩ := ck_some hst1
              refine va_iald (D := g.1) hx hb hK hP 19 0 rfl rfl h1 dX6_rubbish_74 ?_
              refine lv_iadd hx hb dX6_rubbish_75 ?_
              obtain ⟨x4, ex4, hst1⟩ := bd_some hst1
              rw [← ex4]
              refine lv_istore_n (lv' := [(2, .int x4), (3, .int q1.2), (0, .ref a0), (1, .int p0)]) hx hb dX6_rubbish_76 rfl hl (by decide) rfl (fun ls hl => ?_)
              refine lv_iinc (v := q1.2 + 1) (lv' := [(3, .int (q1.2 + 1)), (2, .int x4), (0, .ref a0), (1, .int p0)]) hx hb dX6_rubbish_77 hl (k := 1) rfl rfl (by decide) rfl (fun ls hl => ?_)
              refine lv_goto (tgt := 26) hx hb dX6_rubbish_80 (by decide) ?_
              exact hin1 H locs ls _ (Option.some.inj hst1).symm hP hD hS (lv_sub hl [0, 1, 2, 3] rfl)
            · rw [if_pos c5] at hst1
              refine lv_iconst (v := 1) hx hb dX6_rubbish_62 (by decide) ?_
              refine lv_goto (tgt := 75) hx hb dX6_rubbish_63 (by decide) ?_
              refine lv_iadd hx hb dX6_rubbish_75 ?_
              obtain ⟨x5, ex5, hst1⟩ := bd_some hst1
              rw [← ex5]
              refine lv_istore_n (lv' := [(2, .int x5), (3, .int q1.2), (0, .ref a0), (1, .int p0)]) hx hb dX6_rubbish_76 rfl hl (by decide) rfl (fun ls hl => ?_)
              refine lv_iinc (v := q1.2 + 1) (lv' := [(3, .int (q1.2 + 1)), (2, .int x5), (0, .ref a0), (1, .int p0)]) hx hb dX6_rubbish_77 hl (k := 1) rfl rfl (by decide) rfl (fun ls hl => ?_)
              refine lv_goto (tgt := 26) hx hb dX6_rubbish_80 (by decide) ?_
              exact hin1 H locs ls _ (Option.some.inj hst1).symm hP hD hS (lv_sub hl [0, 1, 2, 3] rfl)
  · rw [if_pos c1] at hsem
    refine lv_iconst (v := (-1)) hx hb dX6_rubbish_9 (by decide) ?_
    have eo := (Option.some.inj hsem).symm.symm
    subst eo
    exact W.iret (v := (-1)) hx hb hr (fun t ht hW => ⟨⟨_, (), rfl, rfl, ⟨by rw [ht]; exact hP, hD⟩⟩, hS.F ht⟩) hS.2.2 dX6_rubbish_10
def sX6_sets (nxi : Int32) (kni : Int32) (HA : Nat → IA) (HFc : Nat → FA) (p0 : Int32) (p1 : Int32) : Option (Int32 × Int32 × Int32 × (Nat → IA) × (Nat → FA)) :=
  (sX6_isRoot p0).bind fun x1 => if x1 = 0 then (some (((-1), nxi, kni, HA, HFc))) else ((sX6_isRootOrNil p1).bind fun x2 => if x2 = 0 then (some (((-1), nxi, kni, HA, HFc))) else ((sX2_push nxi kni HA HFc).bind fun z1 => ck p0 6 (bd (((z1.2.2.1 0) 9) p0.toNatClampNeg) fun x3 => (sX1_ofRoot (z1.2.2.1 0) p1).bind fun x4 => ck p0 6 (bd (upH z1.2.2.1 0 (wr (z1.2.2.1 0) 9 p0.toNatClampNeg x4)) fun HA1 => some (x3, z1.1, z1.2.1, HA1, z1.2.2.2)))))
abbrev rmX6_sets : Room := { frames := 4, cells := 0, slots := 0, locals := 103 }
theorem hdX6_sets : yX6_sets.cls = RX6 ∧ yX6_sets.cls ≠ "java/lang/invoke/MethodHandle" ∧ yX6_sets.cls ≠ "java/lang/invoke/VarHandle" ∧ (parseMethodDescriptor yX6_sets.desc).map (fun d => d.parameters.length) = some 2 := by decide +kernel
set_option maxHeartbeats 8000000 in
set_option maxRecDepth 100000 in
theorem kX6_sets {l : Launch} {g : GG} {sz : Nat} {a0 a1 a2 : Nat} {im : Nat → Option Nat} {kf : Nat → Int32} {a0t : Nat} {rgt : Int32} {yct : Int32} {fct : UInt32} {adp : Nat → Nat} {Ap : IA} {Fp : FA} {adr : Nat → Nat} {Ar : IA} {a0i a1i : Nat} {pf : Nat → Option Nat} {nxi kni : Int32} {hd : Nat → Nat → Nat} {HA : Nat → IA} {HF : Nat → FA} {p0 p1 : Int32} (hpf : ∀ k, k < 6 → pf k = some (hd (2 + k) 0)) {fctc : UInt32} (hfct : alike32 fct fctc = true) {Fpc : FA} (hALp : AL Fp Fpc) {HFc : Nat → FA} (hALH : ALH HF HFc) {b : Int32 × Int32 × Int32 × (Nat → IA) × (Nat → FA)} (hsem : sX6_sets nxi kni HA HFc p0 p1 = some b) : MetDI l yX6_sets wsX6_sets rmX6_sets g [.ref a0, .int p0, .int p1] (wTp g a0 a1 a2 a0t (adp 0) (adr 0) a0i (hd 0 0) (hd 1 0) im kf ++ (wC g a0t rgt yct fct ++ (wPa g adp Ap Fp ++ (wRe g adr Ar ++ (wHi g a0i a1i pf nxi kni ++ (wH g (hd 0) (HA 0) (HF 0) ++ (wH g (hd 1) (HA 1) (HF 1) ++ (wH g (hd 2) (HA 2) (HF 2) ++ (wH g (hd 3) (HA 3) (HF 3) ++ (wH g (hd 4) (HA 4) (HF 4) ++ (wH g (hd 5) (HA 5) (HF 5) ++ (wH g (hd 6) (HA 6) (HF 6) ++ (wH g (hd 7) (HA 7) (HF 7) ++ (wH g (hd 8) (HA 8) (HF 8) ++ (wH g (hd 9) (HA 9) (HF 9) ++ ([])))))))))))))))) sz b.1 (φ := (Nat → FA)) (fun u => ALH u b.2.2.2.2) (fun u => wTp g a0 a1 a2 a0t (adp 0) (adr 0) a0i (hd 0 0) (hd 1 0) im kf ++ (wC g a0t rgt yct fct ++ (wPa g adp Ap Fp ++ (wRe g adr Ar ++ (wHi g a0i a1i pf b.2.1 b.2.2.1 ++ (wH g (hd 0) (b.2.2.2.1 0) (u 0) ++ (wH g (hd 1) (b.2.2.2.1 1) (u 1) ++ (wH g (hd 2) (b.2.2.2.1 2) (u 2) ++ (wH g (hd 3) (b.2.2.2.1 3) (u 3) ++ (wH g (hd 4) (b.2.2.2.1 4) (u 4) ++ (wH g (hd 5) (b.2.2.2.1 5) (u 5) ++ (wH g (hd 6) (b.2.2.2.1 6) (u 6) ++ (wH g (hd 7) (b.2.2.2.1 7) (u 7) ++ (wH g (hd 8) (b.2.2.2.1 8) (u 8) ++ (wH g (hd 9) (b.2.2.2.1 9) (u 9) ++ ([])))))))))))))))) := by
  refine MetD.ofW (cc := cX6_sets) (maxL := 4) (ret := (some .int)) (by decide) rfl ?_
  intro p e s m args below meth c s₁ B hml hv hd0
  obtain ⟨rfl, hsz, hP, hD0, hKK⟩ := hv
  subst hsz
  have hx := B.exec
  have hb := B.bytes
  have hr := B.returns
  have hts := atoms_spec (ws := wsX6_sets) B.pre
  have hown : ∀ d, (s.setDrawn d).vm.findClass RX6 = some m.cls := fun _ => findClass_of_methodNamed B.named
  have hlocks := B.notSynchronized
  have hK : ∀ d, va_K g.1 vwCl (KT g) (s.setDrawn d) := fun d => (hKK.drawn d).1
  have hD := hD0.self (sz := s.heap.size)
  generalize hZe : va_A (wTp g a0 a1 a2 a0t (adp 0) (adr 0) a0i (hd 0 0) (hd 1 0) im kf ++ (wC g a0t rgt yct fct ++ (wPa g adp Ap Fp ++ (wRe g adr Ar ++ (wHi g a0i a1i pf nxi kni ++ (wH g (hd 0) (HA 0) (HF 0) ++ (wH g (hd 1) (HA 1) (HF 1) ++ (wH g (hd 2) (HA 2) (HF 2) ++ (wH g (hd 3) (HA 3) (HF 3) ++ (wH g (hd 4) (HA 4) (HF 4) ++ (wH g (hd 5) (HA 5) (HF 5) ++ (wH g (hd 6) (HA 6) (HF 6) ++ (wH g (hd 7) (HA 7) (HF 7) ++ (wH g (hd 8) (HA 8) (HF 8) ++ (wH g (hd 9) (HA 9) (HF 9) ++ ([])))))))))))))))) s.heap.size = Z at hD ⊢
  have hZ : ∀ q : Nat, s.heap.size ≤ q → Z q := fun q h => by rw [← hZe]; exact Or.inr h
  have hS : va_S Z s.heap s.heap [] := va_S.rf
  have hP : va_P g.1 vwCl (wTp g a0 a1 a2 a0t (adp 0) (adr 0) a0i (hd 0 0) (hd 1 0) im kf ++ (wC g a0t rgt yct fct ++ (wPa g adp Ap Fp ++ (wRe g adr Ar ++ (wHi g a0i a1i pf nxi kni ++ (wH g (hd 0) (HA 0) (HF 0) ++ (wH g (hd 1) (HA 1) (HF 1) ++ (wH g (hd 2) (HA 2) (HF 2) ++ (wH g (hd 3) (HA 3) (HF 3) ++ (wH g (hd 4) (HA 4) (HF 4) ++ (wH g (hd 5) (HA 5) (HF 5) ++ (wH g (hd 6) (HA 6) (HF 6) ++ (wH g (hd 7) (HA 7) (HF 7) ++ (wH g (hd 8) (HA 8) (HF 8) ++ (wH g (hd 9) (HA 9) (HF 9) ++ ([])))))))))))))))) s.heap := hP
  have hD : va_D Z (wTp g a0 a1 a2 a0t (adp 0) (adr 0) a0i (hd 0 0) (hd 1 0) im kf ++ (wC g a0t rgt yct fct ++ (wPa g adp Ap Fp ++ (wRe g adr Ar ++ (wHi g a0i a1i pf nxi kni ++ (wH g (hd 0) (HA 0) (HF 0) ++ (wH g (hd 1) (HA 1) (HF 1) ++ (wH g (hd 2) (HA 2) (HF 2) ++ (wH g (hd 3) (HA 3) (HF 3) ++ (wH g (hd 4) (HA 4) (HF 4) ++ (wH g (hd 5) (HA 5) (HF 5) ++ (wH g (hd 6) (HA 6) (HF 6) ++ (wH g (hd 7) (HA 7) (HF 7) ++ (wH g (hd 8) (HA 8) (HF 8) ++ (wH g (hd 9) (HA 9) (HF 9) ++ ([])))))))))))))))) := hD
  obtain ⟨d, hdr, hdd⟩ : ∃ d, s.drawn.sameBut d lw_cs ∧ s.drawn = d := ⟨_, hd0, rfl⟩
  rw [hdd]
  have hl := lv_entry ([.ref a0, .int p0, .int p1]) (n := 4) (Nat.le_of_ble_eq_true rfl)
  rw [lg_entry_eq]
  generalize (lg_sl ([.ref a0, .int p0, .int p1]) ++ List.replicate (4 - (lg_sl ([.ref a0, .int p0, .int p1])).length) Slot.unset).toArray = ls at hl ⊢
  have hl : lv_has ls 4 [(0, .ref a0), (1, .int p0), (2, .int p1)] := hl
  unfold sX6_sets at hsem
  refine lv_iload_n hx hb dX6_sets_0 rfl (lv_at hl 1 rfl) ?_
  obtain ⟨x1, hc1, hsem⟩ := bn_some hsem
  refine pcS (As := [.int p0]) (rest := []) ⟨hx, hb, hml, (hown d), (dr_words hts d)⟩ (hKK.drawn d) (va_cwS 1 (dr_words hts d) gX6_sets_X6_isRoot rfl rfl rfl hdX6_isRoot ⟨Nat.le_of_ble_eq_true rfl, Nat.le_of_ble_eq_true rfl⟩) (kX6_isRoot (l := l) (g := g) hc1) rfl hl.1 rfl (Nat.le_of_ble_eq_true rfl) dX6_sets_1 ⟨Nat.zero_le _, Nat.zero_le _⟩ ?_
  refine lv_if_eq (tgt := 14) hx hb dX6_sets_4 (by decide) (fun c1 => ?_) (fun c1 => ?_)
  · rw [if_pos c1] at hsem
    refine lv_iconst (v := (-1)) hx hb dX6_sets_14 (by decide) ?_
    have eo := (Option.some.inj hsem).symm.symm
    refine W.endD hdr ?_
    subst eo
    exact W.iret (v := (-1)) hx hb hr (fun t ht hW => ⟨⟨_, HF, rfl, ⟨rfl, hALH⟩, ⟨by rw [ht]; exact hP, hD⟩⟩, hS.F ht⟩) hS.2.2 dX6_sets_15
  · rw [if_neg c1] at hsem
    refine lv_iload_n hx hb dX6_sets_7 rfl (lv_at hl 2 rfl) ?_
    obtain ⟨x2, hc2, hsem⟩ := bn_some hsem
    refine pcS (As := [.int p1]) (rest := []) ⟨hx, hb, hml, (hown d), (dr_words hts d)⟩ (hKK.drawn d) (va_cwS 1 (dr_words hts d) gX6_sets_X6_isRootOrNil rfl rfl rfl hdX6_isRootOrNil ⟨Nat.le_of_ble_eq_true rfl, Nat.le_of_ble_eq_true rfl⟩) (kX6_isRootOrNil (l := l) (g := g) hc2) rfl hl.1 rfl (Nat.le_of_ble_eq_true rfl) dX6_sets_8 ⟨Nat.zero_le _, Nat.zero_le _⟩ ?_
    refine lv_if_ne (tgt := 16) hx hb dX6_sets_11 (by decide) (fun c2 => ?_) (fun c2 => ?_)
    · rw [if_neg c2] at hsem
      refine lv_aload_n hx hb dX6_sets_16 rfl (lv_at hl 0 rfl) ?_
      refine va_get (D := g.1) (ci := 6) (v := .ref a0i) (C := RX6) (T := TX6) (N := 8) hx hb (dr_words hts d) (fun w h => List.mem_cons_of_mem _ (List.mem_append_left _ (List.mem_append_left _ (List.mem_append_left _ (List.mem_append_right _ h))))) (hown d) (hK d) hP 0 rfl rfl 2 (by decide) ((dr_words hts d) (.fieldLink RX6 22 "PauseRegions" "history" "LPauseRegions$History;") (List.mem_of_getElem? (i := 1) rfl)) (fun _ h9 => h9) rfl dX6_sets_17 ?_
      refine lv_aload_n hx hb dX6_sets_20 rfl (lv_at hl 0 rfl) ?_
      refine va_get (D := g.1) (ci := 6) (v := .ref (hd 0 0)) (C := RX6) (T := TX6) (N := 8) hx hb (dr_words hts d) (fun w h => List.mem_cons_of_mem _ (List.mem_append_left _ (List.mem_append_left _ (List.mem_append_left _ (List.mem_append_right _ h))))) (hown d) (hK d) hP 0 rfl rfl 0 (by decide) ((dr_words hts d) (.fieldLink RX6 10 "PauseRegions" "heap" "LPauseRegions$Heap;") (List.mem_of_getElem? (i := 2) rfl)) (fun _ h9 => h9) rfl dX6_sets_21 ?_
      obtain ⟨z1, hc3, hsem⟩ := bn_some hsem
      refine tdV (C := RX2) (As := [.ref (hd 0 0)]) (rest := []) hP hD hS hZ (pF1 (wTp g a0 a1 a2 a0t (adp 0) (adr 0) a0i (hd 0 0) (hd 1 0) im kf ++ (wC g a0t rgt yct fct ++ (wPa g adp Ap Fp ++ (wRe g adr Ar ++ ([]))))) (wHi g a0i a1i pf nxi kni ++ (wH g (hd 0) (HA 0) (HF 0) ++ (wH g (hd 1) (HA 1) (HF 1) ++ (wH g (hd 2) (HA 2) (HF 2) ++ (wH g (hd 3) (HA 3) (HF 3) ++ (wH g (hd 4) (HA 4) (HF 4) ++ (wH g (hd 5) (HA 5) (HF 5) ++ (wH g (hd 6) (HA 6) (HF 6) ++ (wH g (hd 7) (HA 7) (HF 7) ++ (wH g (hd 8) (HA 8) (HF 8) ++ (wH g (hd 9) (HA 9) (HF 9) ++ ([])))))))))))) ([])) hdr ⟨hx, hb, hml, (hown d), (dr_words hts d)⟩ (hKK.drawn d) (cwV 1 (dr_words hts d) gX6_sets_X2_push rfl rfl rfl hdX2_push ⟨Nat.le_of_ble_eq_true rfl, Nat.le_of_ble_eq_true rfl⟩) (kX2_push (l := l) (g := g) (a0i := a0i) (a1i := a1i) (hd := hd) (pf := pf) (nxi := nxi) (kni := kni) (HA := HA) (HF := HF) (HFc := HFc) hpf hALH hc3) (va_recv (hK d) hP (ci := 2) (q0 := 12) rfl rfl) rfl hl.1 rfl (Nat.le_of_ble_eq_true rfl) dX6_sets_24 ⟨Nat.zero_le _, Nat.zero_le _⟩ (fun u1 H locs d hpo hP hD hS hdr => ?_)
      have hq1 := hpo
      have hP : va_P g.1 vwCl (wTp g a0 a1 a2 a0t (adp 0) (adr 0) a0i (hd 0 0) (hd 1 0) im kf ++ (wC g a0t rgt yct fct ++ (wPa g adp Ap Fp ++ (wRe g adr Ar ++ (wHi g a0i a1i pf z1.1 z1.2.1 ++ (wH g (hd 0) (z1.2.2.1 0) (u1 0) ++ (wH g (hd 1) (z1.2.2.1 1) (u1 1) ++ (wH g (hd 2) (z1.2.2.1 2) (u1 2) ++ (wH g (hd 3) (z1.2.2.1 3) (u1 3) ++ (wH g (hd 4) (z1.2.2.1 4) (u1 4) ++ (wH g (hd 5) (z1.2.2.1 5) (u1 5) ++ (wH g (hd 6) (z1.2.2.1 6) (u1 6) ++ (wH g (hd 7) (z1.2.2.1 7) (u1 7) ++ (wH g (hd 8) (z1.2.2.1 8) (u1 8) ++ (wH g (hd 9) (z1.2.2.1 9) (u1 9) ++ ([])))))))))))))))) H := vaP_perm (pF1 (wTp g a0 a1 a2 a0t (adp 0) (adr 0) a0i (hd 0 0) (hd 1 0) im kf ++ (wC g a0t rgt yct fct ++ (wPa g adp Ap Fp ++ (wRe g adr Ar ++ ([]))))) (wHi g a0i a1i pf z1.1 z1.2.1 ++ (wH g (hd 0) (z1.2.2.1 0) (u1 0) ++ (wH g (hd 1) (z1.2.2.1 1) (u1 1) ++ (wH g (hd 2) (z1.2.2.1 2) (u1 2) ++ (wH g (hd 3) (z1.2.2.1 3) (u1 3) ++ (wH g (hd 4) (z1.2.2.1 4) (u1 4) ++ (wH g (hd 5) (z1.2.2.1 5) (u1 5) ++ (wH g (hd 6) (z1.2.2.1 6) (u1 6) ++ (wH g (hd 7) (z1.2.2.1 7) (u1 7) ++ (wH g (hd 8) (z1.2.2.1 8) (u1 8) ++ (wH g (hd 9) (z1.2.2.1 9) (u1 9) ++ ([])))))))))))) ([])).symm (by exact hP)
      have hD : va_D Z (wTp g a0 a1 a2 a0t (adp 0) (adr 0) a0i (hd 0 0) (hd 1 0) im kf ++ (wC g a0t rgt yct fct ++ (wPa g adp Ap Fp ++ (wRe g adr Ar ++ (wHi g a0i a1i pf z1.1 z1.2.1 ++ (wH g (hd 0) (z1.2.2.1 0) (u1 0) ++ (wH g (hd 1) (z1.2.2.1 1) (u1 1) ++ (wH g (hd 2) (z1.2.2.1 2) (u1 2) ++ (wH g (hd 3) (z1.2.2.1 3) (u1 3) ++ (wH g (hd 4) (z1.2.2.1 4) (u1 4) ++ (wH g (hd 5) (z1.2.2.1 5) (u1 5) ++ (wH g (hd 6) (z1.2.2.1 6) (u1 6) ++ (wH g (hd 7) (z1.2.2.1 7) (u1 7) ++ (wH g (hd 8) (z1.2.2.1 8) (u1 8) ++ (wH g (hd 9) (z1.2.2.1 9) (u1 9) ++ ([])))))))))))))))) := vaD_perm (pF1 (wTp g a0 a1 a2 a0t (adp 0) (adr 0) a0i (hd 0 0) (hd 1 0) im kf ++ (wC g a0t rgt yct fct ++ (wPa g adp Ap Fp ++ (wRe g adr Ar ++ ([]))))) (wHi g a0i a1i pf z1.1 z1.2.1 ++ (wH g (hd 0) (z1.2.2.1 0) (u1 0) ++ (wH g (hd 1) (z1.2.2.1 1) (u1 1) ++ (wH g (hd 2) (z1.2.2.1 2) (u1 2) ++ (wH g (hd 3) (z1.2.2.1 3) (u1 3) ++ (wH g (hd 4) (z1.2.2.1 4) (u1 4) ++ (wH g (hd 5) (z1.2.2.1 5) (u1 5) ++ (wH g (hd 6) (z1.2.2.1 6) (u1 6) ++ (wH g (hd 7) (z1.2.2.1 7) (u1 7) ++ (wH g (hd 8) (z1.2.2.1 8) (u1 8) ++ (wH g (hd 9) (z1.2.2.1 9) (u1 9) ++ ([])))))))))))) ([])).symm (by exact hD)
      refine lv_aload_n hx hb dX6_sets_27 rfl (lv_at hl 0 rfl) ?_
      refine va_get (D := g.1) (ci := 6) (v := .ref (hd 0 0)) (C := RX6) (T := TX6) (N := 8) hx hb (dr_words hts d) (fun w h => List.mem_cons_of_mem _ (List.mem_append_left _ (List.mem_append_left _ (List.mem_append_left _ (List.mem_append_right _ h))))) (hown d) (hK d) hP 0 rfl rfl 0 (by decide) ((dr_words hts d) (.fieldLink RX6 10 "PauseRegions" "heap" "LPauseRegions$Heap;") (List.mem_of_getElem? (i := 2) rfl)) (fun _ h9 => h9) rfl dX6_sets_28 ?_
      refine va_get (D := g.1) (ci := 1) (v := .ref (hd 0 10)) (C := RX1) (T := TX1) (N := 18) hx hb (dr_words hts d) (fun w h => List.mem_cons_of_mem _ (List.mem_append_left _ (List.mem_append_left _ (List.mem_append_right _ h)))) (hown d) (hK d) hP 14 rfl rfl 9 (by decide) ((dr_words hts d) (.fieldLink RX6 79 "PauseRegions$Heap" "roots" "[I") (List.mem_of_getElem? (i := 3) rfl)) (fun _ h9 => h9) rfl dX6_sets_31 ?_
      refine lv_iload_n hx hb dX6_sets_34 rfl (lv_at hl 1 rfl) ?_
      obtain ⟨h1, hsem⟩ := ck_some hsem
      refine va_iald (D := g.1) hx hb (hK d) hP 24 0 rfl rfl h1 dX6_sets_35 ?_
      obtain ⟨x3, ex3, hsem⟩ := bd_some hsem
      rw [← ex3]
      refine lv_istore_n (lv' := [(3, .int x3), (0, .ref a0), (1, .int p0), (2, .int p1)]) hx hb dX6_sets_36 rfl hl (by decide) rfl (fun ls hl => ?_)
      refine lv_aload_n hx hb dX6_sets_37 rfl (lv_at hl 1 rfl) ?_
      refine va_get (D := g.1) (ci := 6) (v := .ref (hd 0 0)) (C := RX6) (T := TX6) (N := 8) hx hb (dr_words hts d) (fun w h => List.mem_cons_of_mem _ (List.mem_append_left _ (List.mem_append_left _ (List.mem_append_left _ (List.mem_append_right _ h))))) (hown d) (hK d) hP 0 rfl rfl 0 (by decide) ((dr_words hts d) (.fieldLink RX6 10 "PauseRegions" "heap" "LPauseRegions$Heap;") (List.mem_of_getElem? (i := 2) rfl)) (fun _ h9 => h9) rfl dX6_sets_38 ?_
      refine va_get (D := g.1) (ci := 1) (v := .ref (hd 0 10)) (C := RX1) (T := TX1) (N := 18) hx hb (dr_words hts d) (fun w h => List.mem_cons_of_mem _ (List.mem_append_left _ (List.mem_append_left _ (List.mem_append_right _ h)))) (hown d) (hK d) hP 14 rfl rfl 9 (by decide) ((dr_words hts d) (.fieldLink RX6 79 "PauseRegions$Heap" "roots" "[I") (List.mem_of_getElem? (i := 3) rfl)) (fun _ h9 => h9) rfl dX6_sets_41 ?_
      refine lv_iload_n hx hb dX6_sets_44 rfl (lv_at hl 2 rfl) ?_
      refine lv_aload_n hx hb dX6_sets_45 rfl (lv_at hl 1 rfl) ?_
      refine va_get (D := g.1) (ci := 6) (v := .ref (hd 0 0)) (C := RX6) (T := TX6) (N := 8) hx hb (dr_words hts d) (fun w h => List.mem_cons_of_mem _ (List.mem_append_left _ (List.mem_append_left _ (List.mem_append_left _ (List.mem_append_right _ h))))) (hown d) (hK d) hP 0 rfl rfl 0 (by decide) ((dr_words hts d) (.fieldLink RX6 10 "PauseRegions" "heap" "LPauseRegions$Heap;") (List.mem_of_getElem? (i := 2) rfl)) (fun _ h9 => h9) rfl dX6_sets_46 ?_
      refine lv_iload_n hx hb dX6_sets_49 rfl (lv_at hl 3 rfl) ?_
      obtain ⟨x4, hc4, hsem⟩ := bn_some hsem
      refine pcV (C := RX1) (As := [.int p1]) (rest := [.int p0, .ref (hd 0 10)]) ⟨hx, hb, hml, (hown d), (dr_words hts d)⟩ (hKK.drawn d) (cwV 1 (dr_words hts d) gX6_sets_X1_ofRoot rfl rfl rfl hdX1_ofRoot ⟨Nat.le_of_ble_eq_true rfl, Nat.le_of_ble_eq_true rfl⟩) (kX1_ofRoot (l := l) (g := g) (hP.sub (ws' := wH g (hd 0) (z1.2.2.1 0) (u1 0)) [14, 15, 16, 17, 18, 19, 20, 21, 22, 23, 24, 25, 26, 27, 28] rfl) hc4) (va_recv (hK d) hP (ci := 1) (q0 := 14) rfl rfl) rfl hl.1 rfl (Nat.le_of_ble_eq_true rfl) dX6_sets_50 ⟨Nat.zero_le _, Nat.zero_le _⟩ ?_
      obtain ⟨h2, hsem⟩ := ck_some hsem
      refine va_iast (D := g.1) hx hb (hK d) hP hD hS 24 0 rfl rfl h2 dX6_sets_53 (fun H locs hP hD hS => ?_)
      obtain ⟨HA1, eHA1, hsem⟩ := bd_some hsem
      have hP : va_P g.1 vwCl (wTp g a0 a1 a2 a0t (adp 0) (adr 0) a0i (hd 0 0) (hd 1 0) im kf ++ (wC g a0t rgt yct fct ++ (wPa g adp Ap Fp ++ (wRe g adr Ar ++ (wHi g a0i a1i pf z1.1 z1.2.1 ++ (wH g (hd 0) (HA1 0) (u1 0) ++ (wH g (hd 1) (HA1 1) (u1 1) ++ (wH g (hd 2) (HA1 2) (u1 2) ++ (wH g (hd 3) (HA1 3) (u1 3) ++ (wH g (hd 4) (HA1 4) (u1 4) ++ (wH g (hd 5) (HA1 5) (u1 5) ++ (wH g (hd 6) (HA1 6) (u1 6) ++ (wH g (hd 7) (HA1 7) (u1 7) ++ (wH g (hd 8) (HA1 8) (u1 8) ++ (wH g (hd 9) (HA1 9) (u1 9) ++ ([])))))))))))))))) H := by rw [eHA1]; exact hP
      have hD : va_D Z (wTp g a0 a1 a2 a0t (adp 0) (adr 0) a0i (hd 0 0) (hd 1 0) im kf ++ (wC g a0t rgt yct fct ++ (wPa g adp Ap Fp ++ (wRe g adr Ar ++ (wHi g a0i a1i pf z1.1 z1.2.1 ++ (wH g (hd 0) (HA1 0) (u1 0) ++ (wH g (hd 1) (HA1 1) (u1 1) ++ (wH g (hd 2) (HA1 2) (u1 2) ++ (wH g (hd 3) (HA1 3) (u1 3) ++ (wH g (hd 4) (HA1 4) (u1 4) ++ (wH g (hd 5) (HA1 5) (u1 5) ++ (wH g (hd 6) (HA1 6) (u1 6) ++ (wH g (hd 7) (HA1 7) (u1 7) ++ (wH g (hd 8) (HA1 8) (u1 8) ++ (wH g (hd 9) (HA1 9) (u1 9) ++ ([])))))))))))))))) := by rw [eHA1]; exact hD
      refine lv_iload_n hx hb dX6_sets_54 rfl (lv_at hl 0 rfl) ?_
      have eo := (Option.some.inj hsem).symm.symm
      refine W.endD hdr ?_
      subst eo
      exact W.iret (v := x3) hx hb hr (fun t ht hW => ⟨⟨_, u1, rfl, ⟨rfl, hq1⟩, ⟨by rw [ht]; exact hP, hD⟩⟩, hS.F ht⟩) hS.2.2 dX6_sets_55
    · rw [if_pos c2] at hsem
      refine lv_iconst (v := (-1)) hx hb dX6_sets_14 (by decide) ?_
      have eo := (Option.some.inj hsem).symm.symm
      refine W.endD hdr ?_
      subst eo
      exact W.iret (v := (-1)) hx hb hr (fun t ht hW => ⟨⟨_, HF, rfl, ⟨rfl, hALH⟩, ⟨by rw [ht]; exact hP, hD⟩⟩, hS.F ht⟩) hS.2.2 dX6_sets_15
def sX6_steps_L38 (p0 : Int32) (q1 : Int32 × (Nat → IA)) : Option ((Int32 × (Nat → IA)) ⊕ ((Nat → IA))) :=
  if p0 ≤ q1.1 then (some (.inr q1.2)) else (if (((q1.2 0) 12 0)) = 0 then (some (.inr q1.2)) else ((sX1_markOldest (q1.2 0)).bind fun z2 => bd (upH q1.2 0 (z2)) fun HA1 => some (.inl (q1.1 + 1, HA1))))
def sX6_steps (nxi : Int32) (kni : Int32) (HA : Nat → IA) (HFc : Nat → FA) (p0 : Int32) : Option (Int32 × Int32 × Int32 × (Nat → IA) × (Nat → FA)) :=
  (sX6_within p0 1 32).bind fun x1 => if x1 = 0 then (some (((-1), nxi, kni, HA, HFc))) else (if (((HA 0) 12 0)) = 0 then (some (((-2), nxi, kni, HA, HFc))) else ((sX2_push nxi kni HA HFc).bind fun z1 => (loopN (sX6_steps_L38 p0) 2000 (0, z1.2.2.1)).bind fun q2 => some ((((q2 0) 19 0), z1.1, z1.2.1, q2, z1.2.2.2))))
abbrev rmX6_steps : Room := { frames := 5, cells := 0, slots := 0, locals := 110 }
theorem hdX6_steps : yX6_steps.cls = RX6 ∧ yX6_steps.cls ≠ "java/lang/invoke/MethodHandle" ∧ yX6_steps.cls ≠ "java/lang/invoke/VarHandle" ∧ (parseMethodDescriptor yX6_steps.desc).map (fun d => d.parameters.length) = some 1 := by decide +kernel
set_option maxHeartbeats 8000000 in
set_option maxRecDepth 100000 in
theorem kX6_steps {l : Launch} {g : GG} {sz : Nat} {a0 a1 a2 : Nat} {im : Nat → Option Nat} {kf : Nat → Int32} {a0t : Nat} {rgt : Int32} {yct : Int32} {fct : UInt32} {adp : Nat → Nat} {Ap : IA} {Fp : FA} {adr : Nat → Nat} {Ar : IA} {a0i a1i : Nat} {pf : Nat → Option Nat} {nxi kni : Int32} {hd : Nat → Nat → Nat} {HA : Nat → IA} {HF : Nat → FA} {p0 : Int32} (hpf : ∀ k, k < 6 → pf k = some (hd (2 + k) 0)) {fctc : UInt32} (hfct : alike32 fct fctc = true) {Fpc : FA} (hALp : AL Fp Fpc) {HFc : Nat → FA} (hALH : ALH HF HFc) {b : Int32 × Int32 × Int32 × (Nat → IA) × (Nat → FA)} (hsem : sX6_steps nxi kni HA HFc p0 = some b) : MetDI l yX6_steps wsX6_steps rmX6_steps g [.ref a0, .int p0] (wTp g a0 a1 a2 a0t (adp 0) (adr 0) a0i (hd 0 0) (hd 1 0) im kf ++ (wC g a0t rgt yct fct ++ (wPa g adp Ap Fp ++ (wRe g adr Ar ++ (wHi g a0i a1i pf nxi kni ++ (wH g (hd 0) (HA 0) (HF 0) ++ (wH g (hd 1) (HA 1) (HF 1) ++ (wH g (hd 2) (HA 2) (HF 2) ++ (wH g (hd 3) (HA 3) (HF 3) ++ (wH g (hd 4) (HA 4) (HF 4) ++ (wH g (hd 5) (HA 5) (HF 5) ++ (wH g (hd 6) (HA 6) (HF 6) ++ (wH g (hd 7) (HA 7) (HF 7) ++ (wH g (hd 8) (HA 8) (HF 8) ++ (wH g (hd 9) (HA 9) (HF 9) ++ ([])))))))))))))))) sz b.1 (φ := (Nat → FA)) (fun u => ALH u b.2.2.2.2) (fun u => wTp g a0 a1 a2 a0t (adp 0) (adr 0) a0i (hd 0 0) (hd 1 0) im kf ++ (wC g a0t rgt yct fct ++ (wPa g adp Ap Fp ++ (wRe g adr Ar ++ (wHi g a0i a1i pf b.2.1 b.2.2.1 ++ (wH g (hd 0) (b.2.2.2.1 0) (u 0) ++ (wH g (hd 1) (b.2.2.2.1 1) (u 1) ++ (wH g (hd 2) (b.2.2.2.1 2) (u 2) ++ (wH g (hd 3) (b.2.2.2.1 3) (u 3) ++ (wH g (hd 4) (b.2.2.2.1 4) (u 4) ++ (wH g (hd 5) (b.2.2.2.1 5) (u 5) ++ (wH g (hd 6) (b.2.2.2.1 6) (u 6) ++ (wH g (hd 7) (b.2.2.2.1 7) (u 7) ++ (wH g (hd 8) (b.2.2.2.1 8) (u 8) ++ (wH g (hd 9) (b.2.2.2.1 9) (u 9) ++ ([])))))))))))))))) := by
  refine MetD.ofW (cc := cX6_steps) (maxL := 3) (ret := (some .int)) (by decide) rfl ?_
  intro p e s m args below meth c s₁ B hml hv hd0
  obtain ⟨rfl, hsz, hP, hD0, hKK⟩ := hv
  subst hsz
  have hx := B.exec
  have hb := B.bytes
  have hr := B.returns
  have hts := atoms_spec (ws := wsX6_steps) B.pre
  have hown : ∀ d, (s.setDrawn d).vm.findClass RX6 = some m.cls := fun _ => findClass_of_methodNamed B.named
  have hlocks := B.notSynchronized
  have hK : ∀ d, va_K g.1 vwCl (KT g) (s.setDrawn d) := fun d => (hKK.drawn d).1
  have hD := hD0.self (sz := s.heap.size)
  generalize hZe : va_A (wTp g a0 a1 a2 a0t (adp 0) (adr 0) a0i (hd 0 0) (hd 1 0) im kf ++ (wC g a0t rgt yct fct ++ (wPa g adp Ap Fp ++ (wRe g adr Ar ++ (wHi g a0i a1i pf nxi kni ++ (wH g (hd 0) (HA 0) (HF 0) ++ (wH g (hd 1) (HA 1) (HF 1) ++ (wH g (hd 2) (HA 2) (HF 2) ++ (wH g (hd 3) (HA 3) (HF 3) ++ (wH g (hd 4) (HA 4) (HF 4) ++ (wH g (hd 5) (HA 5) (HF 5) ++ (wH g (hd 6) (HA 6) (HF 6) ++ (wH g (hd 7) (HA 7) (HF 7) ++ (wH g (hd 8) (HA 8) (HF 8) ++ (wH g (hd 9) (HA 9) (HF 9) ++ ([])))))))))))))))) s.heap.size = Z at hD ⊢
  have hZ : ∀ q : Nat, s.heap.size ≤ q → Z q := fun q h => by rw [← hZe]; exact Or.inr h
  have hS : va_S Z s.heap s.heap [] := va_S.rf
  have hP : va_P g.1 vwCl (wTp g a0 a1 a2 a0t (adp 0) (adr 0) a0i (hd 0 0) (hd 1 0) im kf ++ (wC g a0t rgt yct fct ++ (wPa g adp Ap Fp ++ (wRe g adr Ar ++ (wHi g a0i a1i pf nxi kni ++ (wH g (hd 0) (HA 0) (HF 0) ++ (wH g (hd 1) (HA 1) (HF 1) ++ (wH g (hd 2) (HA 2) (HF 2) ++ (wH g (hd 3) (HA 3) (HF 3) ++ (wH g (hd 4) (HA 4) (HF 4) ++ (wH g (hd 5) (HA 5) (HF 5) ++ (wH g (hd 6) (HA 6) (HF 6) ++ (wH g (hd 7) (HA 7) (HF 7) ++ (wH g (hd 8) (HA 8) (HF 8) ++ (wH g (hd 9) (HA 9) (HF 9) ++ ([])))))))))))))))) s.heap := hP
  have hD : va_D Z (wTp g a0 a1 a2 a0t (adp 0) (adr 0) a0i (hd 0 0) (hd 1 0) im kf ++ (wC g a0t rgt yct fct ++ (wPa g adp Ap Fp ++ (wRe g adr Ar ++ (wHi g a0i a1i pf nxi kni ++ (wH g (hd 0) (HA 0) (HF 0) ++ (wH g (hd 1) (HA 1) (HF 1) ++ (wH g (hd 2) (HA 2) (HF 2) ++ (wH g (hd 3) (HA 3) (HF 3) ++ (wH g (hd 4) (HA 4) (HF 4) ++ (wH g (hd 5) (HA 5) (HF 5) ++ (wH g (hd 6) (HA 6) (HF 6) ++ (wH g (hd 7) (HA 7) (HF 7) ++ (wH g (hd 8) (HA 8) (HF 8) ++ (wH g (hd 9) (HA 9) (HF 9) ++ ([])))))))))))))))) := hD
  obtain ⟨d, hdr, hdd⟩ : ∃ d, s.drawn.sameBut d lw_cs ∧ s.drawn = d := ⟨_, hd0, rfl⟩
  rw [hdd]
  have hl := lv_entry ([.ref a0, .int p0]) (n := 3) (Nat.le_of_ble_eq_true rfl)
  rw [lg_entry_eq]
  generalize (lg_sl ([.ref a0, .int p0]) ++ List.replicate (3 - (lg_sl ([.ref a0, .int p0])).length) Slot.unset).toArray = ls at hl ⊢
  have hl : lv_has ls 3 [(0, .ref a0), (1, .int p0)] := hl
  unfold sX6_steps at hsem
  refine lv_iload_n hx hb dX6_steps_0 rfl (lv_at hl 1 rfl) ?_
  refine lv_iconst (v := 1) hx hb dX6_steps_1 (by decide) ?_
  refine lv_bipush (v := 32) hx hb dX6_steps_2 (by decide) ?_
  obtain ⟨x1, hc1, hsem⟩ := bn_some hsem
  refine pcS (As := [.int p0, .int 1, .int 32]) (rest := []) ⟨hx, hb, hml, (hown d), (dr_words hts d)⟩ (hKK.drawn d) (va_cwS 3 (dr_words hts d) gX6_steps_X6_within rfl rfl rfl hdX6_within ⟨Nat.le_of_ble_eq_true rfl, Nat.le_of_ble_eq_true rfl⟩) (kX6_within (l := l) (g := g) hc1) rfl hl.1 rfl (Nat.le_of_ble_eq_true rfl) dX6_steps_4 ⟨Nat.zero_le _, Nat.zero_le _⟩ ?_
  refine lv_if_ne (tgt := 12) hx hb dX6_steps_7 (by decide) (fun c1 => ?_) (fun c1 => ?_)
  · rw [if_neg c1] at hsem
    refine lv_aload_n hx hb dX6_steps_12 rfl (lv_at hl 0 rfl) ?_
    refine va_get (D := g.1) (ci := 6) (v := .ref (hd 0 0)) (C := RX6) (T := TX6) (N := 8) hx hb (dr_words hts d) (fun w h => List.mem_cons_of_mem _ (List.mem_append_left _ (List.mem_append_left _ (List.mem_append_left _ (List.mem_append_right _ h))))) (hown d) (hK d) hP 0 rfl rfl 0 (by decide) ((dr_words hts d) (.fieldLink RX6 10 "PauseRegions" "heap" "LPauseRegions$Heap;") (List.mem_of_getElem? (i := 1) rfl)) (fun _ h9 => h9) rfl dX6_steps_13 ?_
    refine va_get (D := g.1) (ci := 1) (v := .int (((HA 0) 12 0))) (C := RX1) (T := TX1) (N := 18) hx hb (dr_words hts d) (fun w h => List.mem_cons_of_mem _ (List.mem_append_left _ (List.mem_append_left _ (List.mem_append_right _ h)))) (hown d) (hK d) hP 14 rfl rfl 12 (by decide) ((dr_words hts d) (.fieldLink RX6 109 "PauseRegions$Heap" "marking" "Z") (List.mem_of_getElem? (i := 2) rfl)) (fun _ h9 => h9) rfl dX6_steps_16 ?_
    refine lv_if_ne (tgt := 25) hx hb dX6_steps_19 (by decide) (fun c2 => ?_) (fun c2 => ?_)
    · rw [if_neg c2] at hsem
      refine lv_aload_n hx hb dX6_steps_25 rfl (lv_at hl 0 rfl) ?_
      refine va_get (D := g.1) (ci := 6) (v := .ref a0i) (C := RX6) (T := TX6) (N := 8) hx hb (dr_words hts d) (fun w h => List.mem_cons_of_mem _ (List.mem_append_left _ (List.mem_append_left _ (List.mem_append_left _ (List.mem_append_right _ h))))) (hown d) (hK d) hP 0 rfl rfl 2 (by decide) ((dr_words hts d) (.fieldLink RX6 22 "PauseRegions" "history" "LPauseRegions$History;") (List.mem_of_getElem? (i := 3) rfl)) (fun _ h9 => h9) rfl dX6_steps_26 ?_
      refine lv_aload_n hx hb dX6_steps_29 rfl (lv_at hl 0 rfl) ?_
      refine va_get (D := g.1) (ci := 6) (v := .ref (hd 0 0)) (C := RX6) (T := TX6) (N := 8) hx hb (dr_words hts d) (fun w h => List.mem_cons_of_mem _ (List.mem_append_left _ (List.mem_append_left _ (List.mem_append_left _ (List.mem_append_right _ h))))) (hown d) (hK d) hP 0 rfl rfl 0 (by decide) ((dr_words hts d) (.fieldLink RX6 10 "PauseRegions" "heap" "LPauseRegions$Heap;") (List.mem_of_getElem? (i := 1) rfl)) (fun _ h9 => h9) rfl dX6_steps_30 ?_
      obtain ⟨z1, hc2, hsem⟩ := bn_some hsem
      refine tdV (C := RX2) (As := [.ref (hd 0 0)]) (rest := []) hP hD hS hZ (pF1 (wTp g a0 a1 a2 a0t (adp 0) (adr 0) a0i (hd 0 0) (hd 1 0) im kf ++ (wC g a0t rgt yct fct ++ (wPa g adp Ap Fp ++ (wRe g adr Ar ++ ([]))))) (wHi g a0i a1i pf nxi kni ++ (wH g (hd 0) (HA 0) (HF 0) ++ (wH g (hd 1) (HA 1) (HF 1) ++ (wH g (hd 2) (HA 2) (HF 2) ++ (wH g (hd 3) (HA 3) (HF 3) ++ (wH g (hd 4) (HA 4) (HF 4) ++ (wH g (hd 5) (HA 5) (HF 5) ++ (wH g (hd 6) (HA 6) (HF 6) ++ (wH g (hd 7) (HA 7) (HF 7) ++ (wH g (hd 8) (HA 8) (HF 8) ++ (wH g (hd 9) (HA 9) (HF 9) ++ ([])))))))))))) ([])) hdr ⟨hx, hb, hml, (hown d), (dr_words hts d)⟩ (hKK.drawn d) (cwV 1 (dr_words hts d) gX6_steps_X2_push rfl rfl rfl hdX2_push ⟨Nat.le_of_ble_eq_true rfl, Nat.le_of_ble_eq_true rfl⟩) (kX2_push (l := l) (g := g) (a0i := a0i) (a1i := a1i) (hd := hd) (pf := pf) (nxi := nxi) (kni := kni) (HA := HA) (HF := HF) (HFc := HFc) hpf hALH hc2) (va_recv (hK d) hP (ci := 2) (q0 := 12) rfl rfl) rfl hl.1 rfl (Nat.le_of_ble_eq_true rfl) dX6_steps_33 ⟨Nat.zero_le _, Nat.zero_le _⟩ (fun u1 H locs d hpo hP hD hS hdr => ?_)
      have hq1 := hpo
      have hP : va_P g.1 vwCl (wTp g a0 a1 a2 a0t (adp 0) (adr 0) a0i (hd 0 0) (hd 1 0) im kf ++ (wC g a0t rgt yct fct ++ (wPa g adp Ap Fp ++ (wRe g adr Ar ++ (wHi g a0i a1i pf z1.1 z1.2.1 ++ (wH g (hd 0) (z1.2.2.1 0) (u1 0) ++ (wH g (hd 1) (z1.2.2.1 1) (u1 1) ++ (wH g (hd 2) (z1.2.2.1 2) (u1 2) ++ (wH g (hd 3) (z1.2.2.1 3) (u1 3) ++ (wH g (hd 4) (z1.2.2.1 4) (u1 4) ++ (wH g (hd 5) (z1.2.2.1 5) (u1 5) ++ (wH g (hd 6) (z1.2.2.1 6) (u1 6) ++ (wH g (hd 7) (z1.2.2.1 7) (u1 7) ++ (wH g (hd 8) (z1.2.2.1 8) (u1 8) ++ (wH g (hd 9) (z1.2.2.1 9) (u1 9) ++ ([])))))))))))))))) H := vaP_perm (pF1 (wTp g a0 a1 a2 a0t (adp 0) (adr 0) a0i (hd 0 0) (hd 1 0) im kf ++ (wC g a0t rgt yct fct ++ (wPa g adp Ap Fp ++ (wRe g adr Ar ++ ([]))))) (wHi g a0i a1i pf z1.1 z1.2.1 ++ (wH g (hd 0) (z1.2.2.1 0) (u1 0) ++ (wH g (hd 1) (z1.2.2.1 1) (u1 1) ++ (wH g (hd 2) (z1.2.2.1 2) (u1 2) ++ (wH g (hd 3) (z1.2.2.1 3) (u1 3) ++ (wH g (hd 4) (z1.2.2.1 4) (u1 4) ++ (wH g (hd 5) (z1.2.2.1 5) (u1 5) ++ (wH g (hd 6) (z1.2.2.1 6) (u1 6) ++ (wH g (hd 7) (z1.2.2.1 7) (u1 7) ++ (wH g (hd 8) (z1.2.2.1 8) (u1 8) ++ (wH g (hd 9) (z1.2.2.1 9) (u1 9) ++ ([])))))))))))) ([])).symm (by exact hP)
      have hD : va_D Z (wTp g a0 a1 a2 a0t (adp 0) (adr 0) a0i (hd 0 0) (hd 1 0) im kf ++ (wC g a0t rgt yct fct ++ (wPa g adp Ap Fp ++ (wRe g adr Ar ++ (wHi g a0i a1i pf z1.1 z1.2.1 ++ (wH g (hd 0) (z1.2.2.1 0) (u1 0) ++ (wH g (hd 1) (z1.2.2.1 1) (u1 1) ++ (wH g (hd 2) (z1.2.2.1 2) (u1 2) ++ (wH g (hd 3) (z1.2.2.1 3) (u1 3) ++ (wH g (hd 4) (z1.2.2.1 4) (u1 4) ++ (wH g (hd 5) (z1.2.2.1 5) (u1 5) ++ (wH g (hd 6) (z1.2.2.1 6) (u1 6) ++ (wH g (hd 7) (z1.2.2.1 7) (u1 7) ++ (wH g (hd 8) (z1.2.2.1 8) (u1 8) ++ (wH g (hd 9) (z1.2.2.1 9) (u1 9) ++ ([])))))))))))))))) := vaD_perm (pF1 (wTp g a0 a1 a2 a0t (adp 0) (adr 0) a0i (hd 0 0) (hd 1 0) im kf ++ (wC g a0t rgt yct fct ++ (wPa g adp Ap Fp ++ (wRe g adr Ar ++ ([]))))) (wHi g a0i a1i pf z1.1 z1.2.1 ++ (wH g (hd 0) (z1.2.2.1 0) (u1 0) ++ (wH g (hd 1) (z1.2.2.1 1) (u1 1) ++ (wH g (hd 2) (z1.2.2.1 2) (u1 2) ++ (wH g (hd 3) (z1.2.2.1 3) (u1 3) ++ (wH g (hd 4) (z1.2.2.1 4) (u1 4) ++ (wH g (hd 5) (z1.2.2.1 5) (u1 5) ++ (wH g (hd 6) (z1.2.2.1 6) (u1 6) ++ (wH g (hd 7) (z1.2.2.1 7) (u1 7) ++ (wH g (hd 8) (z1.2.2.1 8) (u1 8) ++ (wH g (hd 9) (z1.2.2.1 9) (u1 9) ++ ([])))))))))))) ([])).symm (by exact hD)
      refine lv_iconst (v := 0) hx hb dX6_steps_36 (by decide) ?_
      refine lv_istore_n (lv' := [(2, .int 0), (0, .ref a0), (1, .int p0)]) hx hb dX6_steps_37 rfl hl (by decide) rfl (fun ls hl => ?_)
      obtain ⟨q2, hc4, hsem⟩ := bn_some hsem
      refine loopMD (g := g) hdr hc4 (fun (q1 : Int32 × (Nat → IA)) => [(2, .int q1.1), (0, .ref a0), (1, .int p0)]) (fun (q1 : (Nat → IA)) => [(0, .ref a0)]) (exit := 66) (fun (q1 : Int32 × (Nat → IA)) (fz1 : Unit) => wTp g a0 a1 a2 a0t (adp 0) (adr 0) a0i (hd 0 0) (hd 1 0) im kf ++ (wC g a0t rgt yct fct ++ (wPa g adp Ap Fp ++ (wRe g adr Ar ++ (wHi g a0i a1i pf z1.1 z1.2.1 ++ (wH g (hd 0) (q1.2 0) (u1 0) ++ (wH g (hd 1) (q1.2 1) (u1 1) ++ (wH g (hd 2) (q1.2 2) (u1 2) ++ (wH g (hd 3) (q1.2 3) (u1 3) ++ (wH g (hd 4) (q1.2 4) (u1 4) ++ (wH g (hd 5) (q1.2 5) (u1 5) ++ (wH g (hd 6) (q1.2 6) (u1 6) ++ (wH g (hd 7) (q1.2 7) (u1 7) ++ (wH g (hd 8) (q1.2 8) (u1 8) ++ (wH g (hd 9) (q1.2 9) (u1 9) ++ ([])))))))))))))))) (fun (q1 : (Nat → IA)) (fz1 : Unit) => wTp g a0 a1 a2 a0t (adp 0) (adr 0) a0i (hd 0 0) (hd 1 0) im kf ++ (wC g a0t rgt yct fct ++ (wPa g adp Ap Fp ++ (wRe g adr Ar ++ (wHi g a0i a1i pf z1.1 z1.2.1 ++ (wH g (hd 0) (q1 0) (u1 0) ++ (wH g (hd 1) (q1 1) (u1 1) ++ (wH g (hd 2) (q1 2) (u1 2) ++ (wH g (hd 3) (q1 3) (u1 3) ++ (wH g (hd 4) (q1 4) (u1 4) ++ (wH g (hd 5) (q1 5) (u1 5) ++ (wH g (hd 6) (q1 6) (u1 6) ++ (wH g (hd 7) (q1 7) (u1 7) ++ (wH g (hd 8) (q1 8) (u1 8) ++ (wH g (hd 9) (q1 9) (u1 9) ++ ([])))))))))))))))) (fun (_ : Int32 × (Nat → IA)) (_ : Unit) => True) (fun (_ : (Nat → IA)) (_ : Unit) => True) () trivial hP hD hS (lv_sub hl [0, 1, 2] rfl) (fun d H locs ls fz1 hdr hrfz1 hP hD hS hl => ?_) (fun q1 r hst1 hin1 hout1 d H locs ls fz1 hdr hrfz1 hP hD hS hl => ?_)
      · have hP : va_P g.1 vwCl (wTp g a0 a1 a2 a0t (adp 0) (adr 0) a0i (hd 0 0) (hd 1 0) im kf ++ (wC g a0t rgt yct fct ++ (wPa g adp Ap Fp ++ (wRe g adr Ar ++ (wHi g a0i a1i pf z1.1 z1.2.1 ++ (wH g (hd 0) (q2 0) (u1 0) ++ (wH g (hd 1) (q2 1) (u1 1) ++ (wH g (hd 2) (q2 2) (u1 2) ++ (wH g (hd 3) (q2 3) (u1 3) ++ (wH g (hd 4) (q2 4) (u1 4) ++ (wH g (hd 5) (q2 5) (u1 5) ++ (wH g (hd 6) (q2 6) (u1 6) ++ (wH g (hd 7) (q2 7) (u1 7) ++ (wH g (hd 8) (q2 8) (u1 8) ++ (wH g (hd 9) (q2 9) (u1 9) ++ ([])))))))))))))))) H := hP
        have hD : va_D Z (wTp g a0 a1 a2 a0t (adp 0) (adr 0) a0i (hd 0 0) (hd 1 0) im kf ++ (wC g a0t rgt yct fct ++ (wPa g adp Ap Fp ++ (wRe g adr Ar ++ (wHi g a0i a1i pf z1.1 z1.2.1 ++ (wH g (hd 0) (q2 0) (u1 0) ++ (wH g (hd 1) (q2 1) (u1 1) ++ (wH g (hd 2) (q2 2) (u1 2) ++ (wH g (hd 3) (q2 3) (u1 3) ++ (wH g (hd 4) (q2 4) (u1 4) ++ (wH g (hd 5) (q2 5) (u1 5) ++ (wH g (hd 6) (q2 6) (u1 6) ++ (wH g (hd 7) (q2 7) (u1 7) ++ (wH g (hd 8) (q2 8) (u1 8) ++ (wH g (hd 9) (q2 9) (u1 9) ++ ([])))))))))))))))) := hD
        refine lv_aload_n hx hb dX6_steps_66 rfl (lv_at hl 0 rfl) ?_
        refine va_get (D := g.1) (ci := 6) (v := .ref (hd 0 0)) (C := RX6) (T := TX6) (N := 8) hx hb (dr_words hts d) (fun w h => List.mem_cons_of_mem _ (List.mem_append_left _ (List.mem_append_left _ (List.mem_append_left _ (List.mem_append_right _ h))))) (hown d) (hK d) hP 0 rfl rfl 0 (by decide) ((dr_words hts d) (.fieldLink RX6 10 "PauseRegions" "heap" "LPauseRegions$Heap;") (List.mem_of_getElem? (i := 1) rfl)) (fun _ h9 => h9) rfl dX6_steps_67 ?_
        refine va_get (D := g.1) (ci := 1) (v := .ref (hd 0 13)) (C := RX1) (T := TX1) (N := 18) hx hb (dr_words hts d) (fun w h => List.mem_cons_of_mem _ (List.mem_append_left _ (List.mem_append_left _ (List.mem_append_right _ h)))) (hown d) (hK d) hP 14 rfl rfl 11 (by decide) ((dr_words hts d) (.fieldLink RX6 116 "PauseRegions$Heap" "greyThings" "LPauseRegions$Row;") (List.mem_of_getElem? (i := 4) rfl)) (fun _ h9 => h9) rfl dX6_steps_70 ?_
        refine va_get (D := g.1) (ci := 5) (v := .int (((q2 0) 19 0))) (C := RX5) (T := TX5) (N := 2) hx hb (dr_words hts d) (fun w h => List.mem_cons_of_mem _ (List.mem_append_left _ (List.mem_append_right _ h))) (hown d) (hK d) hP 27 rfl rfl 1 (by decide) ((dr_words hts d) (.fieldLink RX6 100 "PauseRegions$Row" "length" "I") (List.mem_of_getElem? (i := 5) rfl)) (fun _ h9 => h9) rfl dX6_steps_73 ?_
        have eo := (Option.some.inj hsem).symm.symm
        refine W.endD hdr ?_
        subst eo
        exact W.iret (v := ((q2 0) 19 0)) hx hb hr (fun t ht hW => ⟨⟨_, u1, rfl, ⟨rfl, hq1⟩, ⟨by rw [ht]; exact hP, hD⟩⟩, hS.F ht⟩) hS.2.2 dX6_steps_76
      · unfold sX6_steps_L38 at hst1
        have hP : va_P g.1 vwCl (wTp g a0 a1 a2 a0t (adp 0) (adr 0) a0i (hd 0 0) (hd 1 0) im kf ++ (wC g a0t rgt yct fct ++ (wPa g adp Ap Fp ++ (wRe g adr Ar ++ (wHi g a0i a1i pf z1.1 z1.2.1 ++ (wH g (hd 0) (q1.2 0) (u1 0) ++ (wH g (hd 1) (q1.2 1) (u1 1) ++ (wH g (hd 2) (q1.2 2) (u1 2) ++ (wH g (hd 3) (q1.2 3) (u1 3) ++ (wH g (hd 4) (q1.2 4) (u1 4) ++ (wH g (hd 5) (q1.2 5) (u1 5) ++ (wH g (hd 6) (q1.2 6) (u1 6) ++ (wH g (hd 7) (q1.2 7) (u1 7) ++ (wH g (hd 8) (q1.2 8) (u1 8) ++ (wH g (hd 9) (q1.2 9) (u1 9) ++ ([])))))))))))))))) H := hP
        have hD : va_D Z (wTp g a0 a1 a2 a0t (adp 0) (adr 0) a0i (hd 0 0) (hd 1 0) im kf ++ (wC g a0t rgt yct fct ++ (wPa g adp Ap Fp ++ (wRe g adr Ar ++ (wHi g a0i a1i pf z1.1 z1.2.1 ++ (wH g (hd 0) (q1.2 0) (u1 0) ++ (wH g (hd 1) (q1.2 1) (u1 1) ++ (wH g (hd 2) (q1.2 2) (u1 2) ++ (wH g (hd 3) (q1.2 3) (u1 3) ++ (wH g (hd 4) (q1.2 4) (u1 4) ++ (wH g (hd 5) (q1.2 5) (u1 5) ++ (wH g (hd 6) (q1.2 6) (u1 6) ++ (wH g (hd 7) (q1.2 7) (u1 7) ++ (wH g (hd 8) (q1.2 8) (u1 8) ++ (wH g (hd 9) (q1.2 9) (u1 9) ++ ([])))))))))))))))) := hD
        refine lv_iload_n hx hb dX6_steps_38 rfl (lv_at hl 0 rfl) ?_
        refine lv_iload_n hx hb dX6_steps_39 rfl (lv_at hl 2 rfl) ?_
        refine lv_icmp_ge (tgt := 66) hx hb dX6_steps_40 (by decide) (fun c3 => ?_) (fun c3 => ?_)
        · rw [if_pos c3] at hst1
          exact hout1 _ H locs ls () _ (Option.some.inj hst1).symm hdr trivial hP hD hS (lv_sub hl [1] rfl)
        · rw [if_neg c3] at hst1
          refine lv_aload_n hx hb dX6_steps_43 rfl (lv_at hl 1 rfl) ?_
          refine va_get (D := g.1) (ci := 6) (v := .ref (hd 0 0)) (C := RX6) (T := TX6) (N := 8) hx hb (dr_words hts d) (fun w h => List.mem_cons_of_mem _ (List.mem_append_left _ (List.mem_append_left _ (List.mem_append_left _ (List.mem_append_right _ h))))) (hown d) (hK d) hP 0 rfl rfl 0 (by decide) ((dr_words hts d) (.fieldLink RX6 10 "PauseRegions" "heap" "LPauseRegions$Heap;") (List.mem_of_getElem? (i := 1) rfl)) (fun _ h9 => h9) rfl dX6_steps_44 ?_
          refine va_get (D := g.1) (ci := 1) (v := .int (((q1.2 0) 12 0))) (C := RX1) (T := TX1) (N := 18) hx hb (dr_words hts d) (fun w h => List.mem_cons_of_mem _ (List.mem_append_left _ (List.mem_append_left _ (List.mem_append_right _ h)))) (hown d) (hK d) hP 14 rfl rfl 12 (by decide) ((dr_words hts d) (.fieldLink RX6 109 "PauseRegions$Heap" "marking" "Z") (List.mem_of_getElem? (i := 2) rfl)) (fun _ h9 => h9) rfl dX6_steps_47 ?_
          refine lv_if_eq (tgt := 66) hx hb dX6_steps_50 (by decide) (fun c4 => ?_) (fun c4 => ?_)
          · rw [if_pos c4] at hst1
            exact hout1 _ H locs ls () _ (Option.some.inj hst1).symm hdr trivial hP hD hS (lv_sub hl [1] rfl)
          · rw [if_neg c4] at hst1
            refine lv_aload_n hx hb dX6_steps_53 rfl (lv_at hl 1 rfl) ?_
            refine va_get (D := g.1) (ci := 6) (v := .ref (hd 0 0)) (C := RX6) (T := TX6) (N := 8) hx hb (dr_words hts d) (fun w h => List.mem_cons_of_mem _ (List.mem_append_left _ (List.mem_append_left _ (List.mem_append_left _ (List.mem_append_right _ h))))) (hown d) (hK d) hP 0 rfl rfl 0 (by decide) ((dr_words hts d) (.fieldLink RX6 10 "PauseRegions" "heap" "LPauseRegions$Heap;") (List.mem_of_getElem? (i := 1) rfl)) (fun _ h9 => h9) rfl dX6_steps_54 ?_
            obtain ⟨z2, hc3, hst1⟩ := bn_some hst1
            refine tcV (C := RX1) (As := []) (rest := []) hP hD hS hZ (pF1 (wTp g a0 a1 a2 a0t (adp 0) (adr 0) a0i (hd 0 0) (hd 1 0) im kf ++ (wC g a0t rgt yct fct ++ (wPa g adp Ap Fp ++ (wRe g adr Ar ++ (wHi g a0i a1i pf z1.1 z1.2.1 ++ ([])))))) (wH g (hd 0) (q1.2 0) (u1 0)) (wH g (hd 1) (q1.2 1) (u1 1) ++ (wH g (hd 2) (q1.2 2) (u1 2) ++ (wH g (hd 3) (q1.2 3) (u1 3) ++ (wH g (hd 4) (q1.2 4) (u1 4) ++ (wH g (hd 5) (q1.2 5) (u1 5) ++ (wH g (hd 6) (q1.2 6) (u1 6) ++ (wH g (hd 7) (q1.2 7) (u1 7) ++ (wH g (hd 8) (q1.2 8) (u1 8) ++ (wH g (hd 9) (q1.2 9) (u1 9) ++ ([]))))))))))) ⟨hx, hb, hml, (hown d), (dr_words hts d)⟩ (hKK.drawn d) (cwV 0 (dr_words hts d) gX6_steps_X1_markOldest rfl rfl rfl hdX1_markOldest ⟨Nat.le_of_ble_eq_true rfl, Nat.le_of_ble_eq_true rfl⟩) (kX1_markOldest (l := l) (g := g) (ad := hd 0) (A := (q1.2 0)) (F := (u1 0))  hc3) (va_recv (hK d) hP (ci := 1) (q0 := 14) rfl rfl) rfl hl.1 rfl (Nat.le_of_ble_eq_true rfl) dX6_steps_57 ⟨Nat.zero_le _, Nat.zero_le _⟩ (fun H locs hP hD hS => ?_)
            obtain ⟨HA1, eHA1, hst1⟩ := bd_some hst1
            have hP : va_P g.1 vwCl (wTp g a0 a1 a2 a0t (adp 0) (adr 0) a0i (hd 0 0) (hd 1 0) im kf ++ (wC g a0t rgt yct fct ++ (wPa g adp Ap Fp ++ (wRe g adr Ar ++ (wHi g a0i a1i pf z1.1 z1.2.1 ++ (wH g (hd 0) (HA1 0) (u1 0) ++ (wH g (hd 1) (HA1 1) (u1 1) ++ (wH g (hd 2) (HA1 2) (u1 2) ++ (wH g (hd 3) (HA1 3) (u1 3) ++ (wH g (hd 4) (HA1 4) (u1 4) ++ (wH g (hd 5) (HA1 5) (u1 5) ++ (wH g (hd 6) (HA1 6) (u1 6) ++ (wH g (hd 7) (HA1 7) (u1 7) ++ (wH g (hd 8) (HA1 8) (u1 8) ++ (wH g (hd 9) (HA1 9) (u1 9) ++ ([])))))))))))))))) H := vaP_perm (pF1 (wTp g a0 a1 a2 a0t (adp 0) (adr 0) a0i (hd 0 0) (hd 1 0) im kf ++ (wC g a0t rgt yct fct ++ (wPa g adp Ap Fp ++ (wRe g adr Ar ++ (wHi g a0i a1i pf z1.1 z1.2.1 ++ ([])))))) (wH g (hd 0) (HA1 0) (u1 0)) (wH g (hd 1) (HA1 1) (u1 1) ++ (wH g (hd 2) (HA1 2) (u1 2) ++ (wH g (hd 3) (HA1 3) (u1 3) ++ (wH g (hd 4) (HA1 4) (u1 4) ++ (wH g (hd 5) (HA1 5) (u1 5) ++ (wH g (hd 6) (HA1 6) (u1 6) ++ (wH g (hd 7) (HA1 7) (u1 7) ++ (wH g (hd 8) (HA1 8) (u1 8) ++ (wH g (hd 9) (HA1 9) (u1 9) ++ ([]))))))))))).symm (by rw [eHA1]; exact hP)
            have hD : va_D Z (wTp g a0 a1 a2 a0t (adp 0) (adr 0) a0i (hd 0 0) (hd 1 0) im kf ++ (wC g a0t rgt yct fct ++ (wPa g adp Ap Fp ++ (wRe g adr Ar ++ (wHi g a0i a1i pf z1.1 z1.2.1 ++ (wH g (hd 0) (HA1 0) (u1 0) ++ (wH g (hd 1) (HA1 1) (u1 1) ++ (wH g (hd 2) (HA1 2) (u1 2) ++ (wH g (hd 3) (HA1 3) (u1 3) ++ (wH g (hd 4) (HA1 4) (u1 4) ++ (wH g (hd 5) (HA1 5) (u1 5) ++ (wH g (hd 6) (HA1 6) (u1 6) ++ (wH g (hd 7) (HA1 7) (u1 7) ++ (wH g (hd 8) (HA1 8) (u1 8) ++ (wH g (hd 9) (HA1 9) (u1 9) ++ ([])))))))))))))))) := vaD_perm (pF1 (wTp g a0 a1 a2 a0t (adp 0) (adr 0) a0i (hd 0 0) (hd 1 0) im kf ++ (wC g a0t rgt yct fct ++ (wPa g adp Ap Fp ++ (wRe g adr Ar ++ (wHi g a0i a1i pf z1.1 z1.2.1 ++ ([])))))) (wH g (hd 0) (HA1 0) (u1 0)) (wH g (hd 1) (HA1 1) (u1 1) ++ (wH g (hd 2) (HA1 2) (u1 2) ++ (wH g (hd 3) (HA1 3) (u1 3) ++ (wH g (hd 4) (HA1 4) (u1 4) ++ (wH g (hd 5) (HA1 5) (u1 5) ++ (wH g (hd 6) (HA1 6) (u1 6) ++ (wH g (hd 7) (HA1 7) (u1 7) ++ (wH g (hd 8) (HA1 8) (u1 8) ++ (wH g (hd 9) (HA1 9) (u1 9) ++ ([]))))))))))).symm (by rw [eHA1]; exact hD)
            refine lv_iinc (v := q1.1 + 1) (lv' := [(2, .int (q1.1 + 1)), (0, .ref a0), (1, .int p0)]) hx hb dX6_steps_60 hl (k := 0) rfl rfl (by decide) rfl (fun ls hl => ?_)
            refine lv_goto (tgt := 38) hx hb dX6_steps_63 (by decide) ?_
            exact hin1 _ H locs ls () _ (Option.some.inj hst1).symm hdr trivial hP hD hS (lv_sub hl [0, 1, 2] rfl)
    · rw [if_pos c2] at hsem
      refine lv_bipush (v := (-2)) hx hb dX6_steps_22 (by decide) ?_
      have eo := (Option.some.inj hsem).symm.symm
      refine W.endD hdr ?_
      subst eo
      exact W.iret (v := (-2)) hx hb hr (fun t ht hW => ⟨⟨_, HF, rfl, ⟨rfl, hALH⟩, ⟨by rw [ht]; exact hP, hD⟩⟩, hS.F ht⟩) hS.2.2 dX6_steps_24
  · rw [if_pos c1] at hsem
    refine lv_iconst (v := (-1)) hx hb dX6_steps_10 (by decide) ?_
    have eo := (Option.some.inj hsem).symm.symm
    refine W.endD hdr ?_
    subst eo
    exact W.iret (v := (-1)) hx hb hr (fun t ht hW => ⟨⟨_, HF, rfl, ⟨rfl, hALH⟩, ⟨by rw [ht]; exact hP, hD⟩⟩, hS.F ht⟩) hS.2.2 dX6_steps_11
def sX6_takes (nxi : Int32) (kni : Int32) (HA : Nat → IA) (HFc : Nat → FA) (p0 : Int32) (p1 : Int32) (p2 : Int32) : Option (Int32 × Int32 × Int32 × (Nat → IA) × (Nat → FA)) :=
  (sX6_isRoot p0).bind fun x1 => if x1 = 0 then (some (((-1), nxi, kni, HA, HFc))) else ((sX6_isRoot p1).bind fun x2 => if x2 = 0 then (some (((-1), nxi, kni, HA, HFc))) else ((sX6_within p2 0 1).bind fun x3 => if x3 = 0 then (some (((-1), nxi, kni, HA, HFc))) else (ck p1 6 (if (((HA 0) 9) p1.toNatClampNeg) = (-5) then (some (((-2), nxi, kni, HA, HFc))) else ((sX2_push nxi kni HA HFc).bind fun z1 => ck p1 6 ((sX1_fieldOf (z1.2.2.1 0) (((z1.2.2.1 0) 9) p1.toNatClampNeg) p2).bind fun x4 => ck p0 6 (bd (upH z1.2.2.1 0 (wr (z1.2.2.1 0) 9 p0.toNatClampNeg x4)) fun HA1 => ck p0 6 (some ((((HA1 0) 9) p0.toNatClampNeg, z1.1, z1.2.1, HA1, z1.2.2.2))))))))))
abbrev rmX6_takes : Room := { frames := 4, cells := 0, slots := 0, locals := 103 }
theorem hdX6_takes : yX6_takes.cls = RX6 ∧ yX6_takes.cls ≠ "java/lang/invoke/MethodHandle" ∧ yX6_takes.cls ≠ "java/lang/invoke/VarHandle" ∧ (parseMethodDescriptor yX6_takes.desc).map (fun d => d.parameters.length) = some 3 := by decide +kernel
set_option maxHeartbeats 8000000 in
set_option maxRecDepth 100000 in
theorem kX6_takes {l : Launch} {g : GG} {sz : Nat} {a0 a1 a2 : Nat} {im : Nat → Option Nat} {kf : Nat → Int32} {a0t : Nat} {rgt : Int32} {yct : Int32} {fct : UInt32} {adp : Nat → Nat} {Ap : IA} {Fp : FA} {adr : Nat → Nat} {Ar : IA} {a0i a1i : Nat} {pf : Nat → Option Nat} {nxi kni : Int32} {hd : Nat → Nat → Nat} {HA : Nat → IA} {HF : Nat → FA} {p0 p1 p2 : Int32} (hpf : ∀ k, k < 6 → pf k = some (hd (2 + k) 0)) {fctc : UInt32} (hfct : alike32 fct fctc = true) {Fpc : FA} (hALp : AL Fp Fpc) {HFc : Nat → FA} (hALH : ALH HF HFc) {b : Int32 × Int32 × Int32 × (Nat → IA) × (Nat → FA)} (hsem : sX6_takes nxi kni HA HFc p0 p1 p2 = some b) : MetDI l yX6_takes wsX6_takes rmX6_takes g [.ref a0, .int p0, .int p1, .int p2] (wTp g a0 a1 a2 a0t (adp 0) (adr 0) a0i (hd 0 0) (hd 1 0) im kf ++ (wC g a0t rgt yct fct ++ (wPa g adp Ap Fp ++ (wRe g adr Ar ++ (wHi g a0i a1i pf nxi kni ++ (wH g (hd 0) (HA 0) (HF 0) ++ (wH g (hd 1) (HA 1) (HF 1) ++ (wH g (hd 2) (HA 2) (HF 2) ++ (wH g (hd 3) (HA 3) (HF 3) ++ (wH g (hd 4) (HA 4) (HF 4) ++ (wH g (hd 5) (HA 5) (HF 5) ++ (wH g (hd 6) (HA 6) (HF 6) ++ (wH g (hd 7) (HA 7) (HF 7) ++ (wH g (hd 8) (HA 8) (HF 8) ++ (wH g (hd 9) (HA 9) (HF 9) ++ ([])))))))))))))))) sz b.1 (φ := (Nat → FA)) (fun u => ALH u b.2.2.2.2) (fun u => wTp g a0 a1 a2 a0t (adp 0) (adr 0) a0i (hd 0 0) (hd 1 0) im kf ++ (wC g a0t rgt yct fct ++ (wPa g adp Ap Fp ++ (wRe g adr Ar ++ (wHi g a0i a1i pf b.2.1 b.2.2.1 ++ (wH g (hd 0) (b.2.2.2.1 0) (u 0) ++ (wH g (hd 1) (b.2.2.2.1 1) (u 1) ++ (wH g (hd 2) (b.2.2.2.1 2) (u 2) ++ (wH g (hd 3) (b.2.2.2.1 3) (u 3) ++ (wH g (hd 4) (b.2.2.2.1 4) (u 4) ++ (wH g (hd 5) (b.2.2.2.1 5) (u 5) ++ (wH g (hd 6) (b.2.2.2.1 6) (u 6) ++ (wH g (hd 7) (b.2.2.2.1 7) (u 7) ++ (wH g (hd 8) (b.2.2.2.1 8) (u 8) ++ (wH g (hd 9) (b.2.2.2.1 9) (u 9) ++ ([])))))))))))))))) := by
  refine MetD.ofW (cc := cX6_takes) (maxL := 4) (ret := (some .int)) (by decide) rfl ?_
  intro p e s m args below meth c s₁ B hml hv hd0
  obtain ⟨rfl, hsz, hP, hD0, hKK⟩ := hv
  subst hsz
  have hx := B.exec
  have hb := B.bytes
  have hr := B.returns
  have hts := atoms_spec (ws := wsX6_takes) B.pre
  have hown : ∀ d, (s.setDrawn d).vm.findClass RX6 = some m.cls := fun _ => findClass_of_methodNamed B.named
  have hlocks := B.notSynchronized
  have hK : ∀ d, va_K g.1 vwCl (KT g) (s.setDrawn d) := fun d => (hKK.drawn d).1
  have hD := hD0.self (sz := s.heap.size)
  generalize hZe : va_A (wTp g a0 a1 a2 a0t (adp 0) (adr 0) a0i (hd 0 0) (hd 1 0) im kf ++ (wC g a0t rgt yct fct ++ (wPa g adp Ap Fp ++ (wRe g adr Ar ++ (wHi g a0i a1i pf nxi kni ++ (wH g (hd 0) (HA 0) (HF 0) ++ (wH g (hd 1) (HA 1) (HF 1) ++ (wH g (hd 2) (HA 2) (HF 2) ++ (wH g (hd 3) (HA 3) (HF 3) ++ (wH g (hd 4) (HA 4) (HF 4) ++ (wH g (hd 5) (HA 5) (HF 5) ++ (wH g (hd 6) (HA 6) (HF 6) ++ (wH g (hd 7) (HA 7) (HF 7) ++ (wH g (hd 8) (HA 8) (HF 8) ++ (wH g (hd 9) (HA 9) (HF 9) ++ ([])))))))))))))))) s.heap.size = Z at hD ⊢
  have hZ : ∀ q : Nat, s.heap.size ≤ q → Z q := fun q h => by rw [← hZe]; exact Or.inr h
  have hS : va_S Z s.heap s.heap [] := va_S.rf
  have hP : va_P g.1 vwCl (wTp g a0 a1 a2 a0t (adp 0) (adr 0) a0i (hd 0 0) (hd 1 0) im kf ++ (wC g a0t rgt yct fct ++ (wPa g adp Ap Fp ++ (wRe g adr Ar ++ (wHi g a0i a1i pf nxi kni ++ (wH g (hd 0) (HA 0) (HF 0) ++ (wH g (hd 1) (HA 1) (HF 1) ++ (wH g (hd 2) (HA 2) (HF 2) ++ (wH g (hd 3) (HA 3) (HF 3) ++ (wH g (hd 4) (HA 4) (HF 4) ++ (wH g (hd 5) (HA 5) (HF 5) ++ (wH g (hd 6) (HA 6) (HF 6) ++ (wH g (hd 7) (HA 7) (HF 7) ++ (wH g (hd 8) (HA 8) (HF 8) ++ (wH g (hd 9) (HA 9) (HF 9) ++ ([])))))))))))))))) s.heap := hP
  have hD : va_D Z (wTp g a0 a1 a2 a0t (adp 0) (adr 0) a0i (hd 0 0) (hd 1 0) im kf ++ (wC g a0t rgt yct fct ++ (wPa g adp Ap Fp ++ (wRe g adr Ar ++ (wHi g a0i a1i pf nxi kni ++ (wH g (hd 0) (HA 0) (HF 0) ++ (wH g (hd 1) (HA 1) (HF 1) ++ (wH g (hd 2) (HA 2) (HF 2) ++ (wH g (hd 3) (HA 3) (HF 3) ++ (wH g (hd 4) (HA 4) (HF 4) ++ (wH g (hd 5) (HA 5) (HF 5) ++ (wH g (hd 6) (HA 6) (HF 6) ++ (wH g (hd 7) (HA 7) (HF 7) ++ (wH g (hd 8) (HA 8) (HF 8) ++ (wH g (hd 9) (HA 9) (HF 9) ++ ([])))))))))))))))) := hD
  obtain ⟨d, hdr, hdd⟩ : ∃ d, s.drawn.sameBut d lw_cs ∧ s.drawn = d := ⟨_, hd0, rfl⟩
  rw [hdd]
  have hl := lv_entry ([.ref a0, .int p0, .int p1, .int p2]) (n := 4) (Nat.le_of_ble_eq_true rfl)
  rw [lg_entry_eq]
  generalize (lg_sl ([.ref a0, .int p0, .int p1, .int p2]) ++ List.replicate (4 - (lg_sl ([.ref a0, .int p0, .int p1, .int p2])).length) Slot.unset).toArray = ls at hl ⊢
  have hl : lv_has ls 4 [(0, .ref a0), (1, .int p0), (2, .int p1), (3, .int p2)] := hl
  unfold sX6_takes at hsem
  refine lv_iload_n hx hb dX6_takes_0 rfl (lv_at hl 1 rfl) ?_
  obtain ⟨x1, hc1, hsem⟩ := bn_some hsem
  refine pcS (As := [.int p0]) (rest := []) ⟨hx, hb, hml, (hown d), (dr_words hts d)⟩ (hKK.drawn d) (va_cwS 1 (dr_words hts d) gX6_takes_X6_isRoot rfl rfl rfl hdX6_isRoot ⟨Nat.le_of_ble_eq_true rfl, Nat.le_of_ble_eq_true rfl⟩) (kX6_isRoot (l := l) (g := g) hc1) rfl hl.1 rfl (Nat.le_of_ble_eq_true rfl) dX6_takes_1 ⟨Nat.zero_le _, Nat.zero_le _⟩ ?_
  refine lv_if_eq (tgt := 23) hx hb dX6_takes_4 (by decide) (fun c1 => ?_) (fun c1 => ?_)
  · rw [if_pos c1] at hsem
    refine lv_iconst (v := (-1)) hx hb dX6_takes_23 (by decide) ?_
    have eo := (Option.some.inj hsem).symm.symm
    refine W.endD hdr ?_
    subst eo
    exact W.iret (v := (-1)) hx hb hr (fun t ht hW => ⟨⟨_, HF, rfl, ⟨rfl, hALH⟩, ⟨by rw [ht]; exact hP, hD⟩⟩, hS.F ht⟩) hS.2.2 dX6_takes_24
  · rw [if_neg c1] at hsem
    refine lv_iload_n hx hb dX6_takes_7 rfl (lv_at hl 2 rfl) ?_
    obtain ⟨x2, hc2, hsem⟩ := bn_some hsem
    refine pcS (As := [.int p1]) (rest := []) ⟨hx, hb, hml, (hown d), (dr_words hts d)⟩ (hKK.drawn d) (va_cwS 1 (dr_words hts d) gX6_takes_X6_isRoot rfl rfl rfl hdX6_isRoot ⟨Nat.le_of_ble_eq_true rfl, Nat.le_of_ble_eq_true rfl⟩) (kX6_isRoot (l := l) (g := g) hc2) rfl hl.1 rfl (Nat.le_of_ble_eq_true rfl) dX6_takes_8 ⟨Nat.zero_le _, Nat.zero_le _⟩ ?_
    refine lv_if_eq (tgt := 23) hx hb dX6_takes_11 (by decide) (fun c2 => ?_) (fun c2 => ?_)
    · rw [if_pos c2] at hsem
      refine lv_iconst (v := (-1)) hx hb dX6_takes_23 (by decide) ?_
      have eo := (Option.some.inj hsem).symm.symm
      refine W.endD hdr ?_
      subst eo
      exact W.iret (v := (-1)) hx hb hr (fun t ht hW => ⟨⟨_, HF, rfl, ⟨rfl, hALH⟩, ⟨by rw [ht]; exact hP, hD⟩⟩, hS.F ht⟩) hS.2.2 dX6_takes_24
    · rw [if_neg c2] at hsem
      refine lv_iload_n hx hb dX6_takes_14 rfl (lv_at hl 3 rfl) ?_
      refine lv_iconst (v := 0) hx hb dX6_takes_15 (by decide) ?_
      refine lv_iconst (v := 1) hx hb dX6_takes_16 (by decide) ?_
      obtain ⟨x3, hc3, hsem⟩ := bn_some hsem
      refine pcS (As := [.int p2, .int 0, .int 1]) (rest := []) ⟨hx, hb, hml, (hown d), (dr_words hts d)⟩ (hKK.drawn d) (va_cwS 3 (dr_words hts d) gX6_takes_X6_within rfl rfl rfl hdX6_within ⟨Nat.le_of_ble_eq_true rfl, Nat.le_of_ble_eq_true rfl⟩) (kX6_within (l := l) (g := g) hc3) rfl hl.1 rfl (Nat.le_of_ble_eq_true rfl) dX6_takes_17 ⟨Nat.zero_le _, Nat.zero_le _⟩ ?_
      refine lv_if_ne (tgt := 25) hx hb dX6_takes_20 (by decide) (fun c3 => ?_) (fun c3 => ?_)
      · rw [if_neg c3] at hsem
        refine lv_aload_n hx hb dX6_takes_25 rfl (lv_at hl 0 rfl) ?_
        refine va_get (D := g.1) (ci := 6) (v := .ref (hd 0 0)) (C := RX6) (T := TX6) (N := 8) hx hb (dr_words hts d) (fun w h => List.mem_cons_of_mem _ (List.mem_append_left _ (List.mem_append_left _ (List.mem_append_left _ (List.mem_append_right _ h))))) (hown d) (hK d) hP 0 rfl rfl 0 (by decide) ((dr_words hts d) (.fieldLink RX6 10 "PauseRegions" "heap" "LPauseRegions$Heap;") (List.mem_of_getElem? (i := 1) rfl)) (fun _ h9 => h9) rfl dX6_takes_26 ?_
        refine va_get (D := g.1) (ci := 1) (v := .ref (hd 0 10)) (C := RX1) (T := TX1) (N := 18) hx hb (dr_words hts d) (fun w h => List.mem_cons_of_mem _ (List.mem_append_left _ (List.mem_append_left _ (List.mem_append_right _ h)))) (hown d) (hK d) hP 14 rfl rfl 9 (by decide) ((dr_words hts d) (.fieldLink RX6 79 "PauseRegions$Heap" "roots" "[I") (List.mem_of_getElem? (i := 2) rfl)) (fun _ h9 => h9) rfl dX6_takes_29 ?_
        refine lv_iload_n hx hb dX6_takes_32 rfl (lv_at hl 2 rfl) ?_
        obtain ⟨h1, hsem⟩ := ck_some hsem
        refine va_iald (D := g.1) hx hb (hK d) hP 24 0 rfl rfl h1 dX6_takes_33 ?_
        refine lv_bipush (v := (-5)) hx hb dX6_takes_34 (by decide) ?_
        refine lv_icmp_ne (tgt := 42) hx hb dX6_takes_36 (by decide) (fun c4 => ?_) (fun c4 => ?_)
        · rw [if_neg c4] at hsem
          refine lv_aload_n hx hb dX6_takes_42 rfl (lv_at hl 0 rfl) ?_
          refine va_get (D := g.1) (ci := 6) (v := .ref a0i) (C := RX6) (T := TX6) (N := 8) hx hb (dr_words hts d) (fun w h => List.mem_cons_of_mem _ (List.mem_append_left _ (List.mem_append_left _ (List.mem_append_left _ (List.mem_append_right _ h))))) (hown d) (hK d) hP 0 rfl rfl 2 (by decide) ((dr_words hts d) (.fieldLink RX6 22 "PauseRegions" "history" "LPauseRegions$History;") (List.mem_of_getElem? (i := 3) rfl)) (fun _ h9 => h9) rfl dX6_takes_43 ?_
          refine lv_aload_n hx hb dX6_takes_46 rfl (lv_at hl 0 rfl) ?_
          refine va_get (D := g.1) (ci := 6) (v := .ref (hd 0 0)) (C := RX6) (T := TX6) (N := 8) hx hb (dr_words hts d) (fun w h => List.mem_cons_of_mem _ (List.mem_append_left _ (List.mem_append_left _ (List.mem_append_left _ (List.mem_append_right _ h))))) (hown d) (hK d) hP 0 rfl rfl 0 (by decide) ((dr_words hts d) (.fieldLink RX6 10 "PauseRegions" "heap" "LPauseRegions$Heap;") (List.mem_of_getElem? (i := 1) rfl)) (fun _ h9 => h9) rfl dX6_takes_47 ?_
          obtain ⟨z1, hc4, hsem⟩ := bn_some hsem
          refine tdV (C := RX2) (As := [.ref (hd 0 0)]) (rest := []) hP hD hS hZ (pF1 (wTp g a0 a1 a2 a0t (adp 0) (adr 0) a0i (hd 0 0) (hd 1 0) im kf ++ (wC g a0t rgt yct fct ++ (wPa g adp Ap Fp ++ (wRe g adr Ar ++ ([]))))) (wHi g a0i a1i pf nxi kni ++ (wH g (hd 0) (HA 0) (HF 0) ++ (wH g (hd 1) (HA 1) (HF 1) ++ (wH g (hd 2) (HA 2) (HF 2) ++ (wH g (hd 3) (HA 3) (HF 3) ++ (wH g (hd 4) (HA 4) (HF 4) ++ (wH g (hd 5) (HA 5) (HF 5) ++ (wH g (hd 6) (HA 6) (HF 6) ++ (wH g (hd 7) (HA 7) (HF 7) ++ (wH g (hd 8) (HA 8) (HF 8) ++ (wH g (hd 9) (HA 9) (HF 9) ++ ([])))))))))))) ([])) hdr ⟨hx, hb, hml, (hown d), (dr_words hts d)⟩ (hKK.drawn d) (cwV 1 (dr_words hts d) gX6_takes_X2_push rfl rfl rfl hdX2_push ⟨Nat.le_of_ble_eq_true rfl, Nat.le_of_ble_eq_true rfl⟩) (kX2_push (l := l) (g := g) (a0i := a0i) (a1i := a1i) (hd := hd) (pf := pf) (nxi := nxi) (kni := kni) (HA := HA) (HF := HF) (HFc := HFc) hpf hALH hc4) (va_recv (hK d) hP (ci := 2) (q0 := 12) rfl rfl) rfl hl.1 rfl (Nat.le_of_ble_eq_true rfl) dX6_takes_50 ⟨Nat.zero_le _, Nat.zero_le _⟩ (fun u1 H locs d hpo hP hD hS hdr => ?_)
          have hq1 := hpo
          have hP : va_P g.1 vwCl (wTp g a0 a1 a2 a0t (adp 0) (adr 0) a0i (hd 0 0) (hd 1 0) im kf ++ (wC g a0t rgt yct fct ++ (wPa g adp Ap Fp ++ (wRe g adr Ar ++ (wHi g a0i a1i pf z1.1 z1.2.1 ++ (wH g (hd 0) (z1.2.2.1 0) (u1 0) ++ (wH g (hd 1) (z1.2.2.1 1) (u1 1) ++ (wH g (hd 2) (z1.2.2.1 2) (u1 2) ++ (wH g (hd 3) (z1.2.2.1 3) (u1 3) ++ (wH g (hd 4) (z1.2.2.1 4) (u1 4) ++ (wH g (hd 5) (z1.2.2.1 5) (u1 5) ++ (wH g (hd 6) (z1.2.2.1 6) (u1 6) ++ (wH g (hd 7) (z1.2.2.1 7) (u1 7) ++ (wH g (hd 8) (z1.2.2.1 8) (u1 8) ++ (wH g (hd 9) (z1.2.2.1 9) (u1 9) ++ ([])))))))))))))))) H := vaP_perm (pF1 (wTp g a0 a1 a2 a0t (adp 0) (adr 0) a0i (hd 0 0) (hd 1 0) im kf ++ (wC g a0t rgt yct fct ++ (wPa g adp Ap Fp ++ (wRe g adr Ar ++ ([]))))) (wHi g a0i a1i pf z1.1 z1.2.1 ++ (wH g (hd 0) (z1.2.2.1 0) (u1 0) ++ (wH g (hd 1) (z1.2.2.1 1) (u1 1) ++ (wH g (hd 2) (z1.2.2.1 2) (u1 2) ++ (wH g (hd 3) (z1.2.2.1 3) (u1 3) ++ (wH g (hd 4) (z1.2.2.1 4) (u1 4) ++ (wH g (hd 5) (z1.2.2.1 5) (u1 5) ++ (wH g (hd 6) (z1.2.2.1 6) (u1 6) ++ (wH g (hd 7) (z1.2.2.1 7) (u1 7) ++ (wH g (hd 8) (z1.2.2.1 8) (u1 8) ++ (wH g (hd 9) (z1.2.2.1 9) (u1 9) ++ ([])))))))))))) ([])).symm (by exact hP)
          have hD : va_D Z (wTp g a0 a1 a2 a0t (adp 0) (adr 0) a0i (hd 0 0) (hd 1 0) im kf ++ (wC g a0t rgt yct fct ++ (wPa g adp Ap Fp ++ (wRe g adr Ar ++ (wHi g a0i a1i pf z1.1 z1.2.1 ++ (wH g (hd 0) (z1.2.2.1 0) (u1 0) ++ (wH g (hd 1) (z1.2.2.1 1) (u1 1) ++ (wH g (hd 2) (z1.2.2.1 2) (u1 2) ++ (wH g (hd 3) (z1.2.2.1 3) (u1 3) ++ (wH g (hd 4) (z1.2.2.1 4) (u1 4) ++ (wH g (hd 5) (z1.2.2.1 5) (u1 5) ++ (wH g (hd 6) (z1.2.2.1 6) (u1 6) ++ (wH g (hd 7) (z1.2.2.1 7) (u1 7) ++ (wH g (hd 8) (z1.2.2.1 8) (u1 8) ++ (wH g (hd 9) (z1.2.2.1 9) (u1 9) ++ ([])))))))))))))))) := vaD_perm (pF1 (wTp g a0 a1 a2 a0t (adp 0) (adr 0) a0i (hd 0 0) (hd 1 0) im kf ++ (wC g a0t rgt yct fct ++ (wPa g adp Ap Fp ++ (wRe g adr Ar ++ ([]))))) (wHi g a0i a1i pf z1.1 z1.2.1 ++ (wH g (hd 0) (z1.2.2.1 0) (u1 0) ++ (wH g (hd 1) (z1.2.2.1 1) (u1 1) ++ (wH g (hd 2) (z1.2.2.1 2) (u1 2) ++ (wH g (hd 3) (z1.2.2.1 3) (u1 3) ++ (wH g (hd 4) (z1.2.2.1 4) (u1 4) ++ (wH g (hd 5) (z1.2.2.1 5) (u1 5) ++ (wH g (hd 6) (z1.2.2.1 6) (u1 6) ++ (wH g (hd 7) (z1.2.2.1 7) (u1 7) ++ (wH g (hd 8) (z1.2.2.1 8) (u1 8) ++ (wH g (hd 9) (z1.2.2.1 9) (u1 9) ++ ([])))))))))))) ([])).symm (by exact hD)
          refine lv_aload_n hx hb dX6_takes_53 rfl (lv_at hl 0 rfl) ?_
          refine va_get (D := g.1) (ci := 6) (v := .ref (hd 0 0)) (C := RX6) (T := TX6) (N := 8) hx hb (dr_words hts d) (fun w h => List.mem_cons_of_mem _ (List.mem_append_left _ (List.mem_append_left _ (List.mem_append_left _ (List.mem_append_right _ h))))) (hown d) (hK d) hP 0 rfl rfl 0 (by decide) ((dr_words hts d) (.fieldLink RX6 10 "PauseRegions" "heap" "LPauseRegions$Heap;") (List.mem_of_getElem? (i := 1) rfl)) (fun _ h9 => h9) rfl dX6_takes_54 ?_
          refine va_get (D := g.1) (ci := 1) (v := .ref (hd 0 10)) (C := RX1) (T := TX1) (N := 18) hx hb (dr_words hts d) (fun w h => List.mem_cons_of_mem _ (List.mem_append_left _ (List.mem_append_left _ (List.mem_append_right _ h)))) (hown d) (hK d) hP 14 rfl rfl 9 (by decide) ((dr_words hts d) (.fieldLink RX6 79 "PauseRegions$Heap" "roots" "[I") (List.mem_of_getElem? (i := 2) rfl)) (fun _ h9 => h9) rfl dX6_takes_57 ?_
          refine lv_iload_n hx hb dX6_takes_60 rfl (lv_at hl 1 rfl) ?_
          refine lv_aload_n hx hb dX6_takes_61 rfl (lv_at hl 0 rfl) ?_
          refine va_get (D := g.1) (ci := 6) (v := .ref (hd 0 0)) (C := RX6) (T := TX6) (N := 8) hx hb (dr_words hts d) (fun w h => List.mem_cons_of_mem _ (List.mem_append_left _ (List.mem_append_left _ (List.mem_append_left _ (List.mem_append_right _ h))))) (hown d) (hK d) hP 0 rfl rfl 0 (by decide) ((dr_words hts d) (.fieldLink RX6 10 "PauseRegions" "heap" "LPauseRegions$Heap;") (List.mem_of_getElem? (i := 1) rfl)) (fun _ h9 => h9) rfl dX6_takes_62 ?_
          refine lv_aload_n hx hb dX6_takes_65 rfl (lv_at hl 0 rfl) ?_
          refine va_get (D := g.1) (ci := 6) (v := .ref (hd 0 0)) (C := RX6) (T := TX6) (N := 8) hx hb (dr_words hts d) (fun w h => List.mem_cons_of_mem _ (List.mem_append_left _ (List.mem_append_left _ (List.mem_append_left _ (List.mem_append_right _ h))))) (hown d) (hK d) hP 0 rfl rfl 0 (by decide) ((dr_words hts d) (.fieldLink RX6 10 "PauseRegions" "heap" "LPauseRegions$Heap;") (List.mem_of_getElem? (i := 1) rfl)) (fun _ h9 => h9) rfl dX6_takes_66 ?_
          refine va_get (D := g.1) (ci := 1) (v := .ref (hd 0 10)) (C := RX1) (T := TX1) (N := 18) hx hb (dr_words hts d) (fun w h => List.mem_cons_of_mem _ (List.mem_append_left _ (List.mem_append_left _ (List.mem_append_right _ h)))) (hown d) (hK d) hP 14 rfl rfl 9 (by decide) ((dr_words hts d) (.fieldLink RX6 79 "PauseRegions$Heap" "roots" "[I") (List.mem_of_getElem? (i := 2) rfl)) (fun _ h9 => h9) rfl dX6_takes_69 ?_
          refine lv_iload_n hx hb dX6_takes_72 rfl (lv_at hl 2 rfl) ?_
          obtain ⟨h2, hsem⟩ := ck_some hsem
          refine va_iald (D := g.1) hx hb (hK d) hP 24 0 rfl rfl h2 dX6_takes_73 ?_
          refine lv_iload_n hx hb dX6_takes_74 rfl (lv_at hl 3 rfl) ?_
          obtain ⟨x4, hc5, hsem⟩ := bn_some hsem
          refine pcV (C := RX1) (As := [.int (((z1.2.2.1 0) 9) p1.toNatClampNeg), .int p2]) (rest := [.int p0, .ref (hd 0 10)]) ⟨hx, hb, hml, (hown d), (dr_words hts d)⟩ (hKK.drawn d) (cwV 2 (dr_words hts d) gX6_takes_X1_fieldOf rfl rfl rfl hdX1_fieldOf ⟨Nat.le_of_ble_eq_true rfl, Nat.le_of_ble_eq_true rfl⟩) (kX1_fieldOf (l := l) (g := g) (hP.sub (ws' := wH g (hd 0) (z1.2.2.1 0) (u1 0)) [14, 15, 16, 17, 18, 19, 20, 21, 22, 23, 24, 25, 26, 27, 28] rfl) hc5) (va_recv (hK d) hP (ci := 1) (q0 := 14) rfl rfl) rfl hl.1 rfl (Nat.le_of_ble_eq_true rfl) dX6_takes_75 ⟨Nat.zero_le _, Nat.zero_le _⟩ ?_
          obtain ⟨h3, hsem⟩ := ck_some hsem
          refine va_iast (D := g.1) hx hb (hK d) hP hD hS 24 0 rfl rfl h3 dX6_takes_78 (fun H locs hP hD hS => ?_)
          obtain ⟨HA1, eHA1, hsem⟩ := bd_some hsem
          have hP : va_P g.1 vwCl (wTp g a0 a1 a2 a0t (adp 0) (adr 0) a0i (hd 0 0) (hd 1 0) im kf ++ (wC g a0t rgt yct fct ++ (wPa g adp Ap Fp ++ (wRe g adr Ar ++ (wHi g a0i a1i pf z1.1 z1.2.1 ++ (wH g (hd 0) (HA1 0) (u1 0) ++ (wH g (hd 1) (HA1 1) (u1 1) ++ (wH g (hd 2) (HA1 2) (u1 2) ++ (wH g (hd 3) (HA1 3) (u1 3) ++ (wH g (hd 4) (HA1 4) (u1 4) ++ (wH g (hd 5) (HA1 5) (u1 5) ++ (wH g (hd 6) (HA1 6) (u1 6) ++ (wH g (hd 7) (HA1 7) (u1 7) ++ (wH g (hd 8) (HA1 8) (u1 8) ++ (wH g (hd 9) (HA1 9) (u1 9) ++ ([])))))))))))))))) H := by rw [eHA1]; exact hP
          have hD : va_D Z (wTp g a0 a1 a2 a0t (adp 0) (adr 0) a0i (hd 0 0) (hd 1 0) im kf ++ (wC g a0t rgt yct fct ++ (wPa g adp Ap Fp ++ (wRe g adr Ar ++ (wHi g a0i a1i pf z1.1 z1.2.1 ++ (wH g (hd 0) (HA1 0) (u1 0) ++ (wH g (hd 1) (HA1 1) (u1 1) ++ (wH g (hd 2) (HA1 2) (u1 2) ++ (wH g (hd 3) (HA1 3) (u1 3) ++ (wH g (hd 4) (HA1 4) (u1 4) ++ (wH g (hd 5) (HA1 5) (u1 5) ++ (wH g (hd 6) (HA1 6) (u1 6) ++ (wH g (hd 7) (HA1 7) (u1 7) ++ (wH g (hd 8) (HA1 8) (u1 8) ++ (wH g (hd 9) (HA1 9) (u1 9) ++ ([])))))))))))))))) := by rw [eHA1]; exact hD
          refine lv_aload_n hx hb dX6_takes_79 rfl (lv_at hl 0 rfl) ?_
          refine va_get (D := g.1) (ci := 6) (v := .ref (hd 0 0)) (C := RX6) (T := TX6) (N := 8) hx hb (dr_words hts d) (fun w h => List.mem_cons_of_mem _ (List.mem_append_left _ (List.mem_append_left _ (List.mem_append_left _ (List.mem_append_right _ h))))) (hown d) (hK d) hP 0 rfl rfl 0 (by decide) ((dr_words hts d) (.fieldLink RX6 10 "PauseRegions" "heap" "LPauseRegions$Heap;") (List.mem_of_getElem? (i := 1) rfl)) (fun _ h9 => h9) rfl dX6_takes_80 ?_
          refine va_get (D := g.1) (ci := 1) (v := .ref (hd 0 10)) (C := RX1) (T := TX1) (N := 18) hx hb (dr_words hts d) (fun w h => List.mem_cons_of_mem _ (List.mem_append_left _ (List.mem_append_left _ (List.mem_append_right _ h)))) (hown d) (hK d) hP 14 rfl rfl 9 (by decide) ((dr_words hts d) (.fieldLink RX6 79 "PauseRegions$Heap" "roots" "[I") (List.mem_of_getElem? (i := 2) rfl)) (fun _ h9 => h9) rfl dX6_takes_83 ?_
          refine lv_iload_n hx hb dX6_takes_86 rfl (lv_at hl 1 rfl) ?_
          obtain ⟨h4, hsem⟩ := ck_some hsem
          refine va_iald (D := g.1) hx hb (hK d) hP 24 0 rfl rfl h4 dX6_takes_87 ?_
          have eo := (Option.some.inj hsem).symm.symm
          refine W.endD hdr ?_
          subst eo
          exact W.iret (v := ((HA1 0) 9) p0.toNatClampNeg) hx hb hr (fun t ht hW => ⟨⟨_, u1, rfl, ⟨rfl, hq1⟩, ⟨by rw [ht]; exact hP, hD⟩⟩, hS.F ht⟩) hS.2.2 dX6_takes_88
        · rw [if_pos c4] at hsem
          refine lv_bipush (v := (-2)) hx hb dX6_takes_39 (by decide) ?_
          have eo := (Option.some.inj hsem).symm.symm
          refine W.endD hdr ?_
          subst eo
          exact W.iret (v := (-2)) hx hb hr (fun t ht hW => ⟨⟨_, HF, rfl, ⟨rfl, hALH⟩, ⟨by rw [ht]; exact hP, hD⟩⟩, hS.F ht⟩) hS.2.2 dX6_takes_41
      · rw [if_pos c3] at hsem
        refine lv_iconst (v := (-1)) hx hb dX6_takes_23 (by decide) ?_
        have eo := (Option.some.inj hsem).symm.symm
        refine W.endD hdr ?_
        subst eo
        exact W.iret (v := (-1)) hx hb hr (fun t ht hW => ⟨⟨_, HF, rfl, ⟨rfl, hALH⟩, ⟨by rw [ht]; exact hP, hD⟩⟩, hS.F ht⟩) hS.2.2 dX6_takes_24
