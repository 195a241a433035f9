/-! ===== 17 the top: History and the public methods (by program) ===== -/
abbrev wTp (g : GG) (a0 a1 a2 c0 p0 r0 i0 h0 h1 : Nat) (im : Nat → Option Nat) (kf : Nat → Int32) : va_W := [(a0, .inr (6, [.ref h0, .ref h1, .ref i0, .ref a1, .ref a2, .ref c0, .ref p0, .ref r0])), (a1, .inl (g.2.2.2.2, 2, .inr (.inr (.inr (.inr im))))), (a2, .inl (g.2.2.1, 2, .inl kf))]
abbrev wHi (g : GG) (a0 a1 : Nat) (pf : Nat → Option Nat) (nx kn : Int32) : va_W := [(a0, .inr (2, [.ref a1, .int nx, .int kn])), (a1, .inl (g.2.2.2.2, 6, .inr (.inr (.inr (.inr pf)))))]
def upH (HA : Nat → IA) (i : Nat) (A : IA) : Nat → IA := fun k => cond (Nat.beq k i) A (HA k)
def upF (HF : Nat → FA) (i : Nat) (F : FA) : Nat → FA := fun k => cond (Nat.beq k i) F (HF k)
def ALH (HF HG : Nat → FA) : Prop := ∀ i, AL (HF i) (HG i)
theorem ALH.up {HF HG : Nat → FA} {i : Nat} {F G : FA} (h : ALH HF HG) (hF : AL F G) : ALH (upF HF i F) (upF HG i G) := by
  intro k
  unfold upF
  cases Nat.beq k i with
  | true => exact hF
  | false => exact h k
def sX2_forget (nxi : Int32) : Option (Int32 × Int32) :=
  bd 0 fun kn1i => some (nxi, kn1i)
abbrev rmX2_forget : Room := { frames := 0, cells := 0, slots := 0, locals := 0 }
theorem hdX2_forget : yX2_forget.cls = RX2 ∧ yX2_forget.cls ≠ "java/lang/invoke/MethodHandle" ∧ yX2_forget.cls ≠ "java/lang/invoke/VarHandle" ∧ (parseMethodDescriptor yX2_forget.desc).map (fun d => d.parameters.length) = some 0 := by decide +kernel
set_option maxHeartbeats 8000000 in
set_option maxRecDepth 100000 in
theorem kX2_forget {l : Launch} {g : GG} {sz : Nat} {a0i a1i : Nat} {pf : Nat → Option Nat} {nxi kni : Int32} {hd : Nat → Nat → Nat} {HA : Nat → IA} {HF : Nat → FA} {b : Int32 × Int32} (hsem : sX2_forget nxi = some b) : MetV l yX2_forget wsX2_forget rmX2_forget g [.ref a0i] (wHi g a0i a1i pf nxi kni ++ (wH g (hd 0) (HA 0) (HF 0) ++ (wH g (hd 1) (HA 1) (HF 1) ++ (wH g (hd 2) (HA 2) (HF 2) ++ (wH g (hd 3) (HA 3) (HF 3) ++ (wH g (hd 4) (HA 4) (HF 4) ++ (wH g (hd 5) (HA 5) (HF 5) ++ (wH g (hd 6) (HA 6) (HF 6) ++ (wH g (hd 7) (HA 7) (HF 7) ++ (wH g (hd 8) (HA 8) (HF 8) ++ (wH g (hd 9) (HA 9) (HF 9) ++ ([])))))))))))) sz (wHi g a0i a1i pf b.1 b.2 ++ (wH g (hd 0) (HA 0) (HF 0) ++ (wH g (hd 1) (HA 1) (HF 1) ++ (wH g (hd 2) (HA 2) (HF 2) ++ (wH g (hd 3) (HA 3) (HF 3) ++ (wH g (hd 4) (HA 4) (HF 4) ++ (wH g (hd 5) (HA 5) (HF 5) ++ (wH g (hd 6) (HA 6) (HF 6) ++ (wH g (hd 7) (HA 7) (HF 7) ++ (wH g (hd 8) (HA 8) (HF 8) ++ (wH g (hd 9) (HA 9) (HF 9) ++ ([])))))))))))) := by
  refine Met.ofW (cc := cX2_forget) (maxL := 1) (ret := none) (by decide) rfl ?_
  intro p e s m args below meth c s₁ B hml hv
  obtain ⟨rfl, hsz, hP, hD0, hKK⟩ := hv
  subst hsz
  have hx := B.exec
  have hb := B.bytes
  have hr := B.returns
  have hts := atoms_spec (ws := wsX2_forget) B.pre
  have hown : s.vm.findClass RX2 = some m.cls := findClass_of_methodNamed B.named
  have hlocks := B.notSynchronized
  have hK := hKK.1
  have hD := hD0.self (sz := s.heap.size)
  generalize hZe : va_A (wHi g a0i a1i pf nxi kni ++ (wH g (hd 0) (HA 0) (HF 0) ++ (wH g (hd 1) (HA 1) (HF 1) ++ (wH g (hd 2) (HA 2) (HF 2) ++ (wH g (hd 3) (HA 3) (HF 3) ++ (wH g (hd 4) (HA 4) (HF 4) ++ (wH g (hd 5) (HA 5) (HF 5) ++ (wH g (hd 6) (HA 6) (HF 6) ++ (wH g (hd 7) (HA 7) (HF 7) ++ (wH g (hd 8) (HA 8) (HF 8) ++ (wH g (hd 9) (HA 9) (HF 9) ++ ([])))))))))))) s.heap.size = Z at hD ⊢
  have hZ : ∀ q : Nat, s.heap.size ≤ q → Z q := fun q h => by rw [← hZe]; exact Or.inr h
  have hS : va_S Z s.heap s.heap [] := va_S.rf
  have hP : va_P g.1 vwCl (wHi g a0i a1i pf nxi kni ++ (wH g (hd 0) (HA 0) (HF 0) ++ (wH g (hd 1) (HA 1) (HF 1) ++ (wH g (hd 2) (HA 2) (HF 2) ++ (wH g (hd 3) (HA 3) (HF 3) ++ (wH g (hd 4) (HA 4) (HF 4) ++ (wH g (hd 5) (HA 5) (HF 5) ++ (wH g (hd 6) (HA 6) (HF 6) ++ (wH g (hd 7) (HA 7) (HF 7) ++ (wH g (hd 8) (HA 8) (HF 8) ++ (wH g (hd 9) (HA 9) (HF 9) ++ ([])))))))))))) s.heap := hP
  have hD : va_D Z (wHi g a0i a1i pf nxi kni ++ (wH g (hd 0) (HA 0) (HF 0) ++ (wH g (hd 1) (HA 1) (HF 1) ++ (wH g (hd 2) (HA 2) (HF 2) ++ (wH g (hd 3) (HA 3) (HF 3) ++ (wH g (hd 4) (HA 4) (HF 4) ++ (wH g (hd 5) (HA 5) (HF 5) ++ (wH g (hd 6) (HA 6) (HF 6) ++ (wH g (hd 7) (HA 7) (HF 7) ++ (wH g (hd 8) (HA 8) (HF 8) ++ (wH g (hd 9) (HA 9) (HF 9) ++ ([])))))))))))) := hD
  have hl := lv_entry ([.ref a0i]) (n := 1) (Nat.le_of_ble_eq_true rfl)
  rw [lg_entry_eq]
  generalize (lg_sl ([.ref a0i]) ++ List.replicate (1 - (lg_sl ([.ref a0i])).length) Slot.unset).toArray = ls at hl ⊢
  have hl : lv_has ls 1 [(0, .ref a0i)] := hl
  unfold sX2_forget at hsem
  refine lv_aload_n hx hb dX2_forget_0 rfl (lv_at hl 0 rfl) ?_
  refine lv_iconst (v := 0) hx hb dX2_forget_1 (by decide) ?_
  refine va_put (D := g.1) (ci := 2) (v := .int 0) (ty := .int) (C := RX2) (T := TX2) (N := 3) hx hb hts (fun w h => List.mem_cons_of_mem _ (List.mem_append_right _ h)) tyX2 tyX2_ok nmX2 hown hK hP hD hS 0 rfl rfl 2 (by decide) (hts (.fieldLink RX2 26 "PauseRegions$History" "known" "I") (List.mem_of_getElem? (i := 1) rfl)) (fun _ h9 => h9) rfl (by decide +kernel) rfl rfl (Nat.le_of_ble_eq_true rfl) dX2_forget_2 (fun H locs hP hD hS => ?_)
  obtain ⟨kn1i, ekn1i, hsem⟩ := bd_some hsem
  have hP : va_P g.1 vwCl (wHi g a0i a1i pf nxi kn1i ++ (wH g (hd 0) (HA 0) (HF 0) ++ (wH g (hd 1) (HA 1) (HF 1) ++ (wH g (hd 2) (HA 2) (HF 2) ++ (wH g (hd 3) (HA 3) (HF 3) ++ (wH g (hd 4) (HA 4) (HF 4) ++ (wH g (hd 5) (HA 5) (HF 5) ++ (wH g (hd 6) (HA 6) (HF 6) ++ (wH g (hd 7) (HA 7) (HF 7) ++ (wH g (hd 8) (HA 8) (HF 8) ++ (wH g (hd 9) (HA 9) (HF 9) ++ ([])))))))))))) H := by rw [ekn1i]; exact hP
  have hD : va_D Z (wHi g a0i a1i pf nxi kn1i ++ (wH g (hd 0) (HA 0) (HF 0) ++ (wH g (hd 1) (HA 1) (HF 1) ++ (wH g (hd 2) (HA 2) (HF 2) ++ (wH g (hd 3) (HA 3) (HF 3) ++ (wH g (hd 4) (HA 4) (HF 4) ++ (wH g (hd 5) (HA 5) (HF 5) ++ (wH g (hd 6) (HA 6) (HF 6) ++ (wH g (hd 7) (HA 7) (HF 7) ++ (wH g (hd 8) (HA 8) (HF 8) ++ (wH g (hd 9) (HA 9) (HF 9) ++ ([])))))))))))) := by rw [ekn1i]; exact hD
  have eo := (Option.some.inj hsem).symm.symm
  subst eo
  exact W.vret hx hb hr (fun t ht hW => ⟨⟨(), rfl, trivial, ⟨by rw [ht]; exact hP, hD⟩⟩, hS.F ht⟩) hS.2.2 dX2_forget_5
def sX2_pop (nxi : Int32) (kni : Int32) (HA : Nat → IA) (HFc : Nat → FA) : Option (Int32 × Int32 × (Nat → IA) × (Nat → FA)) :=
  bd (((nxi + 6) - 1) - ((nxi + 6) - 1) / 6 * 6) fun nx1i => bd (kni - 1) fun kn1i => ck nx1i 6 (if nx1i = 0 then ((sX1_becomeLike (HA 0) (HFc 0) (HA 2) (HFc 2)).bind fun z1 => bd (upH HA 0 (z1.1)) fun HA1 => bd (upF HFc 0 z1.2) fun HF1c => some (nx1i, kn1i, HA1, HF1c)) else (if nx1i = 1 then ((sX1_becomeLike (HA 0) (HFc 0) (HA 3) (HFc 3)).bind fun z2 => bd (upH HA 0 (z2.1)) fun HA2 => bd (upF HFc 0 z2.2) fun HF2c => some (nx1i, kn1i, HA2, HF2c)) else (if nx1i = 2 then ((sX1_becomeLike (HA 0) (HFc 0) (HA 4) (HFc 4)).bind fun z3 => bd (upH HA 0 (z3.1)) fun HA3 => bd (upF HFc 0 z3.2) fun HF3c => some (nx1i, kn1i, HA3, HF3c)) else (if nx1i = 3 then ((sX1_becomeLike (HA 0) (HFc 0) (HA 5) (HFc 5)).bind fun z4 => bd (upH HA 0 (z4.1)) fun HA4 => bd (upF HFc 0 z4.2) fun HF4c => some (nx1i, kn1i, HA4, HF4c)) else (if nx1i = 4 then ((sX1_becomeLike (HA 0) (HFc 0) (HA 6) (HFc 6)).bind fun z5 => bd (upH HA 0 (z5.1)) fun HA5 => bd (upF HFc 0 z5.2) fun HF5c => some (nx1i, kn1i, HA5, HF5c)) else (if nx1i = 5 then ((sX1_becomeLike (HA 0) (HFc 0) (HA 7) (HFc 7)).bind fun z6 => bd (upH HA 0 (z6.1)) fun HA6 => bd (upF HFc 0 z6.2) fun HF6c => some (nx1i, kn1i, HA6, HF6c)) else (none)))))))
abbrev rmX2_pop : Room := { frames := 3, cells := 0, slots := 0, locals := 82 }
theorem hdX2_pop : yX2_pop.cls = RX2 ∧ yX2_pop.cls ≠ "java/lang/invoke/MethodHandle" ∧ yX2_pop.cls ≠ "java/lang/invoke/VarHandle" ∧ (parseMethodDescriptor yX2_pop.desc).map (fun d => d.parameters.length) = some 1 := by decide +kernel
set_option maxHeartbeats 8000000 in
set_option maxRecDepth 100000 in
theorem kX2_pop {l : Launch} {g : GG} {sz : Nat} {a0i a1i : Nat} {pf : Nat → Option Nat} {nxi kni : Int32} {hd : Nat → Nat → Nat} {HA : Nat → IA} {HF : Nat → FA} (hpf : ∀ k, k < 6 → pf k = some (hd (2 + k) 0)) {HFc : Nat → FA} (hALH : ALH HF HFc) {b : Int32 × Int32 × (Nat → IA) × (Nat → FA)} (hsem : sX2_pop nxi kni HA HFc = some b) : MetDV l yX2_pop wsX2_pop rmX2_pop g [.ref a0i, .ref (hd 0 0)] (wHi g a0i a1i pf nxi kni ++ (wH g (hd 0) (HA 0) (HF 0) ++ (wH g (hd 1) (HA 1) (HF 1) ++ (wH g (hd 2) (HA 2) (HF 2) ++ (wH g (hd 3) (HA 3) (HF 3) ++ (wH g (hd 4) (HA 4) (HF 4) ++ (wH g (hd 5) (HA 5) (HF 5) ++ (wH g (hd 6) (HA 6) (HF 6) ++ (wH g (hd 7) (HA 7) (HF 7) ++ (wH g (hd 8) (HA 8) (HF 8) ++ (wH g (hd 9) (HA 9) (HF 9) ++ ([])))))))))))) sz (φ := (Nat → FA)) (fun u => ALH u b.2.2.2) (fun u => wHi g a0i a1i pf b.1 b.2.1 ++ (wH g (hd 0) (b.2.2.1 0) (u 0) ++ (wH g (hd 1) (b.2.2.1 1) (u 1) ++ (wH g (hd 2) (b.2.2.1 2) (u 2) ++ (wH g (hd 3) (b.2.2.1 3) (u 3) ++ (wH g (hd 4) (b.2.2.1 4) (u 4) ++ (wH g (hd 5) (b.2.2.1 5) (u 5) ++ (wH g (hd 6) (b.2.2.1 6) (u 6) ++ (wH g (hd 7) (b.2.2.1 7) (u 7) ++ (wH g (hd 8) (b.2.2.1 8) (u 8) ++ (wH g (hd 9) (b.2.2.1 9) (u 9) ++ ([])))))))))))) := by
  refine MetD.ofW (cc := cX2_pop) (maxL := 2) (ret := none) (by decide) rfl ?_
  intro p e s m args below meth c s₁ B hml hv hd0
  obtain ⟨rfl, hsz, hP, hD0, hKK⟩ := hv
  subst hsz
  have hx := B.exec
  have hb := B.bytes
  have hr := B.returns
  have hts := atoms_spec (ws := wsX2_pop) B.pre
  have hown : ∀ d, (s.setDrawn d).vm.findClass RX2 = some m.cls := fun _ => findClass_of_methodNamed B.named
  have hlocks := B.notSynchronized
  have hK : ∀ d, va_K g.1 vwCl (KT g) (s.setDrawn d) := fun d => (hKK.drawn d).1
  have hD := hD0.self (sz := s.heap.size)
  generalize hZe : va_A (wHi g a0i a1i pf nxi kni ++ (wH g (hd 0) (HA 0) (HF 0) ++ (wH g (hd 1) (HA 1) (HF 1) ++ (wH g (hd 2) (HA 2) (HF 2) ++ (wH g (hd 3) (HA 3) (HF 3) ++ (wH g (hd 4) (HA 4) (HF 4) ++ (wH g (hd 5) (HA 5) (HF 5) ++ (wH g (hd 6) (HA 6) (HF 6) ++ (wH g (hd 7) (HA 7) (HF 7) ++ (wH g (hd 8) (HA 8) (HF 8) ++ (wH g (hd 9) (HA 9) (HF 9) ++ ([])))))))))))) s.heap.size = Z at hD ⊢
  have hZ : ∀ q : Nat, s.heap.size ≤ q → Z q := fun q h => by rw [← hZe]; exact Or.inr h
  have hS : va_S Z s.heap s.heap [] := va_S.rf
  have hP : va_P g.1 vwCl (wHi g a0i a1i pf nxi kni ++ (wH g (hd 0) (HA 0) (HF 0) ++ (wH g (hd 1) (HA 1) (HF 1) ++ (wH g (hd 2) (HA 2) (HF 2) ++ (wH g (hd 3) (HA 3) (HF 3) ++ (wH g (hd 4) (HA 4) (HF 4) ++ (wH g (hd 5) (HA 5) (HF 5) ++ (wH g (hd 6) (HA 6) (HF 6) ++ (wH g (hd 7) (HA 7) (HF 7) ++ (wH g (hd 8) (HA 8) (HF 8) ++ (wH g (hd 9) (HA 9) (HF 9) ++ ([])))))))))))) s.heap := hP
  have hD : va_D Z (wHi g a0i a1i pf nxi kni ++ (wH g (hd 0) (HA 0) (HF 0) ++ (wH g (hd 1) (HA 1) (HF 1) ++ (wH g (hd 2) (HA 2) (HF 2) ++ (wH g (hd 3) (HA 3) (HF 3) ++ (wH g (hd 4) (HA 4) (HF 4) ++ (wH g (hd 5) (HA 5) (HF 5) ++ (wH g (hd 6) (HA 6) (HF 6) ++ (wH g (hd 7) (HA 7) (HF 7) ++ (wH g (hd 8) (HA 8) (HF 8) ++ (wH g (hd 9) (HA 9) (HF 9) ++ ([])))))))))))) := hD
  obtain ⟨d, hdr, hdd⟩ : ∃ d, s.drawn.sameBut d lw_cs ∧ s.drawn = d := ⟨_, hd0, rfl⟩
  rw [hdd]
  have hl := lv_entry ([.ref a0i, .ref (hd 0 0)]) (n := 2) (Nat.le_of_ble_eq_true rfl)
  rw [lg_entry_eq]
  generalize (lg_sl ([.ref a0i, .ref (hd 0 0)]) ++ List.replicate (2 - (lg_sl ([.ref a0i, .ref (hd 0 0)])).length) Slot.unset).toArray = ls at hl ⊢
  have hl : lv_has ls 2 [(0, .ref a0i), (1, .ref (hd 0 0))] := hl
  unfold sX2_pop at hsem
  refine lv_aload_n hx hb dX2_pop_0 rfl (lv_at hl 0 rfl) ?_
  refine lv_aload_n hx hb dX2_pop_1 rfl (lv_at hl 0 rfl) ?_
  refine va_get (D := g.1) (ci := 2) (v := .int nxi) (C := RX2) (T := TX2) (N := 3) hx hb (dr_words hts d) (fun w h => List.mem_cons_of_mem _ (List.mem_append_left _ (List.mem_append_left _ (List.mem_append_right _ h)))) (hown d) (hK d) hP 0 rfl rfl 1 (by decide) ((dr_words hts d) (.fieldLink RX2 18 "PauseRegions$History" "next" "I") (List.mem_of_getElem? (i := 1) rfl)) (fun _ h9 => h9) rfl dX2_pop_2 ?_
  refine lv_bipush (v := 6) hx hb dX2_pop_5 (by decide) ?_
  refine lv_iadd hx hb dX2_pop_7 ?_
  refine lv_iconst (v := 1) hx hb dX2_pop_8 (by decide) ?_
  refine lv_isub hx hb dX2_pop_9 ?_
  refine lv_bipush (v := 6) hx hb dX2_pop_10 (by decide) ?_
  refine lv_irem hx hb dX2_pop_12 (by decide) ?_
  refine va_put (D := g.1) (ci := 2) (v := .int (((nxi + 6) - 1) - ((nxi + 6) - 1) / 6 * 6)) (ty := .int) (C := RX2) (T := TX2) (N := 3) hx hb (dr_words hts d) (fun w h => List.mem_cons_of_mem _ (List.mem_append_left _ (List.mem_append_left _ (List.mem_append_right _ h)))) tyX2 tyX2_ok nmX2 (hown d) (hK d) hP hD hS 0 rfl rfl 1 (by decide) ((dr_words hts d) (.fieldLink RX2 18 "PauseRegions$History" "next" "I") (List.mem_of_getElem? (i := 1) rfl)) (fun _ h9 => h9) rfl (by decide +kernel) rfl rfl (Nat.le_of_ble_eq_true rfl) dX2_pop_13 (fun H locs hP hD hS => ?_)
  obtain ⟨nx1i, enx1i, hsem⟩ := bd_some hsem
  have hP : va_P g.1 vwCl (wHi g a0i a1i pf nx1i kni ++ (wH g (hd 0) (HA 0) (HF 0) ++ (wH g (hd 1) (HA 1) (HF 1) ++ (wH g (hd 2) (HA 2) (HF 2) ++ (wH g (hd 3) (HA 3) (HF 3) ++ (wH g (hd 4) (HA 4) (HF 4) ++ (wH g (hd 5) (HA 5) (HF 5) ++ (wH g (hd 6) (HA 6) (HF 6) ++ (wH g (hd 7) (HA 7) (HF 7) ++ (wH g (hd 8) (HA 8) (HF 8) ++ (wH g (hd 9) (HA 9) (HF 9) ++ ([])))))))))))) H := by rw [enx1i]; exact hP
  have hD : va_D Z (wHi g a0i a1i pf nx1i kni ++ (wH g (hd 0) (HA 0) (HF 0) ++ (wH g (hd 1) (HA 1) (HF 1) ++ (wH g (hd 2) (HA 2) (HF 2) ++ (wH g (hd 3) (HA 3) (HF 3) ++ (wH g (hd 4) (HA 4) (HF 4) ++ (wH g (hd 5) (HA 5) (HF 5) ++ (wH g (hd 6) (HA 6) (HF 6) ++ (wH g (hd 7) (HA 7) (HF 7) ++ (wH g (hd 8) (HA 8) (HF 8) ++ (wH g (hd 9) (HA 9) (HF 9) ++ ([])))))))))))) := by rw [enx1i]; exact hD
  refine lv_aload_n hx hb dX2_pop_16 rfl (lv_at hl 0 rfl) ?_
  refine lv_dup hx hb dX2_pop_17 rfl ?_
  refine va_get (D := g.1) (ci := 2) (v := .int kni) (C := RX2) (T := TX2) (N := 3) hx hb (dr_words hts d) (fun w h => List.mem_cons_of_mem _ (List.mem_append_left _ (List.mem_append_left _ (List.mem_append_right _ h)))) (hown d) (hK d) hP 0 rfl rfl 2 (by decide) ((dr_words hts d) (.fieldLink RX2 26 "PauseRegions$History" "known" "I") (List.mem_of_getElem? (i := 2) rfl)) (fun _ h9 => h9) rfl dX2_pop_18 ?_
  refine lv_iconst (v := 1) hx hb dX2_pop_21 (by decide) ?_
  refine lv_isub hx hb dX2_pop_22 ?_
  refine va_put (D := g.1) (ci := 2) (v := .int (kni - 1)) (ty := .int) (C := RX2) (T := TX2) (N := 3) hx hb (dr_words hts d) (fun w h => List.mem_cons_of_mem _ (List.mem_append_left _ (List.mem_append_left _ (List.mem_append_right _ h)))) tyX2 tyX2_ok nmX2 (hown d) (hK d) hP hD hS 0 rfl rfl 2 (by decide) ((dr_words hts d) (.fieldLink RX2 26 "PauseRegions$History" "known" "I") (List.mem_of_getElem? (i := 2) rfl)) (fun _ h9 => h9) rfl (by decide +kernel) rfl rfl (Nat.le_of_ble_eq_true rfl) dX2_pop_23 (fun H locs hP hD hS => ?_)
  obtain ⟨kn1i, ekn1i, hsem⟩ := bd_some hsem
  have hP : va_P g.1 vwCl (wHi g a0i a1i pf nx1i kn1i ++ (wH g (hd 0) (HA 0) (HF 0) ++ (wH g (hd 1) (HA 1) (HF 1) ++ (wH g (hd 2) (HA 2) (HF 2) ++ (wH g (hd 3) (HA 3) (HF 3) ++ (wH g (hd 4) (HA 4) (HF 4) ++ (wH g (hd 5) (HA 5) (HF 5) ++ (wH g (hd 6) (HA 6) (HF 6) ++ (wH g (hd 7) (HA 7) (HF 7) ++ (wH g (hd 8) (HA 8) (HF 8) ++ (wH g (hd 9) (HA 9) (HF 9) ++ ([])))))))))))) H := by rw [ekn1i]; exact hP
  have hD : va_D Z (wHi g a0i a1i pf nx1i kn1i ++ (wH g (hd 0) (HA 0) (HF 0) ++ (wH g (hd 1) (HA 1) (HF 1) ++ (wH g (hd 2) (HA 2) (HF 2) ++ (wH g (hd 3) (HA 3) (HF 3) ++ (wH g (hd 4) (HA 4) (HF 4) ++ (wH g (hd 5) (HA 5) (HF 5) ++ (wH g (hd 6) (HA 6) (HF 6) ++ (wH g (hd 7) (HA 7) (HF 7) ++ (wH g (hd 8) (HA 8) (HF 8) ++ (wH g (hd 9) (HA 9) (HF 9) ++ ([])))))))))))) := by rw [ekn1i]; exact hD
  refine lv_aload_n hx hb dX2_pop_26 rfl (lv_at hl 1 rfl) ?_
  refine lv_aload_n hx hb dX2_pop_27 rfl (lv_at hl 0 rfl) ?_
  refine va_get (D := g.1) (ci := 2) (v := .ref a1i) (C := RX2) (T := TX2) (N := 3) hx hb (dr_words hts d) (fun w h => List.mem_cons_of_mem _ (List.mem_append_left _ (List.mem_append_left _ (List.mem_append_right _ h)))) (hown d) (hK d) hP 0 rfl rfl 0 (by decide) ((dr_words hts d) (.fieldLink RX2 11 "PauseRegions$History" "past" "[LPauseRegions$Heap;") (List.mem_of_getElem? (i := 3) rfl)) (fun _ h9 => h9) rfl dX2_pop_28 ?_
  refine lv_aload_n hx hb dX2_pop_31 rfl (lv_at hl 0 rfl) ?_
  refine va_get (D := g.1) (ci := 2) (v := .int nx1i) (C := RX2) (T := TX2) (N := 3) hx hb (dr_words hts d) (fun w h => List.mem_cons_of_mem _ (List.mem_append_left _ (List.mem_append_left _ (List.mem_append_right _ h)))) (hown d) (hK d) hP 0 rfl rfl 1 (by decide) ((dr_words hts d) (.fieldLink RX2 18 "PauseRegions$History" "next" "I") (List.mem_of_getElem? (i := 1) rfl)) (fun _ h9 => h9) rfl dX2_pop_32 ?_
  obtain ⟨h1, hsem⟩ := ck_some hsem
  refine va_aldq (D := g.1) (C := RX1) hx hb (hK d) hP 1 3 rfl rfl h1 dX2_pop_35 ?_
  by_cases c1 : nx1i = 0
  · rw [if_pos c1] at hsem
    have ej : pf nx1i.toNatClampNeg = some (hd 2 0) := by rw [c1]; exact hpf 0 (by decide)
    refine W.eq (g2 := F0 m 36 ls [.ref (hd 2 0), .ref (hd 0 0)]) (by rw [ej]; rfl) ?_
    obtain ⟨z1, hc1, hsem⟩ := bn_some hsem
    refine tdV (C := RX1) (As := [.ref (hd 2 0)]) (rest := []) hP hD hS hZ (pF2 (wHi g a0i a1i pf nx1i kn1i ++ ([])) (wH g (hd 0) (HA 0) (HF 0)) (wH g (hd 1) (HA 1) (HF 1) ++ ([])) (wH g (hd 2) (HA 2) (HF 2)) (wH g (hd 3) (HA 3) (HF 3) ++ (wH g (hd 4) (HA 4) (HF 4) ++ (wH g (hd 5) (HA 5) (HF 5) ++ (wH g (hd 6) (HA 6) (HF 6) ++ (wH g (hd 7) (HA 7) (HF 7) ++ (wH g (hd 8) (HA 8) (HF 8) ++ (wH g (hd 9) (HA 9) (HF 9) ++ ([]))))))))) hdr ⟨hx, hb, hml, (hown d), (dr_words hts d)⟩ (hKK.drawn d) (cwV 1 (dr_words hts d) gX2_pop_X1_becomeLike rfl rfl rfl hdX1_becomeLike ⟨Nat.le_of_ble_eq_true rfl, Nat.le_of_ble_eq_true rfl⟩) (kX1_becomeLike (l := l) (g := g) (ad := hd 0) (A := (HA 0)) (F := (HF 0)) (Fc := (HFc 0)) (adh := hd 2) (Ah := (HA 2)) (Fh := (HF 2)) (Fhc := (HFc 2)) (hALH 0) (hALH 2) hc1) (va_recv (hK d) hP (ci := 1) (q0 := 2) rfl rfl) rfl hl.1 rfl (Nat.le_of_ble_eq_true rfl) dX2_pop_36 ⟨Nat.zero_le _, Nat.zero_le _⟩ (fun u1 H locs d hpo hP hD hS hdr => ?_)
    obtain ⟨HA1, eHA1, hsem⟩ := bd_some hsem
    obtain ⟨HF1, eHF1⟩ : ∃ z, z = upF HF 0 u1 := ⟨_, rfl⟩
    obtain ⟨HF1c, eHF1c, hsem⟩ := bd_some hsem
    have haHF1 : ALH HF1 HF1c := by rw [eHF1, eHF1c]; exact ALH.up hALH hpo
    have hP : va_P g.1 vwCl (wHi g a0i a1i pf nx1i kn1i ++ (wH g (hd 0) (HA1 0) (HF1 0) ++ (wH g (hd 1) (HA1 1) (HF1 1) ++ (wH g (hd 2) (HA1 2) (HF1 2) ++ (wH g (hd 3) (HA1 3) (HF1 3) ++ (wH g (hd 4) (HA1 4) (HF1 4) ++ (wH g (hd 5) (HA1 5) (HF1 5) ++ (wH g (hd 6) (HA1 6) (HF1 6) ++ (wH g (hd 7) (HA1 7) (HF1 7) ++ (wH g (hd 8) (HA1 8) (HF1 8) ++ (wH g (hd 9) (HA1 9) (HF1 9) ++ ([])))))))))))) H := vaP_perm (pF2 (wHi g a0i a1i pf nx1i kn1i ++ ([])) (wH g (hd 0) (HA1 0) (HF1 0)) (wH g (hd 1) (HA1 1) (HF1 1) ++ ([])) (wH g (hd 2) (HA1 2) (HF1 2)) (wH g (hd 3) (HA1 3) (HF1 3) ++ (wH g (hd 4) (HA1 4) (HF1 4) ++ (wH g (hd 5) (HA1 5) (HF1 5) ++ (wH g (hd 6) (HA1 6) (HF1 6) ++ (wH g (hd 7) (HA1 7) (HF1 7) ++ (wH g (hd 8) (HA1 8) (HF1 8) ++ (wH g (hd 9) (HA1 9) (HF1 9) ++ ([]))))))))).symm (by rw [eHA1, eHF1]; exact hP)
    have hD : va_D Z (wHi g a0i a1i pf nx1i kn1i ++ (wH g (hd 0) (HA1 0) (HF1 0) ++ (wH g (hd 1) (HA1 1) (HF1 1) ++ (wH g (hd 2) (HA1 2) (HF1 2) ++ (wH g (hd 3) (HA1 3) (HF1 3) ++ (wH g (hd 4) (HA1 4) (HF1 4) ++ (wH g (hd 5) (HA1 5) (HF1 5) ++ (wH g (hd 6) (HA1 6) (HF1 6) ++ (wH g (hd 7) (HA1 7) (HF1 7) ++ (wH g (hd 8) (HA1 8) (HF1 8) ++ (wH g (hd 9) (HA1 9) (HF1 9) ++ ([])))))))))))) := vaD_perm (pF2 (wHi g a0i a1i pf nx1i kn1i ++ ([])) (wH g (hd 0) (HA1 0) (HF1 0)) (wH g (hd 1) (HA1 1) (HF1 1) ++ ([])) (wH g (hd 2) (HA1 2) (HF1 2)) (wH g (hd 3) (HA1 3) (HF1 3) ++ (wH g (hd 4) (HA1 4) (HF1 4) ++ (wH g (hd 5) (HA1 5) (HF1 5) ++ (wH g (hd 6) (HA1 6) (HF1 6) ++ (wH g (hd 7) (HA1 7) (HF1 7) ++ (wH g (hd 8) (HA1 8) (HF1 8) ++ (wH g (hd 9) (HA1 9) (HF1 9) ++ ([]))))))))).symm (by rw [eHA1, eHF1]; exact hD)
    have eo := (Option.some.inj hsem).symm.symm
    refine W.endD hdr ?_
    subst eo
    exact W.vret hx hb hr (fun t ht hW => ⟨⟨HF1, rfl, haHF1, ⟨by rw [ht]; exact hP, hD⟩⟩, hS.F ht⟩) hS.2.2 dX2_pop_39
  rw [if_neg c1] at hsem
  by_cases c2 : nx1i = 1
  · rw [if_pos c2] at hsem
    have ej : pf nx1i.toNatClampNeg = some (hd 3 0) := by rw [c2]; exact hpf 1 (by decide)
    refine W.eq (g2 := F0 m 36 ls [.ref (hd 3 0), .ref (hd 0 0)]) (by rw [ej]; rfl) ?_
    obtain ⟨z2, hc2, hsem⟩ := bn_some hsem
    refine tdV (C := RX1) (As := [.ref (hd 3 0)]) (rest := []) hP hD hS hZ (pF2 (wHi g a0i a1i pf nx1i kn1i ++ ([])) (wH g (hd 0) (HA 0) (HF 0)) (wH g (hd 1) (HA 1) (HF 1) ++ (wH g (hd 2) (HA 2) (HF 2) ++ ([]))) (wH g (hd 3) (HA 3) (HF 3)) (wH g (hd 4) (HA 4) (HF 4) ++ (wH g (hd 5) (HA 5) (HF 5) ++ (wH g (hd 6) (HA 6) (HF 6) ++ (wH g (hd 7) (HA 7) (HF 7) ++ (wH g (hd 8) (HA 8) (HF 8) ++ (wH g (hd 9) (HA 9) (HF 9) ++ ([])))))))) hdr ⟨hx, hb, hml, (hown d), (dr_words hts d)⟩ (hKK.drawn d) (cwV 1 (dr_words hts d) gX2_pop_X1_becomeLike rfl rfl rfl hdX1_becomeLike ⟨Nat.le_of_ble_eq_true rfl, Nat.le_of_ble_eq_true rfl⟩) (kX1_becomeLike (l := l) (g := g) (ad := hd 0) (A := (HA 0)) (F := (HF 0)) (Fc := (HFc 0)) (adh := hd 3) (Ah := (HA 3)) (Fh := (HF 3)) (Fhc := (HFc 3)) (hALH 0) (hALH 3) hc2) (va_recv (hK d) hP (ci := 1) (q0 := 2) rfl rfl) rfl hl.1 rfl (Nat.le_of_ble_eq_true rfl) dX2_pop_36 ⟨Nat.zero_le _, Nat.zero_le _⟩ (fun u2 H locs d hpo hP hD hS hdr => ?_)
    obtain ⟨HA2, eHA2, hsem⟩ := bd_some hsem
    obtain ⟨HF2, eHF2⟩ : ∃ z, z = upF HF 0 u2 := ⟨_, rfl⟩
    obtain ⟨HF2c, eHF2c, hsem⟩ := bd_some hsem
    have haHF2 : ALH HF2 HF2c := by rw [eHF2, eHF2c]; exact ALH.up hALH hpo
    have hP : va_P g.1 vwCl (wHi g a0i a1i pf nx1i kn1i ++ (wH g (hd 0) (HA2 0) (HF2 0) ++ (wH g (hd 1) (HA2 1) (HF2 1) ++ (wH g (hd 2) (HA2 2) (HF2 2) ++ (wH g (hd 3) (HA2 3) (HF2 3) ++ (wH g (hd 4) (HA2 4) (HF2 4) ++ (wH g (hd 5) (HA2 5) (HF2 5) ++ (wH g (hd 6) (HA2 6) (HF2 6) ++ (wH g (hd 7) (HA2 7) (HF2 7) ++ (wH g (hd 8) (HA2 8) (HF2 8) ++ (wH g (hd 9) (HA2 9) (HF2 9) ++ ([])))))))))))) H := vaP_perm (pF2 (wHi g a0i a1i pf nx1i kn1i ++ ([])) (wH g (hd 0) (HA2 0) (HF2 0)) (wH g (hd 1) (HA2 1) (HF2 1) ++ (wH g (hd 2) (HA2 2) (HF2 2) ++ ([]))) (wH g (hd 3) (HA2 3) (HF2 3)) (wH g (hd 4) (HA2 4) (HF2 4) ++ (wH g (hd 5) (HA2 5) (HF2 5) ++ (wH g (hd 6) (HA2 6) (HF2 6) ++ (wH g (hd 7) (HA2 7) (HF2 7) ++ (wH g (hd 8) (HA2 8) (HF2 8) ++ (wH g (hd 9) (HA2 9) (HF2 9) ++ ([])))))))).symm (by rw [eHA2, eHF2]; exact hP)
    have hD : va_D Z (wHi g a0i a1i pf nx1i kn1i ++ (wH g (hd 0) (HA2 0) (HF2 0) ++ (wH g (hd 1) (HA2 1) (HF2 1) ++ (wH g (hd 2) (HA2 2) (HF2 2) ++ (wH g (hd 3) (HA2 3) (HF2 3) ++ (wH g (hd 4) (HA2 4) (HF2 4) ++ (wH g (hd 5) (HA2 5) (HF2 5) ++ (wH g (hd 6) (HA2 6) (HF2 6) ++ (wH g (hd 7) (HA2 7) (HF2 7) ++ (wH g (hd 8) (HA2 8) (HF2 8) ++ (wH g (hd 9) (HA2 9) (HF2 9) ++ ([])))))))))))) := vaD_perm (pF2 (wHi g a0i a1i pf nx1i kn1i ++ ([])) (wH g (hd 0) (HA2 0) (HF2 0)) (wH g (hd 1) (HA2 1) (HF2 1) ++ (wH g (hd 2) (HA2 2) (HF2 2) ++ ([]))) (wH g (hd 3) (HA2 3) (HF2 3)) (wH g (hd 4) (HA2 4) (HF2 4) ++ (wH g (hd 5) (HA2 5) (HF2 5) ++ (wH g (hd 6) (HA2 6) (HF2 6) ++ (wH g (hd 7) (HA2 7) (HF2 7) ++ (wH g (hd 8) (HA2 8) (HF2 8) ++ (wH g (hd 9) (HA2 9) (HF2 9) ++ ([])))))))).symm (by rw [eHA2, eHF2]; exact hD)
    have eo := (Option.some.inj hsem).symm.symm
    refine W.endD hdr ?_
    subst eo
    exact W.vret hx hb hr (fun t ht hW => ⟨⟨HF2, rfl, haHF2, ⟨by rw [ht]; exact hP, hD⟩⟩, hS.F ht⟩) hS.2.2 dX2_pop_39
  rw [if_neg c2] at hsem
  by_cases c3 : nx1i = 2
  · rw [if_pos c3] at hsem
    have ej : pf nx1i.toNatClampNeg = some (hd 4 0) := by rw [c3]; exact hpf 2 (by decide)
    refine W.eq (g2 := F0 m 36 ls [.ref (hd 4 0), .ref (hd 0 0)]) (by rw [ej]; rfl) ?_
    obtain ⟨z3, hc3, hsem⟩ := bn_some hsem
    refine tdV (C := RX1) (As := [.ref (hd 4 0)]) (rest := []) hP hD hS hZ (pF2 (wHi g a0i a1i pf nx1i kn1i ++ ([])) (wH g (hd 0) (HA 0) (HF 0)) (wH g (hd 1) (HA 1) (HF 1) ++ (wH g (hd 2) (HA 2) (HF 2) ++ (wH g (hd 3) (HA 3) (HF 3) ++ ([])))) (wH g (hd 4) (HA 4) (HF 4)) (wH g (hd 5) (HA 5) (HF 5) ++ (wH g (hd 6) (HA 6) (HF 6) ++ (wH g (hd 7) (HA 7) (HF 7) ++ (wH g (hd 8) (HA 8) (HF 8) ++ (wH g (hd 9) (HA 9) (HF 9) ++ ([]))))))) hdr ⟨hx, hb, hml, (hown d), (dr_words hts d)⟩ (hKK.drawn d) (cwV 1 (dr_words hts d) gX2_pop_X1_becomeLike rfl rfl rfl hdX1_becomeLike ⟨Nat.le_of_ble_eq_true rfl, Nat.le_of_ble_eq_true rfl⟩) (kX1_becomeLike (l := l) (g := g) (ad := hd 0) (A := (HA 0)) (F := (HF 0)) (Fc := (HFc 0)) (adh := hd 4) (Ah := (HA 4)) (Fh := (HF 4)) (Fhc := (HFc 4)) (hALH 0) (hALH 4) hc3) (va_recv (hK d) hP (ci := 1) (q0 := 2) rfl rfl) rfl hl.1 rfl (Nat.le_of_ble_eq_true rfl) dX2_pop_36 ⟨Nat.zero_le _, Nat.zero_le _⟩ (fun u3 H locs d hpo hP hD hS hdr => ?_)
    obtain ⟨HA3, eHA3, hsem⟩ := bd_some hsem
    obtain ⟨HF3, eHF3⟩ : ∃ z, z = upF HF 0 u3 := ⟨_, rfl⟩
    obtain ⟨HF3c, eHF3c, hsem⟩ := bd_some hsem
    have haHF3 : ALH HF3 HF3c := by rw [eHF3, eHF3c]; exact ALH.up hALH hpo
    have hP : va_P g.1 vwCl (wHi g a0i a1i pf nx1i kn1i ++ (wH g (hd 0) (HA3 0) (HF3 0) ++ (wH g (hd 1) (HA3 1) (HF3 1) ++ (wH g (hd 2) (HA3 2) (HF3 2) ++ (wH g (hd 3) (HA3 3) (HF3 3) ++ (wH g (hd 4) (HA3 4) (HF3 4) ++ (wH g (hd 5) (HA3 5) (HF3 5) ++ (wH g (hd 6) (HA3 6) (HF3 6) ++ (wH g (hd 7) (HA3 7) (HF3 7) ++ (wH g (hd 8) (HA3 8) (HF3 8) ++ (wH g (hd 9) (HA3 9) (HF3 9) ++ ([])))))))))))) H := vaP_perm (pF2 (wHi g a0i a1i pf nx1i kn1i ++ ([])) (wH g (hd 0) (HA3 0) (HF3 0)) (wH g (hd 1) (HA3 1) (HF3 1) ++ (wH g (hd 2) (HA3 2) (HF3 2) ++ (wH g (hd 3) (HA3 3) (HF3 3) ++ ([])))) (wH g (hd 4) (HA3 4) (HF3 4)) (wH g (hd 5) (HA3 5) (HF3 5) ++ (wH g (hd 6) (HA3 6) (HF3 6) ++ (wH g (hd 7) (HA3 7) (HF3 7) ++ (wH g (hd 8) (HA3 8) (HF3 8) ++ (wH g (hd 9) (HA3 9) (HF3 9) ++ ([]))))))).symm (by rw [eHA3, eHF3]; exact hP)
    have hD : va_D Z (wHi g a0i a1i pf nx1i kn1i ++ (wH g (hd 0) (HA3 0) (HF3 0) ++ (wH g (hd 1) (HA3 1) (HF3 1) ++ (wH g (hd 2) (HA3 2) (HF3 2) ++ (wH g (hd 3) (HA3 3) (HF3 3) ++ (wH g (hd 4) (HA3 4) (HF3 4) ++ (wH g (hd 5) (HA3 5) (HF3 5) ++ (wH g (hd 6) (HA3 6) (HF3 6) ++ (wH g (hd 7) (HA3 7) (HF3 7) ++ (wH g (hd 8) (HA3 8) (HF3 8) ++ (wH g (hd 9) (HA3 9) (HF3 9) ++ ([])))))))))))) := vaD_perm (pF2 (wHi g a0i a1i pf nx1i kn1i ++ ([])) (wH g (hd 0) (HA3 0) (HF3 0)) (wH g (hd 1) (HA3 1) (HF3 1) ++ (wH g (hd 2) (HA3 2) (HF3 2) ++ (wH g (hd 3) (HA3 3) (HF3 3) ++ ([])))) (wH g (hd 4) (HA3 4) (HF3 4)) (wH g (hd 5) (HA3 5) (HF3 5) ++ (wH g (hd 6) (HA3 6) (HF3 6) ++ (wH g (hd 7) (HA3 7) (HF3 7) ++ (wH g (hd 8) (HA3 8) (HF3 8) ++ (wH g (hd 9) (HA3 9) (HF3 9) ++ ([]))))))).symm (by rw [eHA3, eHF3]; exact hD)
    have eo := (Option.some.inj hsem).symm.symm
    refine W.endD hdr ?_
    subst eo
    exact W.vret hx hb hr (fun t ht hW => ⟨⟨HF3, rfl, haHF3, ⟨by rw [ht]; exact hP, hD⟩⟩, hS.F ht⟩) hS.2.2 dX2_pop_39
  rw [if_neg c3] at hsem
  by_cases c4 : nx1i = 3
  · rw [if_pos c4] at hsem
    have ej : pf nx1i.toNatClampNeg = some (hd 5 0) := by rw [c4]; exact hpf 3 (by decide)
    refine W.eq (g2 := F0 m 36 ls [.ref (hd 5 0), .ref (hd 0 0)]) (by rw [ej]; rfl) ?_
    obtain ⟨z4, hc4, hsem⟩ := bn_some hsem
    refine tdV (C := RX1) (As := [.ref (hd 5 0)]) (rest := []) hP hD hS hZ (pF2 (wHi g a0i a1i pf nx1i kn1i ++ ([])) (wH g (hd 0) (HA 0) (HF 0)) (wH g (hd 1) (HA 1) (HF 1) ++ (wH g (hd 2) (HA 2) (HF 2) ++ (wH g (hd 3) (HA 3) (HF 3) ++ (wH g (hd 4) (HA 4) (HF 4) ++ ([]))))) (wH g (hd 5) (HA 5) (HF 5)) (wH g (hd 6) (HA 6) (HF 6) ++ (wH g (hd 7) (HA 7) (HF 7) ++ (wH g (hd 8) (HA 8) (HF 8) ++ (wH g (hd 9) (HA 9) (HF 9) ++ ([])))))) hdr ⟨hx, hb, hml, (hown d), (dr_words hts d)⟩ (hKK.drawn d) (cwV 1 (dr_words hts d) gX2_pop_X1_becomeLike rfl rfl rfl hdX1_becomeLike ⟨Nat.le_of_ble_eq_true rfl, Nat.le_of_ble_eq_true rfl⟩) (kX1_becomeLike (l := l) (g := g) (ad := hd 0) (A := (HA 0)) (F := (HF 0)) (Fc := (HFc 0)) (adh := hd 5) (Ah := (HA 5)) (Fh := (HF 5)) (Fhc := (HFc 5)) (hALH 0) (hALH 5) hc4) (va_recv (hK d) hP (ci := 1) (q0 := 2) rfl rfl) rfl hl.1 rfl (Nat.le_of_ble_eq_true rfl) dX2_pop_36 ⟨Nat.zero_le _, Nat.zero_le _⟩ (fun u4 H locs d hpo hP hD hS hdr => ?_)
    obtain ⟨HA4, eHA4, hsem⟩ := bd_some hsem
    obtain ⟨HF4, eHF4⟩ : ∃ z, z = upF HF 0 u4 := ⟨_, rfl⟩
    obtain ⟨HF4c, eHF4c, hsem⟩ := bd_some hsem
    have haHF4 : ALH HF4 HF4c := by rw [eHF4, eHF4c]; exact ALH.up hALH hpo
    have hP : va_P g.1 vwCl (wHi g a0i a1i pf nx1i kn1i ++ (wH g (hd 0) (HA4 0) (HF4 0) ++ (wH g (hd 1) (HA4 1) (HF4 1) ++ (wH g (hd 2) (HA4 2) (HF4 2) ++ (wH g (hd 3) (HA4 3) (HF4 3) ++ (wH g (hd 4) (HA4 4) (HF4 4) ++ (wH g (hd 5) (HA4 5) (HF4 5) ++ (wH g (hd 6) (HA4 6) (HF4 6) ++ (wH g (hd 7) (HA4 7) (HF4 7) ++ (wH g (hd 8) (HA4 8) (HF4 8) ++ (wH g (hd 9) (HA4 9) (HF4 9) ++ ([])))))))))))) H := vaP_perm (pF2 (wHi g a0i a1i pf nx1i kn1i ++ ([])) (wH g (hd 0) (HA4 0) (HF4 0)) (wH g (hd 1) (HA4 1) (HF4 1) ++ (wH g (hd 2) (HA4 2) (HF4 2) ++ (wH g (hd 3) (HA4 3) (HF4 3) ++ (wH g (hd 4) (HA4 4) (HF4 4) ++ ([]))))) (wH g (hd 5) (HA4 5) (HF4 5)) (wH g (hd 6) (HA4 6) (HF4 6) ++ (wH g (hd 7) (HA4 7) (HF4 7) ++ (wH g (hd 8) (HA4 8) (HF4 8) ++ (wH g (hd 9) (HA4 9) (HF4 9) ++ ([])))))).symm (by rw [eHA4, eHF4]; exact hP)
    have hD : va_D Z (wHi g a0i a1i pf nx1i kn1i ++ (wH g (hd 0) (HA4 0) (HF4 0) ++ (wH g (hd 1) (HA4 1) (HF4 1) ++ (wH g (hd 2) (HA4 2) (HF4 2) ++ (wH g (hd 3) (HA4 3) (HF4 3) ++ (wH g (hd 4) (HA4 4) (HF4 4) ++ (wH g (hd 5) (HA4 5) (HF4 5) ++ (wH g (hd 6) (HA4 6) (HF4 6) ++ (wH g (hd 7) (HA4 7) (HF4 7) ++ (wH g (hd 8) (HA4 8) (HF4 8) ++ (wH g (hd 9) (HA4 9) (HF4 9) ++ ([])))))))))))) := vaD_perm (pF2 (wHi g a0i a1i pf nx1i kn1i ++ ([])) (wH g (hd 0) (HA4 0) (HF4 0)) (wH g (hd 1) (HA4 1) (HF4 1) ++ (wH g (hd 2) (HA4 2) (HF4 2) ++ (wH g (hd 3) (HA4 3) (HF4 3) ++ (wH g (hd 4) (HA4 4) (HF4 4) ++ ([]))))) (wH g (hd 5) (HA4 5) (HF4 5)) (wH g (hd 6) (HA4 6) (HF4 6) ++ (wH g (hd 7) (HA4 7) (HF4 7) ++ (wH g (hd 8) (HA4 8) (HF4 8) ++ (wH g (hd 9) (HA4 9) (HF4 9) ++ ([])))))).symm (by rw [eHA4, eHF4]; exact hD)
    have eo := (Option.some.inj hsem).symm.symm
    refine W.endD hdr ?_
    subst eo
    exact W.vret hx hb hr (fun t ht hW => ⟨⟨HF4, rfl, haHF4, ⟨by rw [ht]; exact hP, hD⟩⟩, hS.F ht⟩) hS.2.2 dX2_pop_39
  rw [if_neg c4] at hsem
  by_cases c5 : nx1i = 4
  · rw [if_pos c5] at hsem
    have ej : pf nx1i.toNatClampNeg = some (hd 6 0) := by rw [c5]; exact hpf 4 (by decide)
    refine W.eq (g2 := F0 m 36 ls [.ref (hd 6 0), .ref (hd 0 0)]) (by rw [ej]; rfl) ?_
    obtain ⟨z5, hc5, hsem⟩ := bn_some hsem
    refine tdV (C := RX1) (As := [.ref (hd 6 0)]) (rest := []) hP hD hS hZ (pF2 (wHi g a0i a1i pf nx1i kn1i ++ ([])) (wH g (hd 0) (HA 0) (HF 0)) (wH g (hd 1) (HA 1) (HF 1) ++ (wH g (hd 2) (HA 2) (HF 2) ++ (wH g (hd 3) (HA 3) (HF 3) ++ (wH g (hd 4) (HA 4) (HF 4) ++ (wH g (hd 5) (HA 5) (HF 5) ++ ([])))))) (wH g (hd 6) (HA 6) (HF 6)) (wH g (hd 7) (HA 7) (HF 7) ++ (wH g (hd 8) (HA 8) (HF 8) ++ (wH g (hd 9) (HA 9) (HF 9) ++ ([]))))) hdr ⟨hx, hb, hml, (hown d), (dr_words hts d)⟩ (hKK.drawn d) (cwV 1 (dr_words hts d) gX2_pop_X1_becomeLike rfl rfl rfl hdX1_becomeLike ⟨Nat.le_of_ble_eq_true rfl, Nat.le_of_ble_eq_true rfl⟩) (kX1_becomeLike (l := l) (g := g) (ad := hd 0) (A := (HA 0)) (F := (HF 0)) (Fc := (HFc 0)) (adh := hd 6) (Ah := (HA 6)) (Fh := (HF 6)) (Fhc := (HFc 6)) (hALH 0) (hALH 6) hc5) (va_recv (hK d) hP (ci := 1) (q0 := 2) rfl rfl) rfl hl.1 rfl (Nat.le_of_ble_eq_true rfl) dX2_pop_36 ⟨Nat.zero_le _, Nat.zero_le _⟩ (fun u5 H locs d hpo hP hD hS hdr => ?_)
    obtain ⟨HA5, eHA5, hsem⟩ := bd_some hsem
    obtain ⟨HF5, eHF5⟩ : ∃ z, z = upF HF 0 u5 := ⟨_, rfl⟩
    obtain ⟨HF5c, eHF5c, hsem⟩ := bd_some hsem
    have haHF5 : ALH HF5 HF5c := by rw [eHF5, eHF5c]; exact ALH.up hALH hpo
    have hP : va_P g.1 vwCl (wHi g a0i a1i pf nx1i kn1i ++ (wH g (hd 0) (HA5 0) (HF5 0) ++ (wH g (hd 1) (HA5 1) (HF5 1) ++ (wH g (hd 2) (HA5 2) (HF5 2) ++ (wH g (hd 3) (HA5 3) (HF5 3) ++ (wH g (hd 4) (HA5 4) (HF5 4) ++ (wH g (hd 5) (HA5 5) (HF5 5) ++ (wH g (hd 6) (HA5 6) (HF5 6) ++ (wH g (hd 7) (HA5 7) (HF5 7) ++ (wH g (hd 8) (HA5 8) (HF5 8) ++ (wH g (hd 9) (HA5 9) (HF5 9) ++ ([])))))))))))) H := vaP_perm (pF2 (wHi g a0i a1i pf nx1i kn1i ++ ([])) (wH g (hd 0) (HA5 0) (HF5 0)) (wH g (hd 1) (HA5 1) (HF5 1) ++ (wH g (hd 2) (HA5 2) (HF5 2) ++ (wH g (hd 3) (HA5 3) (HF5 3) ++ (wH g (hd 4) (HA5 4) (HF5 4) ++ (wH g (hd 5) (HA5 5) (HF5 5) ++ ([])))))) (wH g (hd 6) (HA5 6) (HF5 6)) (wH g (hd 7) (HA5 7) (HF5 7) ++ (wH g (hd 8) (HA5 8) (HF5 8) ++ (wH g (hd 9) (HA5 9) (HF5 9) ++ ([]))))).symm (by rw [eHA5, eHF5]; exact hP)
    have hD : va_D Z (wHi g a0i a1i pf nx1i kn1i ++ (wH g (hd 0) (HA5 0) (HF5 0) ++ (wH g (hd 1) (HA5 1) (HF5 1) ++ (wH g (hd 2) (HA5 2) (HF5 2) ++ (wH g (hd 3) (HA5 3) (HF5 3) ++ (wH g (hd 4) (HA5 4) (HF5 4) ++ (wH g (hd 5) (HA5 5) (HF5 5) ++ (wH g (hd 6) (HA5 6) (HF5 6) ++ (wH g (hd 7) (HA5 7) (HF5 7) ++ (wH g (hd 8) (HA5 8) (HF5 8) ++ (wH g (hd 9) (HA5 9) (HF5 9) ++ ([])))))))))))) := vaD_perm (pF2 (wHi g a0i a1i pf nx1i kn1i ++ ([])) (wH g (hd 0) (HA5 0) (HF5 0)) (wH g (hd 1) (HA5 1) (HF5 1) ++ (wH g (hd 2) (HA5 2) (HF5 2) ++ (wH g (hd 3) (HA5 3) (HF5 3) ++ (wH g (hd 4) (HA5 4) (HF5 4) ++ (wH g (hd 5) (HA5 5) (HF5 5) ++ ([])))))) (wH g (hd 6) (HA5 6) (HF5 6)) (wH g (hd 7) (HA5 7) (HF5 7) ++ (wH g (hd 8) (HA5 8) (HF5 8) ++ (wH g (hd 9) (HA5 9) (HF5 9) ++ ([]))))).symm (by rw [eHA5, eHF5]; exact hD)
    have eo := (Option.some.inj hsem).symm.symm
    refine W.endD hdr ?_
    subst eo
    exact W.vret hx hb hr (fun t ht hW => ⟨⟨HF5, rfl, haHF5, ⟨by rw [ht]; exact hP, hD⟩⟩, hS.F ht⟩) hS.2.2 dX2_pop_39
  rw [if_neg c5] at hsem
  by_cases c6 : nx1i = 5
  · rw [if_pos c6] at hsem
    have ej : pf nx1i.toNatClampNeg = some (hd 7 0) := by rw [c6]; exact hpf 5 (by decide)
    refine W.eq (g2 := F0 m 36 ls [.ref (hd 7 0), .ref (hd 0 0)]) (by rw [ej]; rfl) ?_
    obtain ⟨z6, hc6, hsem⟩ := bn_some hsem
    refine tdV (C := RX1) (As := [.ref (hd 7 0)]) (rest := []) hP hD hS hZ (pF2 (wHi g a0i a1i pf nx1i kn1i ++ ([])) (wH g (hd 0) (HA 0) (HF 0)) (wH g (hd 1) (HA 1) (HF 1) ++ (wH g (hd 2) (HA 2) (HF 2) ++ (wH g (hd 3) (HA 3) (HF 3) ++ (wH g (hd 4) (HA 4) (HF 4) ++ (wH g (hd 5) (HA 5) (HF 5) ++ (wH g (hd 6) (HA 6) (HF 6) ++ ([]))))))) (wH g (hd 7) (HA 7) (HF 7)) (wH g (hd 8) (HA 8) (HF 8) ++ (wH g (hd 9) (HA 9) (HF 9) ++ ([])))) hdr ⟨hx, hb, hml, (hown d), (dr_words hts d)⟩ (hKK.drawn d) (cwV 1 (dr_words hts d) gX2_pop_X1_becomeLike rfl rfl rfl hdX1_becomeLike ⟨Nat.le_of_ble_eq_true rfl, Nat.le_of_ble_eq_true rfl⟩) (kX1_becomeLike (l := l) (g := g) (ad := hd 0) (A := (HA 0)) (F := (HF 0)) (Fc := (HFc 0)) (adh := hd 7) (Ah := (HA 7)) (Fh := (HF 7)) (Fhc := (HFc 7)) (hALH 0) (hALH 7) hc6) (va_recv (hK d) hP (ci := 1) (q0 := 2) rfl rfl) rfl hl.1 rfl (Nat.le_of_ble_eq_true rfl) dX2_pop_36 ⟨Nat.zero_le _, Nat.zero_le _⟩ (fun u6 H locs d hpo hP hD hS hdr => ?_)
    obtain ⟨HA6, eHA6, hsem⟩ := bd_some hsem
    obtain ⟨HF6, eHF6⟩ : ∃ z, z = upF HF 0 u6 := ⟨_, rfl⟩
    obtain ⟨HF6c, eHF6c, hsem⟩ := bd_some hsem
    have haHF6 : ALH HF6 HF6c := by rw [eHF6, eHF6c]; exact ALH.up hALH hpo
    have hP : va_P g.1 vwCl (wHi g a0i a1i pf nx1i kn1i ++ (wH g (hd 0) (HA6 0) (HF6 0) ++ (wH g (hd 1) (HA6 1) (HF6 1) ++ (wH g (hd 2) (HA6 2) (HF6 2) ++ (wH g (hd 3) (HA6 3) (HF6 3) ++ (wH g (hd 4) (HA6 4) (HF6 4) ++ (wH g (hd 5) (HA6 5) (HF6 5) ++ (wH g (hd 6) (HA6 6) (HF6 6) ++ (wH g (hd 7) (HA6 7) (HF6 7) ++ (wH g (hd 8) (HA6 8) (HF6 8) ++ (wH g (hd 9) (HA6 9) (HF6 9) ++ ([])))))))))))) H := vaP_perm (pF2 (wHi g a0i a1i pf nx1i kn1i ++ ([])) (wH g (hd 0) (HA6 0) (HF6 0)) (wH g (hd 1) (HA6 1) (HF6 1) ++ (wH g (hd 2) (HA6 2) (HF6 2) ++ (wH g (hd 3) (HA6 3) (HF6 3) ++ (wH g (hd 4) (HA6 4) (HF6 4) ++ (wH g (hd 5) (HA6 5) (HF6 5) ++ (wH g (hd 6) (HA6 6) (HF6 6) ++ ([]))))))) (wH g (hd 7) (HA6 7) (HF6 7)) (wH g (hd 8) (HA6 8) (HF6 8) ++ (wH g (hd 9) (HA6 9) (HF6 9) ++ ([])))).symm (by rw [eHA6, eHF6]; exact hP)
    have hD : va_D Z (wHi g a0i a1i pf nx1i kn1i ++ (wH g (hd 0) (HA6 0) (HF6 0) ++ (wH g (hd 1) (HA6 1) (HF6 1) ++ (wH g (hd 2) (HA6 2) (HF6 2) ++ (wH g (hd 3) (HA6 3) (HF6 3) ++ (wH g (hd 4) (HA6 4) (HF6 4) ++ (wH g (hd 5) (HA6 5) (HF6 5) ++ (wH g (hd 6) (HA6 6) (HF6 6) ++ (wH g (hd 7) (HA6 7) (HF6 7) ++ (wH g (hd 8) (HA6 8) (HF6 8) ++ (wH g (hd 9) (HA6 9) (HF6 9) ++ ([])))))))))))) := vaD_perm (pF2 (wHi g a0i a1i pf nx1i kn1i ++ ([])) (wH g (hd 0) (HA6 0) (HF6 0)) (wH g (hd 1) (HA6 1) (HF6 1) ++ (wH g (hd 2) (HA6 2) (HF6 2) ++ (wH g (hd 3) (HA6 3) (HF6 3) ++ (wH g (hd 4) (HA6 4) (HF6 4) ++ (wH g (hd 5) (HA6 5) (HF6 5) ++ (wH g (hd 6) (HA6 6) (HF6 6) ++ ([]))))))) (wH g (hd 7) (HA6 7) (HF6 7)) (wH g (hd 8) (HA6 8) (HF6 8) ++ (wH g (hd 9) (HA6 9) (HF6 9) ++ ([])))).symm (by rw [eHA6, eHF6]; exact hD)
    have eo := (Option.some.inj hsem).symm.symm
    refine W.endD hdr ?_
    subst eo
    exact W.vret hx hb hr (fun t ht hW => ⟨⟨HF6, rfl, haHF6, ⟨by rw [ht]; exact hP, hD⟩⟩, hS.F ht⟩) hS.2.2 dX2_pop_39
  rw [if_neg c6] at hsem
  cases hsem
def sX2_push (nxi : Int32) (kni : Int32) (HA : Nat → IA) (HFc : Nat → FA) : Option (Int32 × Int32 × (Nat → IA) × (Nat → FA)) :=
  ck nxi 6 (if nxi = 0 then ((sX1_becomeLike (HA 2) (HFc 2) (HA 0) (HFc 0)).bind fun z1 => bd (upH HA 2 (z1.1)) fun HA1 => bd (upF HFc 2 z1.2) fun HF1c => bd ((nxi + 1) - (nxi + 1) / 6 * 6) fun nx1i => bd (if 6 < (kni + 1) then 6 else (kni + 1)) fun kn1i => some (nx1i, kn1i, HA1, HF1c)) else (if nxi = 1 then ((sX1_becomeLike (HA 3) (HFc 3) (HA 0) (HFc 0)).bind fun z2 => bd (upH HA 3 (z2.1)) fun HA2 => bd (upF HFc 3 z2.2) fun HF2c => bd ((nxi + 1) - (nxi + 1) / 6 * 6) fun nx2i => bd (if 6 < (kni + 1) then 6 else (kni + 1)) fun kn2i => some (nx2i, kn2i, HA2, HF2c)) else (if nxi = 2 then ((sX1_becomeLike (HA 4) (HFc 4) (HA 0) (HFc 0)).bind fun z3 => bd (upH HA 4 (z3.1)) fun HA3 => bd (upF HFc 4 z3.2) fun HF3c => bd ((nxi + 1) - (nxi + 1) / 6 * 6) fun nx3i => bd (if 6 < (kni + 1) then 6 else (kni + 1)) fun kn3i => some (nx3i, kn3i, HA3, HF3c)) else (if nxi = 3 then ((sX1_becomeLike (HA 5) (HFc 5) (HA 0) (HFc 0)).bind fun z4 => bd (upH HA 5 (z4.1)) fun HA4 => bd (upF HFc 5 z4.2) fun HF4c => bd ((nxi + 1) - (nxi + 1) / 6 * 6) fun nx4i => bd (if 6 < (kni + 1) then 6 else (kni + 1)) fun kn4i => some (nx4i, kn4i, HA4, HF4c)) else (if nxi = 4 then ((sX1_becomeLike (HA 6) (HFc 6) (HA 0) (HFc 0)).bind fun z5 => bd (upH HA 6 (z5.1)) fun HA5 => bd (upF HFc 6 z5.2) fun HF5c => bd ((nxi + 1) - (nxi + 1) / 6 * 6) fun nx5i => bd (if 6 < (kni + 1) then 6 else (kni + 1)) fun kn5i => some (nx5i, kn5i, HA5, HF5c)) else (if nxi = 5 then ((sX1_becomeLike (HA 7) (HFc 7) (HA 0) (HFc 0)).bind fun z6 => bd (upH HA 7 (z6.1)) fun HA6 => bd (upF HFc 7 z6.2) fun HF6c => bd ((nxi + 1) - (nxi + 1) / 6 * 6) fun nx6i => bd (if 6 < (kni + 1) then 6 else (kni + 1)) fun kn6i => some (nx6i, kn6i, HA6, HF6c)) else (none)))))))
abbrev rmX2_push : Room := { frames := 3, cells := 0, slots := 0, locals := 82 }
theorem hdX2_push : yX2_push.cls = RX2 ∧ yX2_push.cls ≠ "java/lang/invoke/MethodHandle" ∧ yX2_push.cls ≠ "java/lang/invoke/VarHandle" ∧ (parseMethodDescriptor yX2_push.desc).map (fun d => d.parameters.length) = some 1 := by decide +kernel
set_option maxHeartbeats 8000000 in
set_option maxRecDepth 100000 in
theorem kX2_push {l : Launch} {g : GG} {sz : Nat} {a0i a1i : Nat} {pf : Nat → Option Nat} {nxi kni : Int32} {hd : Nat → Nat → Nat} {HA : Nat → IA} {HF : Nat → FA} (hpf : ∀ k, k < 6 → pf k = some (hd (2 + k) 0)) {HFc : Nat → FA} (hALH : ALH HF HFc) {b : Int32 × Int32 × (Nat → IA) × (Nat → FA)} (hsem : sX2_push nxi kni HA HFc = some b) : MetDV l yX2_push wsX2_push rmX2_push g [.ref a0i, .ref (hd 0 0)] (wHi g a0i a1i pf nxi kni ++ (wH g (hd 0) (HA 0) (HF 0) ++ (wH g (hd 1) (HA 1) (HF 1) ++ (wH g (hd 2) (HA 2) (HF 2) ++ (wH g (hd 3) (HA 3) (HF 3) ++ (wH g (hd 4) (HA 4) (HF 4) ++ (wH g (hd 5) (HA 5) (HF 5) ++ (wH g (hd 6) (HA 6) (HF 6) ++ (wH g (hd 7) (HA 7) (HF 7) ++ (wH g (hd 8) (HA 8) (HF 8) ++ (wH g (hd 9) (HA 9) (HF 9) ++ ([])))))))))))) sz (φ := (Nat → FA)) (fun u => ALH u b.2.2.2) (fun u => wHi g a0i a1i pf b.1 b.2.1 ++ (wH g (hd 0) (b.2.2.1 0) (u 0) ++ (wH g (hd 1) (b.2.2.1 1) (u 1) ++ (wH g (hd 2) (b.2.2.1 2) (u 2) ++ (wH g (hd 3) (b.2.2.1 3) (u 3) ++ (wH g (hd 4) (b.2.2.1 4) (u 4) ++ (wH g (hd 5) (b.2.2.1 5) (u 5) ++ (wH g (hd 6) (b.2.2.1 6) (u 6) ++ (wH g (hd 7) (b.2.2.1 7) (u 7) ++ (wH g (hd 8) (b.2.2.1 8) (u 8) ++ (wH g (hd 9) (b.2.2.1 9) (u 9) ++ ([])))))))))))) := by
  refine MetD.ofW (cc := cX2_push) (maxL := 2) (ret := none) (by decide) rfl ?_
  intro p e s m args below meth c s₁ B hml hv hd0
  obtain ⟨rfl, hsz, hP, hD0, hKK⟩ := hv
  subst hsz
  have hx := B.exec
  have hb := B.bytes
  have hr := B.returns
  have hts := atoms_spec (ws := wsX2_push) B.pre
  have hown : ∀ d, (s.setDrawn d).vm.findClass RX2 = some m.cls := fun _ => findClass_of_methodNamed B.named
  have hlocks := B.notSynchronized
  have hK : ∀ d, va_K g.1 vwCl (KT g) (s.setDrawn d) := fun d => (hKK.drawn d).1
  have hD := hD0.self (sz := s.heap.size)
  generalize hZe : va_A (wHi g a0i a1i pf nxi kni ++ (wH g (hd 0) (HA 0) (HF 0) ++ (wH g (hd 1) (HA 1) (HF 1) ++ (wH g (hd 2) (HA 2) (HF 2) ++ (wH g (hd 3) (HA 3) (HF 3) ++ (wH g (hd 4) (HA 4) (HF 4) ++ (wH g (hd 5) (HA 5) (HF 5) ++ (wH g (hd 6) (HA 6) (HF 6) ++ (wH g (hd 7) (HA 7) (HF 7) ++ (wH g (hd 8) (HA 8) (HF 8) ++ (wH g (hd 9) (HA 9) (HF 9) ++ ([])))))))))))) s.heap.size = Z at hD ⊢
  have hZ : ∀ q : Nat, s.heap.size ≤ q → Z q := fun q h => by rw [← hZe]; exact Or.inr h
  have hS : va_S Z s.heap s.heap [] := va_S.rf
  have hP : va_P g.1 vwCl (wHi g a0i a1i pf nxi kni ++ (wH g (hd 0) (HA 0) (HF 0) ++ (wH g (hd 1) (HA 1) (HF 1) ++ (wH g (hd 2) (HA 2) (HF 2) ++ (wH g (hd 3) (HA 3) (HF 3) ++ (wH g (hd 4) (HA 4) (HF 4) ++ (wH g (hd 5) (HA 5) (HF 5) ++ (wH g (hd 6) (HA 6) (HF 6) ++ (wH g (hd 7) (HA 7) (HF 7) ++ (wH g (hd 8) (HA 8) (HF 8) ++ (wH g (hd 9) (HA 9) (HF 9) ++ ([])))))))))))) s.heap := hP
  have hD : va_D Z (wHi g a0i a1i pf nxi kni ++ (wH g (hd 0) (HA 0) (HF 0) ++ (wH g (hd 1) (HA 1) (HF 1) ++ (wH g (hd 2) (HA 2) (HF 2) ++ (wH g (hd 3) (HA 3) (HF 3) ++ (wH g (hd 4) (HA 4) (HF 4) ++ (wH g (hd 5) (HA 5) (HF 5) ++ (wH g (hd 6) (HA 6) (HF 6) ++ (wH g (hd 7) (HA 7) (HF 7) ++ (wH g (hd 8) (HA 8) (HF 8) ++ (wH g (hd 9) (HA 9) (HF 9) ++ ([])))))))))))) := hD
  obtain ⟨d, hdr, hdd⟩ : ∃ d, s.drawn.sameBut d lw_cs ∧ s.drawn = d := ⟨_, hd0, rfl⟩
  rw [hdd]
  have hl := lv_entry ([.ref a0i, .ref (hd 0 0)]) (n := 2) (Nat.le_of_ble_eq_true rfl)
  rw [lg_entry_eq]
  generalize (lg_sl ([.ref a0i, .ref (hd 0 0)]) ++ List.replicate (2 - (lg_sl ([.ref a0i, .ref (hd 0 0)])).length) Slot.unset).toArray = ls at hl ⊢
  have hl : lv_has ls 2 [(0, .ref a0i), (1, .ref (hd 0 0))] := hl
  unfold sX2_push at hsem
  refine lv_aload_n hx hb dX2_push_0 rfl (lv_at hl 0 rfl) ?_
  refine va_get (D := g.1) (ci := 2) (v := .ref a1i) (C := RX2) (T := TX2) (N := 3) hx hb (dr_words hts d) (fun w h => List.mem_cons_of_mem _ (List.mem_append_left _ (List.mem_append_left _ (List.mem_append_right _ h)))) (hown d) (hK d) hP 0 rfl rfl 0 (by decide) ((dr_words hts d) (.fieldLink RX2 11 "PauseRegions$History" "past" "[LPauseRegions$Heap;") (List.mem_of_getElem? (i := 1) rfl)) (fun _ h9 => h9) rfl dX2_push_1 ?_
  refine lv_aload_n hx hb dX2_push_4 rfl (lv_at hl 0 rfl) ?_
  refine va_get (D := g.1) (ci := 2) (v := .int nxi) (C := RX2) (T := TX2) (N := 3) hx hb (dr_words hts d) (fun w h => List.mem_cons_of_mem _ (List.mem_append_left _ (List.mem_append_left _ (List.mem_append_right _ h)))) (hown d) (hK d) hP 0 rfl rfl 1 (by decide) ((dr_words hts d) (.fieldLink RX2 18 "PauseRegions$History" "next" "I") (List.mem_of_getElem? (i := 2) rfl)) (fun _ h9 => h9) rfl dX2_push_5 ?_
  obtain ⟨h1, hsem⟩ := ck_some hsem
  refine va_aldq (D := g.1) (C := RX1) hx hb (hK d) hP 1 3 rfl rfl h1 dX2_push_8 ?_
  by_cases c1 : nxi = 0
  · rw [if_pos c1] at hsem
    have ej : pf nxi.toNatClampNeg = some (hd 2 0) := by rw [c1]; exact hpf 0 (by decide)
    refine W.eq (g2 := F0 m 9 ls [.ref (hd 2 0)]) (by rw [ej]; rfl) ?_
    refine lv_aload_n hx hb dX2_push_9 rfl (lv_at hl 1 rfl) ?_
    obtain ⟨z1, hc1, hsem⟩ := bn_some hsem
    refine tdV (C := RX1) (As := [.ref (hd 0 0)]) (rest := []) hP hD hS hZ (pF3 (wHi g a0i a1i pf nxi kni ++ ([])) (wH g (hd 0) (HA 0) (HF 0)) (wH g (hd 1) (HA 1) (HF 1) ++ ([])) (wH g (hd 2) (HA 2) (HF 2)) (wH g (hd 3) (HA 3) (HF 3) ++ (wH g (hd 4) (HA 4) (HF 4) ++ (wH g (hd 5) (HA 5) (HF 5) ++ (wH g (hd 6) (HA 6) (HF 6) ++ (wH g (hd 7) (HA 7) (HF 7) ++ (wH g (hd 8) (HA 8) (HF 8) ++ (wH g (hd 9) (HA 9) (HF 9) ++ ([]))))))))) hdr ⟨hx, hb, hml, (hown d), (dr_words hts d)⟩ (hKK.drawn d) (cwV 1 (dr_words hts d) gX2_push_X1_becomeLike rfl rfl rfl hdX1_becomeLike ⟨Nat.le_of_ble_eq_true rfl, Nat.le_of_ble_eq_true rfl⟩) (kX1_becomeLike (l := l) (g := g) (ad := hd 2) (A := (HA 2)) (F := (HF 2)) (Fc := (HFc 2)) (adh := hd 0) (Ah := (HA 0)) (Fh := (HF 0)) (Fhc := (HFc 0)) (hALH 2) (hALH 0) hc1) (va_recv (hK d) hP (ci := 1) (q0 := 32) rfl rfl) rfl hl.1 rfl (Nat.le_of_ble_eq_true rfl) dX2_push_10 ⟨Nat.zero_le _, Nat.zero_le _⟩ (fun u1 H locs d hpo hP hD hS hdr => ?_)
    obtain ⟨HA1, eHA1, hsem⟩ := bd_some hsem
    obtain ⟨HF1, eHF1⟩ : ∃ z, z = upF HF 2 u1 := ⟨_, rfl⟩
    obtain ⟨HF1c, eHF1c, hsem⟩ := bd_some hsem
    have haHF1 : ALH HF1 HF1c := by rw [eHF1, eHF1c]; exact ALH.up hALH hpo
    have hP : va_P g.1 vwCl (wHi g a0i a1i pf nxi kni ++ (wH g (hd 0) (HA1 0) (HF1 0) ++ (wH g (hd 1) (HA1 1) (HF1 1) ++ (wH g (hd 2) (HA1 2) (HF1 2) ++ (wH g (hd 3) (HA1 3) (HF1 3) ++ (wH g (hd 4) (HA1 4) (HF1 4) ++ (wH g (hd 5) (HA1 5) (HF1 5) ++ (wH g (hd 6) (HA1 6) (HF1 6) ++ (wH g (hd 7) (HA1 7) (HF1 7) ++ (wH g (hd 8) (HA1 8) (HF1 8) ++ (wH g (hd 9) (HA1 9) (HF1 9) ++ ([])))))))))))) H := vaP_perm (pF3 (wHi g a0i a1i pf nxi kni ++ ([])) (wH g (hd 0) (HA1 0) (HF1 0)) (wH g (hd 1) (HA1 1) (HF1 1) ++ ([])) (wH g (hd 2) (HA1 2) (HF1 2)) (wH g (hd 3) (HA1 3) (HF1 3) ++ (wH g (hd 4) (HA1 4) (HF1 4) ++ (wH g (hd 5) (HA1 5) (HF1 5) ++ (wH g (hd 6) (HA1 6) (HF1 6) ++ (wH g (hd 7) (HA1 7) (HF1 7) ++ (wH g (hd 8) (HA1 8) (HF1 8) ++ (wH g (hd 9) (HA1 9) (HF1 9) ++ ([]))))))))).symm (by rw [eHA1, eHF1]; exact hP)
    have hD : va_D Z (wHi g a0i a1i pf nxi kni ++ (wH g (hd 0) (HA1 0) (HF1 0) ++ (wH g (hd 1) (HA1 1) (HF1 1) ++ (wH g (hd 2) (HA1 2) (HF1 2) ++ (wH g (hd 3) (HA1 3) (HF1 3) ++ (wH g (hd 4) (HA1 4) (HF1 4) ++ (wH g (hd 5) (HA1 5) (HF1 5) ++ (wH g (hd 6) (HA1 6) (HF1 6) ++ (wH g (hd 7) (HA1 7) (HF1 7) ++ (wH g (hd 8) (HA1 8) (HF1 8) ++ (wH g (hd 9) (HA1 9) (HF1 9) ++ ([])))))))))))) := vaD_perm (pF3 (wHi g a0i a1i pf nxi kni ++ ([])) (wH g (hd 0) (HA1 0) (HF1 0)) (wH g (hd 1) (HA1 1) (HF1 1) ++ ([])) (wH g (hd 2) (HA1 2) (HF1 2)) (wH g (hd 3) (HA1 3) (HF1 3) ++ (wH g (hd 4) (HA1 4) (HF1 4) ++ (wH g (hd 5) (HA1 5) (HF1 5) ++ (wH g (hd 6) (HA1 6) (HF1 6) ++ (wH g (hd 7) (HA1 7) (HF1 7) ++ (wH g (hd 8) (HA1 8) (HF1 8) ++ (wH g (hd 9) (HA1 9) (HF1 9) ++ ([]))))))))).symm (by rw [eHA1, eHF1]; exact hD)
    refine lv_aload_n hx hb dX2_push_13 rfl (lv_at hl 0 rfl) ?_
    refine lv_aload_n hx hb dX2_push_14 rfl (lv_at hl 0 rfl) ?_
    refine va_get (D := g.1) (ci := 2) (v := .int nxi) (C := RX2) (T := TX2) (N := 3) hx hb (dr_words hts d) (fun w h => List.mem_cons_of_mem _ (List.mem_append_left _ (List.mem_append_left _ (List.mem_append_right _ h)))) (hown d) (hK d) hP 0 rfl rfl 1 (by decide) ((dr_words hts d) (.fieldLink RX2 18 "PauseRegions$History" "next" "I") (List.mem_of_getElem? (i := 2) rfl)) (fun _ h9 => h9) rfl dX2_push_15 ?_
    refine lv_iconst (v := 1) hx hb dX2_push_18 (by decide) ?_
    refine lv_iadd hx hb dX2_push_19 ?_
    refine lv_bipush (v := 6) hx hb dX2_push_20 (by decide) ?_
    refine lv_irem hx hb dX2_push_22 (by decide) ?_
    refine va_put (D := g.1) (ci := 2) (v := .int ((nxi + 1) - (nxi + 1) / 6 * 6)) (ty := .int) (C := RX2) (T := TX2) (N := 3) hx hb (dr_words hts d) (fun w h => List.mem_cons_of_mem _ (List.mem_append_left _ (List.mem_append_left _ (List.mem_append_right _ h)))) tyX2 tyX2_ok nmX2 (hown d) (hK d) hP hD hS 0 rfl rfl 1 (by decide) ((dr_words hts d) (.fieldLink RX2 18 "PauseRegions$History" "next" "I") (List.mem_of_getElem? (i := 2) rfl)) (fun _ h9 => h9) rfl (by decide +kernel) rfl rfl (Nat.le_of_ble_eq_true rfl) dX2_push_23 (fun H locs hP hD hS => ?_)
    obtain ⟨nx1i, enx1i, hsem⟩ := bd_some hsem
    have hP : va_P g.1 vwCl (wHi g a0i a1i pf nx1i kni ++ (wH g (hd 0) (HA1 0) (HF1 0) ++ (wH g (hd 1) (HA1 1) (HF1 1) ++ (wH g (hd 2) (HA1 2) (HF1 2) ++ (wH g (hd 3) (HA1 3) (HF1 3) ++ (wH g (hd 4) (HA1 4) (HF1 4) ++ (wH g (hd 5) (HA1 5) (HF1 5) ++ (wH g (hd 6) (HA1 6) (HF1 6) ++ (wH g (hd 7) (HA1 7) (HF1 7) ++ (wH g (hd 8) (HA1 8) (HF1 8) ++ (wH g (hd 9) (HA1 9) (HF1 9) ++ ([])))))))))))) H := by rw [enx1i]; exact hP
    have hD : va_D Z (wHi g a0i a1i pf nx1i kni ++ (wH g (hd 0) (HA1 0) (HF1 0) ++ (wH g (hd 1) (HA1 1) (HF1 1) ++ (wH g (hd 2) (HA1 2) (HF1 2) ++ (wH g (hd 3) (HA1 3) (HF1 3) ++ (wH g (hd 4) (HA1 4) (HF1 4) ++ (wH g (hd 5) (HA1 5) (HF1 5) ++ (wH g (hd 6) (HA1 6) (HF1 6) ++ (wH g (hd 7) (HA1 7) (HF1 7) ++ (wH g (hd 8) (HA1 8) (HF1 8) ++ (wH g (hd 9) (HA1 9) (HF1 9) ++ ([])))))))))))) := by rw [enx1i]; exact hD
    refine lv_aload_n hx hb dX2_push_26 rfl (lv_at hl 0 rfl) ?_
    refine lv_aload_n hx hb dX2_push_27 rfl (lv_at hl 0 rfl) ?_
    refine va_get (D := g.1) (ci := 2) (v := .int kni) (C := RX2) (T := TX2) (N := 3) hx hb (dr_words hts d) (fun w h => List.mem_cons_of_mem _ (List.mem_append_left _ (List.mem_append_left _ (List.mem_append_right _ h)))) (hown d) (hK d) hP 0 rfl rfl 2 (by decide) ((dr_words hts d) (.fieldLink RX2 26 "PauseRegions$History" "known" "I") (List.mem_of_getElem? (i := 3) rfl)) (fun _ h9 => h9) rfl dX2_push_28 ?_
    refine lv_iconst (v := 1) hx hb dX2_push_31 (by decide) ?_
    refine lv_iadd hx hb dX2_push_32 ?_
    refine lv_bipush (v := 6) hx hb dX2_push_33 (by decide) ?_
    refine va_mmin hx hb (hml.trans hl.1.symm) (hown d) ((dr_words hts d) (.methodLink RX2 29 Lib.Math.min.name) (List.mem_of_getElem? (i := 4) rfl)) ((dr_words hts d) (.static Lib.Math.min.name) (List.mem_of_getElem? (i := 5) rfl)) ((dr_words hts d) (.initialized "java/lang/Math") (List.mem_of_getElem? (i := 6) rfl)) ((dr_words hts d) (.code Lib.Math.min.name Lib.Math.min.code 2 (some .int)) (List.mem_of_getElem? (i := 7) rfl)) (Nat.le_of_ble_eq_true rfl) (Nat.le_of_ble_eq_true rfl) (Nat.zero_le _) (Nat.zero_le _) dX2_push_35 ?_
    refine va_put (D := g.1) (ci := 2) (v := .int (if 6 < (kni + 1) then 6 else (kni + 1))) (ty := .int) (C := RX2) (T := TX2) (N := 3) hx hb (dr_words hts d) (fun w h => List.mem_cons_of_mem _ (List.mem_append_left _ (List.mem_append_left _ (List.mem_append_right _ h)))) tyX2 tyX2_ok nmX2 (hown d) (hK d) hP hD hS 0 rfl rfl 2 (by decide) ((dr_words hts d) (.fieldLink RX2 26 "PauseRegions$History" "known" "I") (List.mem_of_getElem? (i := 3) rfl)) (fun _ h9 => h9) rfl (by decide +kernel) rfl rfl (Nat.le_of_ble_eq_true rfl) dX2_push_38 (fun H locs hP hD hS => ?_)
    obtain ⟨kn1i, ekn1i, hsem⟩ := bd_some hsem
    have hP : va_P g.1 vwCl (wHi g a0i a1i pf nx1i kn1i ++ (wH g (hd 0) (HA1 0) (HF1 0) ++ (wH g (hd 1) (HA1 1) (HF1 1) ++ (wH g (hd 2) (HA1 2) (HF1 2) ++ (wH g (hd 3) (HA1 3) (HF1 3) ++ (wH g (hd 4) (HA1 4) (HF1 4) ++ (wH g (hd 5) (HA1 5) (HF1 5) ++ (wH g (hd 6) (HA1 6) (HF1 6) ++ (wH g (hd 7) (HA1 7) (HF1 7) ++ (wH g (hd 8) (HA1 8) (HF1 8) ++ (wH g (hd 9) (HA1 9) (HF1 9) ++ ([])))))))))))) H := by rw [ekn1i]; exact hP
    have hD : va_D Z (wHi g a0i a1i pf nx1i kn1i ++ (wH g (hd 0) (HA1 0) (HF1 0) ++ (wH g (hd 1) (HA1 1) (HF1 1) ++ (wH g (hd 2) (HA1 2) (HF1 2) ++ (wH g (hd 3) (HA1 3) (HF1 3) ++ (wH g (hd 4) (HA1 4) (HF1 4) ++ (wH g (hd 5) (HA1 5) (HF1 5) ++ (wH g (hd 6) (HA1 6) (HF1 6) ++ (wH g (hd 7) (HA1 7) (HF1 7) ++ (wH g (hd 8) (HA1 8) (HF1 8) ++ (wH g (hd 9) (HA1 9) (HF1 9) ++ ([])))))))))))) := by rw [ekn1i]; exact hD
    have eo := (Option.some.inj hsem).symm.symm
    refine W.endD hdr ?_
    subst eo
    exact W.vret hx hb hr (fun t ht hW => ⟨⟨HF1, rfl, haHF1, ⟨by rw [ht]; exact hP, hD⟩⟩, hS.F ht⟩) hS.2.2 dX2_push_41
  rw [if_neg c1] at hsem
  by_cases c2 : nxi = 1
  · rw [if_pos c2] at hsem
    have ej : pf nxi.toNatClampNeg = some (hd 3 0) := by rw [c2]; exact hpf 1 (by decide)
    refine W.eq (g2 := F0 m 9 ls [.ref (hd 3 0)]) (by rw [ej]; rfl) ?_
    refine lv_aload_n hx hb dX2_push_9 rfl (lv_at hl 1 rfl) ?_
    obtain ⟨z2, hc2, hsem⟩ := bn_some hsem
    refine tdV (C := RX1) (As := [.ref (hd 0 0)]) (rest := []) hP hD hS hZ (pF3 (wHi g a0i a1i pf nxi kni ++ ([])) (wH g (hd 0) (HA 0) (HF 0)) (wH g (hd 1) (HA 1) (HF 1) ++ (wH g (hd 2) (HA 2) (HF 2) ++ ([]))) (wH g (hd 3) (HA 3) (HF 3)) (wH g (hd 4) (HA 4) (HF 4) ++ (wH g (hd 5) (HA 5) (HF 5) ++ (wH g (hd 6) (HA 6) (HF 6) ++ (wH g (hd 7) (HA 7) (HF 7) ++ (wH g (hd 8) (HA 8) (HF 8) ++ (wH g (hd 9) (HA 9) (HF 9) ++ ([])))))))) hdr ⟨hx, hb, hml, (hown d), (dr_words hts d)⟩ (hKK.drawn d) (cwV 1 (dr_words hts d) gX2_push_X1_becomeLike rfl rfl rfl hdX1_becomeLike ⟨Nat.le_of_ble_eq_true rfl, Nat.le_of_ble_eq_true rfl⟩) (kX1_becomeLike (l := l) (g := g) (ad := hd 3) (A := (HA 3)) (F := (HF 3)) (Fc := (HFc 3)) (adh := hd 0) (Ah := (HA 0)) (Fh := (HF 0)) (Fhc := (HFc 0)) (hALH 3) (hALH 0) hc2) (va_recv (hK d) hP (ci := 1) (q0 := 47) rfl rfl) rfl hl.1 rfl (Nat.le_of_ble_eq_true rfl) dX2_push_10 ⟨Nat.zero_le _, Nat.zero_le _⟩ (fun u2 H locs d hpo hP hD hS hdr => ?_)
    obtain ⟨HA2, eHA2, hsem⟩ := bd_some hsem
    obtain ⟨HF2, eHF2⟩ : ∃ z, z = upF HF 3 u2 := ⟨_, rfl⟩
    obtain ⟨HF2c, eHF2c, hsem⟩ := bd_some hsem
    have haHF2 : ALH HF2 HF2c := by rw [eHF2, eHF2c]; exact ALH.up hALH hpo
    have hP : va_P g.1 vwCl (wHi g a0i a1i pf nxi kni ++ (wH g (hd 0) (HA2 0) (HF2 0) ++ (wH g (hd 1) (HA2 1) (HF2 1) ++ (wH g (hd 2) (HA2 2) (HF2 2) ++ (wH g (hd 3) (HA2 3) (HF2 3) ++ (wH g (hd 4) (HA2 4) (HF2 4) ++ (wH g (hd 5) (HA2 5) (HF2 5) ++ (wH g (hd 6) (HA2 6) (HF2 6) ++ (wH g (hd 7) (HA2 7) (HF2 7) ++ (wH g (hd 8) (HA2 8) (HF2 8) ++ (wH g (hd 9) (HA2 9) (HF2 9) ++ ([])))))))))))) H := vaP_perm (pF3 (wHi g a0i a1i pf nxi kni ++ ([])) (wH g (hd 0) (HA2 0) (HF2 0)) (wH g (hd 1) (HA2 1) (HF2 1) ++ (wH g (hd 2) (HA2 2) (HF2 2) ++ ([]))) (wH g (hd 3) (HA2 3) (HF2 3)) (wH g (hd 4) (HA2 4) (HF2 4) ++ (wH g (hd 5) (HA2 5) (HF2 5) ++ (wH g (hd 6) (HA2 6) (HF2 6) ++ (wH g (hd 7) (HA2 7) (HF2 7) ++ (wH g (hd 8) (HA2 8) (HF2 8) ++ (wH g (hd 9) (HA2 9) (HF2 9) ++ ([])))))))).symm (by rw [eHA2, eHF2]; exact hP)
    have hD : va_D Z (wHi g a0i a1i pf nxi kni ++ (wH g (hd 0) (HA2 0) (HF2 0) ++ (wH g (hd 1) (HA2 1) (HF2 1) ++ (wH g (hd 2) (HA2 2) (HF2 2) ++ (wH g (hd 3) (HA2 3) (HF2 3) ++ (wH g (hd 4) (HA2 4) (HF2 4) ++ (wH g (hd 5) (HA2 5) (HF2 5) ++ (wH g (hd 6) (HA2 6) (HF2 6) ++ (wH g (hd 7) (HA2 7) (HF2 7) ++ (wH g (hd 8) (HA2 8) (HF2 8) ++ (wH g (hd 9) (HA2 9) (HF2 9) ++ ([])))))))))))) := vaD_perm (pF3 (wHi g a0i a1i pf nxi kni ++ ([])) (wH g (hd 0) (HA2 0) (HF2 0)) (wH g (hd 1) (HA2 1) (HF2 1) ++ (wH g (hd 2) (HA2 2) (HF2 2) ++ ([]))) (wH g (hd 3) (HA2 3) (HF2 3)) (wH g (hd 4) (HA2 4) (HF2 4) ++ (wH g (hd 5) (HA2 5) (HF2 5) ++ (wH g (hd 6) (HA2 6) (HF2 6) ++ (wH g (hd 7) (HA2 7) (HF2 7) ++ (wH g (hd 8) (HA2 8) (HF2 8) ++ (wH g (hd 9) (HA2 9) (HF2 9) ++ ([])))))))).symm (by rw [eHA2, eHF2]; exact hD)
    refine lv_aload_n hx hb dX2_push_13 rfl (lv_at hl 0 rfl) ?_
    refine lv_aload_n hx hb dX2_push_14 rfl (lv_at hl 0 rfl) ?_
    refine va_get (D := g.1) (ci := 2) (v := .int nxi) (C := RX2) (T := TX2) (N := 3) hx hb (dr_words hts d) (fun w h => List.mem_cons_of_mem _ (List.mem_append_left _ (List.mem_append_left _ (List.mem_append_right _ h)))) (hown d) (hK d) hP 0 rfl rfl 1 (by decide) ((dr_words hts d) (.fieldLink RX2 18 "PauseRegions$History" "next" "I") (List.mem_of_getElem? (i := 2) rfl)) (fun _ h9 => h9) rfl dX2_push_15 ?_
    refine lv_iconst (v := 1) hx hb dX2_push_18 (by decide) ?_
    refine lv_iadd hx hb dX2_push_19 ?_
    refine lv_bipush (v := 6) hx hb dX2_push_20 (by decide) ?_
    refine lv_irem hx hb dX2_push_22 (by decide) ?_
    refine va_put (D := g.1) (ci := 2) (v := .int ((nxi + 1) - (nxi + 1) / 6 * 6)) (ty := .int) (C := RX2) (T := TX2) (N := 3) hx hb (dr_words hts d) (fun w h => List.mem_cons_of_mem _ (List.mem_append_left _ (List.mem_append_left _ (List.mem_append_right _ h)))) tyX2 tyX2_ok nmX2 (hown d) (hK d) hP hD hS 0 rfl rfl 1 (by decide) ((dr_words hts d) (.fieldLink RX2 18 "PauseRegions$History" "next" "I") (List.mem_of_getElem? (i := 2) rfl)) (fun _ h9 => h9) rfl (by decide +kernel) rfl rfl (Nat.le_of_ble_eq_true rfl) dX2_push_23 (fun H locs hP hD hS => ?_)
    obtain ⟨nx2i, enx2i, hsem⟩ := bd_some hsem
    have hP : va_P g.1 vwCl (wHi g a0i a1i pf nx2i kni ++ (wH g (hd 0) (HA2 0) (HF2 0) ++ (wH g (hd 1) (HA2 1) (HF2 1) ++ (wH g (hd 2) (HA2 2) (HF2 2) ++ (wH g (hd 3) (HA2 3) (HF2 3) ++ (wH g (hd 4) (HA2 4) (HF2 4) ++ (wH g (hd 5) (HA2 5) (HF2 5) ++ (wH g (hd 6) (HA2 6) (HF2 6) ++ (wH g (hd 7) (HA2 7) (HF2 7) ++ (wH g (hd 8) (HA2 8) (HF2 8) ++ (wH g (hd 9) (HA2 9) (HF2 9) ++ ([])))))))))))) H := by rw [enx2i]; exact hP
    have hD : va_D Z (wHi g a0i a1i pf nx2i kni ++ (wH g (hd 0) (HA2 0) (HF2 0) ++ (wH g (hd 1) (HA2 1) (HF2 1) ++ (wH g (hd 2) (HA2 2) (HF2 2) ++ (wH g (hd 3) (HA2 3) (HF2 3) ++ (wH g (hd 4) (HA2 4) (HF2 4) ++ (wH g (hd 5) (HA2 5) (HF2 5) ++ (wH g (hd 6) (HA2 6) (HF2 6) ++ (wH g (hd 7) (HA2 7) (HF2 7) ++ (wH g (hd 8) (HA2 8) (HF2 8) ++ (wH g (hd 9) (HA2 9) (HF2 9) ++ ([])))))))))))) := by rw [enx2i]; exact hD
    refine lv_aload_n hx hb dX2_push_26 rfl (lv_at hl 0 rfl) ?_
    refine lv_aload_n hx hb dX2_push_27 rfl (lv_at hl 0 rfl) ?_
    refine va_get (D := g.1) (ci := 2) (v := .int kni) (C := RX2) (T := TX2) (N := 3) hx hb (dr_words hts d) (fun w h => List.mem_cons_of_mem _ (List.mem_append_left _ (List.mem_append_left _ (List.mem_append_right _ h)))) (hown d) (hK d) hP 0 rfl rfl 2 (by decide) ((dr_words hts d) (.fieldLink RX2 26 "PauseRegions$History" "known" "I") (List.mem_of_getElem? (i := 3) rfl)) (fun _ h9 => h9) rfl dX2_push_28 ?_
    refine lv_iconst (v := 1) hx hb dX2_push_31 (by decide) ?_
    refine lv_iadd hx hb dX2_push_32 ?_
    refine lv_bipush (v := 6) hx hb dX2_push_33 (by decide) ?_
    refine va_mmin hx hb (hml.trans hl.1.symm) (hown d) ((dr_words hts d) (.methodLink RX2 29 Lib.Math.min.name) (List.mem_of_getElem? (i := 4) rfl)) ((dr_words hts d) (.static Lib.Math.min.name) (List.mem_of_getElem? (i := 5) rfl)) ((dr_words hts d) (.initialized "java/lang/Math") (List.mem_of_getElem? (i := 6) rfl)) ((dr_words hts d) (.code Lib.Math.min.name Lib.Math.min.code 2 (some .int)) (List.mem_of_getElem? (i := 7) rfl)) (Nat.le_of_ble_eq_true rfl) (Nat.le_of_ble_eq_true rfl) (Nat.zero_le _) (Nat.zero_le _) dX2_push_35 ?_
    refine va_put (D := g.1) (ci := 2) (v := .int (if 6 < (kni + 1) then 6 else (kni + 1))) (ty := .int) (C := RX2) (T := TX2) (N := 3) hx hb (dr_words hts d) (fun w h => List.mem_cons_of_mem _ (List.mem_append_left _ (List.mem_append_left _ (List.mem_append_right _ h)))) tyX2 tyX2_ok nmX2 (hown d) (hK d) hP hD hS 0 rfl rfl 2 (by decide) ((dr_words hts d) (.fieldLink RX2 26 "PauseRegions$History" "known" "I") (List.mem_of_getElem? (i := 3) rfl)) (fun _ h9 => h9) rfl (by decide +kernel) rfl rfl (Nat.le_of_ble_eq_true rfl) dX2_push_38 (fun H locs hP hD hS => ?_)
    obtain ⟨kn2i, ekn2i, hsem⟩ := bd_some hsem
    have hP : va_P g.1 vwCl (wHi g a0i a1i pf nx2i kn2i ++ (wH g (hd 0) (HA2 0) (HF2 0) ++ (wH g (hd 1) (HA2 1) (HF2 1) ++ (wH g (hd 2) (HA2 2) (HF2 2) ++ (wH g (hd 3) (HA2 3) (HF2 3) ++ (wH g (hd 4) (HA2 4) (HF2 4) ++ (wH g (hd 5) (HA2 5) (HF2 5) ++ (wH g (hd 6) (HA2 6) (HF2 6) ++ (wH g (hd 7) (HA2 7) (HF2 7) ++ (wH g (hd 8) (HA2 8) (HF2 8) ++ (wH g (hd 9) (HA2 9) (HF2 9) ++ ([])))))))))))) H := by rw [ekn2i]; exact hP
    have hD : va_D Z (wHi g a0i a1i pf nx2i kn2i ++ (wH g (hd 0) (HA2 0) (HF2 0) ++ (wH g (hd 1) (HA2 1) (HF2 1) ++ (wH g (hd 2) (HA2 2) (HF2 2) ++ (wH g (hd 3) (HA2 3) (HF2 3) ++ (wH g (hd 4) (HA2 4) (HF2 4) ++ (wH g (hd 5) (HA2 5) (HF2 5) ++ (wH g (hd 6) (HA2 6) (HF2 6) ++ (wH g (hd 7) (HA2 7) (HF2 7) ++ (wH g (hd 8) (HA2 8) (HF2 8) ++ (wH g (hd 9) (HA2 9) (HF2 9) ++ ([])))))))))))) := by rw [ekn2i]; exact hD
    have eo := (Option.some.inj hsem).symm.symm
    refine W.endD hdr ?_
    subst eo
    exact W.vret hx hb hr (fun t ht hW => ⟨⟨HF2, rfl, haHF2, ⟨by rw [ht]; exact hP, hD⟩⟩, hS.F ht⟩) hS.2.2 dX2_push_41
  rw [if_neg c2] at hsem
  by_cases c3 : nxi = 2
  · rw [if_pos c3] at hsem
    have ej : pf nxi.toNatClampNeg = some (hd 4 0) := by rw [c3]; exact hpf 2 (by decide)
    refine W.eq (g2 := F0 m 9 ls [.ref (hd 4 0)]) (by rw [ej]; rfl) ?_
    refine lv_aload_n hx hb dX2_push_9 rfl (lv_at hl 1 rfl) ?_
    obtain ⟨z3, hc3, hsem⟩ := bn_some hsem
    refine tdV (C := RX1) (As := [.ref (hd 0 0)]) (rest := []) hP hD hS hZ (pF3 (wHi g a0i a1i pf nxi kni ++ ([])) (wH g (hd 0) (HA 0) (HF 0)) (wH g (hd 1) (HA 1) (HF 1) ++ (wH g (hd 2) (HA 2) (HF 2) ++ (wH g (hd 3) (HA 3) (HF 3) ++ ([])))) (wH g (hd 4) (HA 4) (HF 4)) (wH g (hd 5) (HA 5) (HF 5) ++ (wH g (hd 6) (HA 6) (HF 6) ++ (wH g (hd 7) (HA 7) (HF 7) ++ (wH g (hd 8) (HA 8) (HF 8) ++ (wH g (hd 9) (HA 9) (HF 9) ++ ([]))))))) hdr ⟨hx, hb, hml, (hown d), (dr_words hts d)⟩ (hKK.drawn d) (cwV 1 (dr_words hts d) gX2_push_X1_becomeLike rfl rfl rfl hdX1_becomeLike ⟨Nat.le_of_ble_eq_true rfl, Nat.le_of_ble_eq_true rfl⟩) (kX1_becomeLike (l := l) (g := g) (ad := hd 4) (A := (HA 4)) (F := (HF 4)) (Fc := (HFc 4)) (adh := hd 0) (Ah := (HA 0)) (Fh := (HF 0)) (Fhc := (HFc 0)) (hALH 4) (hALH 0) hc3) (va_recv (hK d) hP (ci := 1) (q0 := 62) rfl rfl) rfl hl.1 rfl (Nat.le_of_ble_eq_true rfl) dX2_push_10 ⟨Nat.zero_le _, Nat.zero_le _⟩ (fun u3 H locs d hpo hP hD hS hdr => ?_)
    obtain ⟨HA3, eHA3, hsem⟩ := bd_some hsem
    obtain ⟨HF3, eHF3⟩ : ∃ z, z = upF HF 4 u3 := ⟨_, rfl⟩
    obtain ⟨HF3c, eHF3c, hsem⟩ := bd_some hsem
    have haHF3 : ALH HF3 HF3c := by rw [eHF3, eHF3c]; exact ALH.up hALH hpo
    have hP : va_P g.1 vwCl (wHi g a0i a1i pf nxi kni ++ (wH g (hd 0) (HA3 0) (HF3 0) ++ (wH g (hd 1) (HA3 1) (HF3 1) ++ (wH g (hd 2) (HA3 2) (HF3 2) ++ (wH g (hd 3) (HA3 3) (HF3 3) ++ (wH g (hd 4) (HA3 4) (HF3 4) ++ (wH g (hd 5) (HA3 5) (HF3 5) ++ (wH g (hd 6) (HA3 6) (HF3 6) ++ (wH g (hd 7) (HA3 7) (HF3 7) ++ (wH g (hd 8) (HA3 8) (HF3 8) ++ (wH g (hd 9) (HA3 9) (HF3 9) ++ ([])))))))))))) H := vaP_perm (pF3 (wHi g a0i a1i pf nxi kni ++ ([])) (wH g (hd 0) (HA3 0) (HF3 0)) (wH g (hd 1) (HA3 1) (HF3 1) ++ (wH g (hd 2) (HA3 2) (HF3 2) ++ (wH g (hd 3) (HA3 3) (HF3 3) ++ ([])))) (wH g (hd 4) (HA3 4) (HF3 4)) (wH g (hd 5) (HA3 5) (HF3 5) ++ (wH g (hd 6) (HA3 6) (HF3 6) ++ (wH g (hd 7) (HA3 7) (HF3 7) ++ (wH g (hd 8) (HA3 8) (HF3 8) ++ (wH g (hd 9) (HA3 9) (HF3 9) ++ ([]))))))).symm (by rw [eHA3, eHF3]; exact hP)
    have hD : va_D Z (wHi g a0i a1i pf nxi kni ++ (wH g (hd 0) (HA3 0) (HF3 0) ++ (wH g (hd 1) (HA3 1) (HF3 1) ++ (wH g (hd 2) (HA3 2) (HF3 2) ++ (wH g (hd 3) (HA3 3) (HF3 3) ++ (wH g (hd 4) (HA3 4) (HF3 4) ++ (wH g (hd 5) (HA3 5) (HF3 5) ++ (wH g (hd 6) (HA3 6) (HF3 6) ++ (wH g (hd 7) (HA3 7) (HF3 7) ++ (wH g (hd 8) (HA3 8) (HF3 8) ++ (wH g (hd 9) (HA3 9) (HF3 9) ++ ([])))))))))))) := vaD_perm (pF3 (wHi g a0i a1i pf nxi kni ++ ([])) (wH g (hd 0) (HA3 0) (HF3 0)) (wH g (hd 1) (HA3 1) (HF3 1) ++ (wH g (hd 2) (HA3 2) (HF3 2) ++ (wH g (hd 3) (HA3 3) (HF3 3) ++ ([])))) (wH g (hd 4) (HA3 4) (HF3 4)) (wH g (hd 5) (HA3 5) (HF3 5) ++ (wH g (hd 6) (HA3 6) (HF3 6) ++ (wH g (hd 7) (HA3 7) (HF3 7) ++ (wH g (hd 8) (HA3 8) (HF3 8) ++ (wH g (hd 9) (HA3 9) (HF3 9) ++ ([]))))))).symm (by rw [eHA3, eHF3]; exact hD)
    refine lv_aload_n hx hb dX2_push_13 rfl (lv_at hl 0 rfl) ?_
    refine lv_aload_n hx hb dX2_push_14 rfl (lv_at hl 0 rfl) ?_
    refine va_get (D := g.1) (ci := 2) (v := .int nxi) (C := RX2) (T := TX2) (N := 3) hx hb (dr_words hts d) (fun w h => List.mem_cons_of_mem _ (List.mem_append_left _ (List.mem_append_left _ (List.mem_append_right _ h)))) (hown d) (hK d) hP 0 rfl rfl 1 (by decide) ((dr_words hts d) (.fieldLink RX2 18 "PauseRegions$History" "next" "I") (List.mem_of_getElem? (i := 2) rfl)) (fun _ h9 => h9) rfl dX2_push_15 ?_
    refine lv_iconst (v := 1) hx hb dX2_push_18 (by decide) ?_
    refine lv_iadd hx hb dX2_push_19 ?_
    refine lv_bipush (v := 6) hx hb dX2_push_20 (by decide) ?_
    refine lv_irem hx hb dX2_push_22 (by decide) ?_
    refine va_put (D := g.1) (ci := 2) (v := .int ((nxi + 1) - (nxi + 1) / 6 * 6)) (ty := .int) (C := RX2) (T := TX2) (N := 3) hx hb (dr_words hts d) (fun w h => List.mem_cons_of_mem _ (List.mem_append_left _ (List.mem_append_left _ (List.mem_append_right _ h)))) tyX2 tyX2_ok nmX2 (hown d) (hK d) hP hD hS 0 rfl rfl 1 (by decide) ((dr_words hts d) (.fieldLink RX2 18 "PauseRegions$History" "next" "I") (List.mem_of_getElem? (i := 2) rfl)) (fun _ h9 => h9) rfl (by decide +kernel) rfl rfl (Nat.le_of_ble_eq_true rfl) dX2_push_23 (fun H locs hP hD hS => ?_)
    obtain ⟨nx3i, enx3i, hsem⟩ := bd_some hsem
    have hP : va_P g.1 vwCl (wHi g a0i a1i pf nx3i kni ++ (wH g (hd 0) (HA3 0) (HF3 0) ++ (wH g (hd 1) (HA3 1) (HF3 1) ++ (wH g (hd 2) (HA3 2) (HF3 2) ++ (wH g (hd 3) (HA3 3) (HF3 3) ++ (wH g (hd 4) (HA3 4) (HF3 4) ++ (wH g (hd 5) (HA3 5) (HF3 5) ++ (wH g (hd 6) (HA3 6) (HF3 6) ++ (wH g (hd 7) (HA3 7) (HF3 7) ++ (wH g (hd 8) (HA3 8) (HF3 8) ++ (wH g (hd 9) (HA3 9) (HF3 9) ++ ([])))))))))))) H := by rw [enx3i]; exact hP
    have hD : va_D Z (wHi g a0i a1i pf nx3i kni ++ (wH g (hd 0) (HA3 0) (HF3 0) ++ (wH g (hd 1) (HA3 1) (HF3 1) ++ (wH g (hd 2) (HA3 2) (HF3 2) ++ (wH g (hd 3) (HA3 3) (HF3 3) ++ (wH g (hd 4) (HA3 4) (HF3 4) ++ (wH g (hd 5) (HA3 5) (HF3 5) ++ (wH g (hd 6) (HA3 6) (HF3 6) ++ (wH g (hd 7) (HA3 7) (HF3 7) ++ (wH g (hd 8) (HA3 8) (HF3 8) ++ (wH g (hd 9) (HA3 9) (HF3 9) ++ ([])))))))))))) := by rw [enx3i]; exact hD
    refine lv_aload_n hx hb dX2_push_26 rfl (lv_at hl 0 rfl) ?_
    refine lv_aload_n hx hb dX2_push_27 rfl (lv_at hl 0 rfl) ?_
    refine va_get (D := g.1) (ci := 2) (v := .int kni) (C := RX2) (T := TX2) (N := 3) hx hb (dr_words hts d) (fun w h => List.mem_cons_of_mem _ (List.mem_append_left _ (List.mem_append_left _ (List.mem_append_right _ h)))) (hown d) (hK d) hP 0 rfl rfl 2 (by decide) ((dr_words hts d) (.fieldLink RX2 26 "PauseRegions$History" "known" "I") (List.mem_of_getElem? (i := 3) rfl)) (fun _ h9 => h9) rfl dX2_push_28 ?_
    refine lv_iconst (v := 1) hx hb dX2_push_31 (by decide) ?_
    refine lv_iadd hx hb dX2_push_32 ?_
    refine lv_bipush (v := 6) hx hb dX2_push_33 (by decide) ?_
    refine va_mmin hx hb (hml.trans hl.1.symm) (hown d) ((dr_words hts d) (.methodLink RX2 29 Lib.Math.min.name) (List.mem_of_getElem? (i := 4) rfl)) ((dr_words hts d) (.static Lib.Math.min.name) (List.mem_of_getElem? (i := 5) rfl)) ((dr_words hts d) (.initialized "java/lang/Math") (List.mem_of_getElem? (i := 6) rfl)) ((dr_words hts d) (.code Lib.Math.min.name Lib.Math.min.code 2 (some .int)) (List.mem_of_getElem? (i := 7) rfl)) (Nat.le_of_ble_eq_true rfl) (Nat.le_of_ble_eq_true rfl) (Nat.zero_le _) (Nat.zero_le _) dX2_push_35 ?_
    refine va_put (D := g.1) (ci := 2) (v := .int (if 6 < (kni + 1) then 6 else (kni + 1))) (ty := .int) (C := RX2) (T := TX2) (N := 3) hx hb (dr_words hts d) (fun w h => List.mem_cons_of_mem _ (List.mem_append_left _ (List.mem_append_left _ (List.mem_append_right _ h)))) tyX2 tyX2_ok nmX2 (hown d) (hK d) hP hD hS 0 rfl rfl 2 (by decide) ((dr_words hts d) (.fieldLink RX2 26 "PauseRegions$History" "known" "I") (List.mem_of_getElem? (i := 3) rfl)) (fun _ h9 => h9) rfl (by decide +kernel) rfl rfl (Nat.le_of_ble_eq_true rfl) dX2_push_38 (fun H locs hP hD hS => ?_)
    obtain ⟨kn3i, ekn3i, hsem⟩ := bd_some hsem
    have hP : va_P g.1 vwCl (wHi g a0i a1i pf nx3i kn3i ++ (wH g (hd 0) (HA3 0) (HF3 0) ++ (wH g (hd 1) (HA3 1) (HF3 1) ++ (wH g (hd 2) (HA3 2) (HF3 2) ++ (wH g (hd 3) (HA3 3) (HF3 3) ++ (wH g (hd 4) (HA3 4) (HF3 4) ++ (wH g (hd 5) (HA3 5) (HF3 5) ++ (wH g (hd 6) (HA3 6) (HF3 6) ++ (wH g (hd 7) (HA3 7) (HF3 7) ++ (wH g (hd 8) (HA3 8) (HF3 8) ++ (wH g (hd 9) (HA3 9) (HF3 9) ++ ([])))))))))))) H := by rw [ekn3i]; exact hP
    have hD : va_D Z (wHi g a0i a1i pf nx3i kn3i ++ (wH g (hd 0) (HA3 0) (HF3 0) ++ (wH g (hd 1) (HA3 1) (HF3 1) ++ (wH g (hd 2) (HA3 2) (HF3 2) ++ (wH g (hd 3) (HA3 3) (HF3 3) ++ (wH g (hd 4) (HA3 4) (HF3 4) ++ (wH g (hd 5) (HA3 5) (HF3 5) ++ (wH g (hd 6) (HA3 6) (HF3 6) ++ (wH g (hd 7) (HA3 7) (HF3 7) ++ (wH g (hd 8) (HA3 8) (HF3 8) ++ (wH g (hd 9) (HA3 9) (HF3 9) ++ ([])))))))))))) := by rw [ekn3i]; exact hD
    have eo := (Option.some.inj hsem).symm.symm
    refine W.endD hdr ?_
    subst eo
    exact W.vret hx hb hr (fun t ht hW => ⟨⟨HF3, rfl, haHF3, ⟨by rw [ht]; exact hP, hD⟩⟩, hS.F ht⟩) hS.2.2 dX2_push_41
  rw [if_neg c3] at hsem
  by_cases c4 : nxi = 3
  · rw [if_pos c4] at hsem
    have ej : pf nxi.toNatClampNeg = some (hd 5 0) := by rw [c4]; exact hpf 3 (by decide)
    refine W.eq (g2 := F0 m 9 ls [.ref (hd 5 0)]) (by rw [ej]; rfl) ?_
    refine lv_aload_n hx hb dX2_push_9 rfl (lv_at hl 1 rfl) ?_
    obtain ⟨z4, hc4, hsem⟩ := bn_some hsem
    refine tdV (C := RX1) (As := [.ref (hd 0 0)]) (rest := []) hP hD hS hZ (pF3 (wHi g a0i a1i pf nxi kni ++ ([])) (wH g (hd 0) (HA 0) (HF 0)) (wH g (hd 1) (HA 1) (HF 1) ++ (wH g (hd 2) (HA 2) (HF 2) ++ (wH g (hd 3) (HA 3) (HF 3) ++ (wH g (hd 4) (HA 4) (HF 4) ++ ([]))))) (wH g (hd 5) (HA 5) (HF 5)) (wH g (hd 6) (HA 6) (HF 6) ++ (wH g (hd 7) (HA 7) (HF 7) ++ (wH g (hd 8) (HA 8) (HF 8) ++ (wH g (hd 9) (HA 9) (HF 9) ++ ([])))))) hdr ⟨hx, hb, hml, (hown d), (dr_words hts d)⟩ (hKK.drawn d) (cwV 1 (dr_words hts d) gX2_push_X1_becomeLike rfl rfl rfl hdX1_becomeLike ⟨Nat.le_of_ble_eq_true rfl, Nat.le_of_ble_eq_true rfl⟩) (kX1_becomeLike (l := l) (g := g) (ad := hd 5) (A := (HA 5)) (F := (HF 5)) (Fc := (HFc 5)) (adh := hd 0) (Ah := (HA 0)) (Fh := (HF 0)) (Fhc := (HFc 0)) (hALH 5) (hALH 0) hc4) (va_recv (hK d) hP (ci := 1) (q0 := 77) rfl rfl) rfl hl.1 rfl (Nat.le_of_ble_eq_true rfl) dX2_push_10 ⟨Nat.zero_le _, Nat.zero_le _⟩ (fun u4 H locs d hpo hP hD hS hdr => ?_)
    obtain ⟨HA4, eHA4, hsem⟩ := bd_some hsem
    obtain ⟨HF4, eHF4⟩ : ∃ z, z = upF HF 5 u4 := ⟨_, rfl⟩
    obtain ⟨HF4c, eHF4c, hsem⟩ := bd_some hsem
    have haHF4 : ALH HF4 HF4c := by rw [eHF4, eHF4c]; exact ALH.up hALH hpo
    have hP : va_P g.1 vwCl (wHi g a0i a1i pf nxi kni ++ (wH g (hd 0) (HA4 0) (HF4 0) ++ (wH g (hd 1) (HA4 1) (HF4 1) ++ (wH g (hd 2) (HA4 2) (HF4 2) ++ (wH g (hd 3) (HA4 3) (HF4 3) ++ (wH g (hd 4) (HA4 4) (HF4 4) ++ (wH g (hd 5) (HA4 5) (HF4 5) ++ (wH g (hd 6) (HA4 6) (HF4 6) ++ (wH g (hd 7) (HA4 7) (HF4 7) ++ (wH g (hd 8) (HA4 8) (HF4 8) ++ (wH g (hd 9) (HA4 9) (HF4 9) ++ ([])))))))))))) H := vaP_perm (pF3 (wHi g a0i a1i pf nxi kni ++ ([])) (wH g (hd 0) (HA4 0) (HF4 0)) (wH g (hd 1) (HA4 1) (HF4 1) ++ (wH g (hd 2) (HA4 2) (HF4 2) ++ (wH g (hd 3) (HA4 3) (HF4 3) ++ (wH g (hd 4) (HA4 4) (HF4 4) ++ ([]))))) (wH g (hd 5) (HA4 5) (HF4 5)) (wH g (hd 6) (HA4 6) (HF4 6) ++ (wH g (hd 7) (HA4 7) (HF4 7) ++ (wH g (hd 8) (HA4 8) (HF4 8) ++ (wH g (hd 9) (HA4 9) (HF4 9) ++ ([])))))).symm (by rw [eHA4, eHF4]; exact hP)
    have hD : va_D Z (wHi g a0i a1i pf nxi kni ++ (wH g (hd 0) (HA4 0) (HF4 0) ++ (wH g (hd 1) (HA4 1) (HF4 1) ++ (wH g (hd 2) (HA4 2) (HF4 2) ++ (wH g (hd 3) (HA4 3) (HF4 3) ++ (wH g (hd 4) (HA4 4) (HF4 4) ++ (wH g (hd 5) (HA4 5) (HF4 5) ++ (wH g (hd 6) (HA4 6) (HF4 6) ++ (wH g (hd 7) (HA4 7) (HF4 7) ++ (wH g (hd 8) (HA4 8) (HF4 8) ++ (wH g (hd 9) (HA4 9) (HF4 9) ++ ([])))))))))))) := vaD_perm (pF3 (wHi g a0i a1i pf nxi kni ++ ([])) (wH g (hd 0) (HA4 0) (HF4 0)) (wH g (hd 1) (HA4 1) (HF4 1) ++ (wH g (hd 2) (HA4 2) (HF4 2) ++ (wH g (hd 3) (HA4 3) (HF4 3) ++ (wH g (hd 4) (HA4 4) (HF4 4) ++ ([]))))) (wH g (hd 5) (HA4 5) (HF4 5)) (wH g (hd 6) (HA4 6) (HF4 6) ++ (wH g (hd 7) (HA4 7) (HF4 7) ++ (wH g (hd 8) (HA4 8) (HF4 8) ++ (wH g (hd 9) (HA4 9) (HF4 9) ++ ([])))))).symm (by rw [eHA4, eHF4]; exact hD)
    refine lv_aload_n hx hb dX2_push_13 rfl (lv_at hl 0 rfl) ?_
    refine lv_aload_n hx hb dX2_push_14 rfl (lv_at hl 0 rfl) ?_
    refine va_get (D := g.1) (ci := 2) (v := .int nxi) (C := RX2) (T := TX2) (N := 3) hx hb (dr_words hts d) (fun w h => List.mem_cons_of_mem _ (List.mem_append_left _ (List.mem_append_left _ (List.mem_append_right _ h)))) (hown d) (hK d) hP 0 rfl rfl 1 (by decide) ((dr_words hts d) (.fieldLink RX2 18 "PauseRegions$History" "next" "I") (List.mem_of_getElem? (i := 2) rfl)) (fun _ h9 => h9) rfl dX2_push_15 ?_
    refine lv_iconst (v := 1) hx hb dX2_push_18 (by decide) ?_
    refine lv_iadd hx hb dX2_push_19 ?_
    refine lv_bipush (v := 6) hx hb dX2_push_20 (by decide) ?_
    refine lv_irem hx hb dX2_push_22 (by decide) ?_
    refine va_put (D := g.1) (ci := 2) (v := .int ((nxi + 1) - (nxi + 1) / 6 * 6)) (ty := .int) (C := RX2) (T := TX2) (N := 3) hx hb (dr_words hts d) (fun w h => List.mem_cons_of_mem _ (List.mem_append_left _ (List.mem_append_left _ (List.mem_append_right _ h)))) tyX2 tyX2_ok nmX2 (hown d) (hK d) hP hD hS 0 rfl rfl 1 (by decide) ((dr_words hts d) (.fieldLink RX2 18 "PauseRegions$History" "next" "I") (List.mem_of_getElem? (i := 2) rfl)) (fun _ h9 => h9) rfl (by decide +kernel) rfl rfl (Nat.le_of_ble_eq_true rfl) dX2_push_23 (fun H locs hP hD hS => ?_)
    obtain ⟨nx4i, enx4i, hsem⟩ := bd_some hsem
    have hP : va_P g.1 vwCl (wHi g a0i a1i pf nx4i kni ++ (wH g (hd 0) (HA4 0) (HF4 0) ++ (wH g (hd 1) (HA4 1) (HF4 1) ++ (wH g (hd 2) (HA4 2) (HF4 2) ++ (wH g (hd 3) (HA4 3) (HF4 3) ++ (wH g (hd 4) (HA4 4) (HF4 4) ++ (wH g (hd 5) (HA4 5) (HF4 5) ++ (wH g (hd 6) (HA4 6) (HF4 6) ++ (wH g (hd 7) (HA4 7) (HF4 7) ++ (wH g (hd 8) (HA4 8) (HF4 8) ++ (wH g (hd 9) (HA4 9) (HF4 9) ++ ([])))))))))))) H := by rw [enx4i]; exact hP
    have hD : va_D Z (wHi g a0i a1i pf nx4i kni ++ (wH g (hd 0) (HA4 0) (HF4 0) ++ (wH g (hd 1) (HA4 1) (HF4 1) ++ (wH g (hd 2) (HA4 2) (HF4 2) ++ (wH g (hd 3) (HA4 3) (HF4 3) ++ (wH g (hd 4) (HA4 4) (HF4 4) ++ (wH g (hd 5) (HA4 5) (HF4 5) ++ (wH g (hd 6) (HA4 6) (HF4 6) ++ (wH g (hd 7) (HA4 7) (HF4 7) ++ (wH g (hd 8) (HA4 8) (HF4 8) ++ (wH g (hd 9) (HA4 9) (HF4 9) ++ ([])))))))))))) := by rw [enx4i]; exact hD
    refine lv_aload_n hx hb dX2_push_26 rfl (lv_at hl 0 rfl) ?_
    refine lv_aload_n hx hb dX2_push_27 rfl (lv_at hl 0 rfl) ?_
    refine va_get (D := g.1) (ci := 2) (v := .int kni) (C := RX2) (T := TX2) (N := 3) hx hb (dr_words hts d) (fun w h => List.mem_cons_of_mem _ (List.mem_append_left _ (List.mem_append_left _ (List.mem_append_right _ h)))) (hown d) (hK d) hP 0 rfl rfl 2 (by decide) ((dr_words hts d) (.fieldLink RX2 26 "PauseRegions$History" "known" "I") (List.mem_of_getElem? (i := 3) rfl)) (fun _ h9 => h9) rfl dX2_push_28 ?_
    refine lv_iconst (v := 1) hx hb dX2_push_31 (by decide) ?_
    refine lv_iadd hx hb dX2_push_32 ?_
    refine lv_bipush (v := 6) hx hb dX2_push_33 (by decide) ?_
    refine va_mmin hx hb (hml.trans hl.1.symm) (hown d) ((dr_words hts d) (.methodLink RX2 29 Lib.Math.min.name) (List.mem_of_getElem? (i := 4) rfl)) ((dr_words hts d) (.static Lib.Math.min.name) (List.mem_of_getElem? (i := 5) rfl)) ((dr_words hts d) (.initialized "java/lang/Math") (List.mem_of_getElem? (i := 6) rfl)) ((dr_words hts d) (.code Lib.Math.min.name Lib.Math.min.code 2 (some .int)) (List.mem_of_getElem? (i := 7) rfl)) (Nat.le_of_ble_eq_true rfl) (Nat.le_of_ble_eq_true rfl) (Nat.zero_le _) (Nat.zero_le _) dX2_push_35 ?_
    refine va_put (D := g.1) (ci := 2) (v := .int (if 6 < (kni + 1) then 6 else (kni + 1))) (ty := .int) (C := RX2) (T := TX2) (N := 3) hx hb (dr_words hts d) (fun w h => List.mem_cons_of_mem _ (List.mem_append_left _ (List.mem_append_left _ (List.mem_append_right _ h)))) tyX2 tyX2_ok nmX2 (hown d) (hK d) hP hD hS 0 rfl rfl 2 (by decide) ((dr_words hts d) (.fieldLink RX2 26 "PauseRegions$History" "known" "I") (List.mem_of_getElem? (i := 3) rfl)) (fun _ h9 => h9) rfl (by decide +kernel) rfl rfl (Nat.le_of_ble_eq_true rfl) dX2_push_38 (fun H locs hP hD hS => ?_)
    obtain ⟨kn4i, ekn4i, hsem⟩ := bd_some hsem
    have hP : va_P g.1 vwCl (wHi g a0i a1i pf nx4i kn4i ++ (wH g (hd 0) (HA4 0) (HF4 0) ++ (wH g (hd 1) (HA4 1) (HF4 1) ++ (wH g (hd 2) (HA4 2) (HF4 2) ++ (wH g (hd 3) (HA4 3) (HF4 3) ++ (wH g (hd 4) (HA4 4) (HF4 4) ++ (wH g (hd 5) (HA4 5) (HF4 5) ++ (wH g (hd 6) (HA4 6) (HF4 6) ++ (wH g (hd 7) (HA4 7) (HF4 7) ++ (wH g (hd 8) (HA4 8) (HF4 8) ++ (wH g (hd 9) (HA4 9) (HF4 9) ++ ([])))))))))))) H := by rw [ekn4i]; exact hP
    have hD : va_D Z (wHi g a0i a1i pf nx4i kn4i ++ (wH g (hd 0) (HA4 0) (HF4 0) ++ (wH g (hd 1) (HA4 1) (HF4 1) ++ (wH g (hd 2) (HA4 2) (HF4 2) ++ (wH g (hd 3) (HA4 3) (HF4 3) ++ (wH g (hd 4) (HA4 4) (HF4 4) ++ (wH g (hd 5) (HA4 5) (HF4 5) ++ (wH g (hd 6) (HA4 6) (HF4 6) ++ (wH g (hd 7) (HA4 7) (HF4 7) ++ (wH g (hd 8) (HA4 8) (HF4 8) ++ (wH g (hd 9) (HA4 9) (HF4 9) ++ ([])))))))))))) := by rw [ekn4i]; exact hD
    have eo := (Option.some.inj hsem).symm.symm
    refine W.endD hdr ?_
    subst eo
    exact W.vret hx hb hr (fun t ht hW => ⟨⟨HF4, rfl, haHF4, ⟨by rw [ht]; exact hP, hD⟩⟩, hS.F ht⟩) hS.2.2 dX2_push_41
  rw [if_neg c4] at hsem
  by_cases c5 : nxi = 4
  · rw [if_pos c5] at hsem
    have ej : pf nxi.toNatClampNeg = some (hd 6 0) := by rw [c5]; exact hpf 4 (by decide)
    refine W.eq (g2 := F0 m 9 ls [.ref (hd 6 0)]) (by rw [ej]; rfl) ?_
    refine lv_aload_n hx hb dX2_push_9 rfl (lv_at hl 1 rfl) ?_
    obtain ⟨z5, hc5, hsem⟩ := bn_some hsem
    refine tdV (C := RX1) (As := [.ref (hd 0 0)]) (rest := []) hP hD hS hZ (pF3 (wHi g a0i a1i pf nxi kni ++ ([])) (wH g (hd 0) (HA 0) (HF 0)) (wH g (hd 1) (HA 1) (HF 1) ++ (wH g (hd 2) (HA 2) (HF 2) ++ (wH g (hd 3) (HA 3) (HF 3) ++ (wH g (hd 4) (HA 4) (HF 4) ++ (wH g (hd 5) (HA 5) (HF 5) ++ ([])))))) (wH g (hd 6) (HA 6) (HF 6)) (wH g (hd 7) (HA 7) (HF 7) ++ (wH g (hd 8) (HA 8) (HF 8) ++ (wH g (hd 9) (HA 9) (HF 9) ++ ([]))))) hdr ⟨hx, hb, hml, (hown d), (dr_words hts d)⟩ (hKK.drawn d) (cwV 1 (dr_words hts d) gX2_push_X1_becomeLike rfl rfl rfl hdX1_becomeLike ⟨Nat.le_of_ble_eq_true rfl, Nat.le_of_ble_eq_true rfl⟩) (kX1_becomeLike (l := l) (g := g) (ad := hd 6) (A := (HA 6)) (F := (HF 6)) (Fc := (HFc 6)) (adh := hd 0) (Ah := (HA 0)) (Fh := (HF 0)) (Fhc := (HFc 0)) (hALH 6) (hALH 0) hc5) (va_recv (hK d) hP (ci := 1) (q0 := 92) rfl rfl) rfl hl.1 rfl (Nat.le_of_ble_eq_true rfl) dX2_push_10 ⟨Nat.zero_le _, Nat.zero_le _⟩ (fun u5 H locs d hpo hP hD hS hdr => ?_)
    obtain ⟨HA5, eHA5, hsem⟩ := bd_some hsem
    obtain ⟨HF5, eHF5⟩ : ∃ z, z = upF HF 6 u5 := ⟨_, rfl⟩
    obtain ⟨HF5c, eHF5c, hsem⟩ := bd_some hsem
    have haHF5 : ALH HF5 HF5c := by rw [eHF5, eHF5c]; exact ALH.up hALH hpo
    have hP : va_P g.1 vwCl (wHi g a0i a1i pf nxi kni ++ (wH g (hd 0) (HA5 0) (HF5 0) ++ (wH g (hd 1) (HA5 1) (HF5 1) ++ (wH g (hd 2) (HA5 2) (HF5 2) ++ (wH g (hd 3) (HA5 3) (HF5 3) ++ (wH g (hd 4) (HA5 4) (HF5 4) ++ (wH g (hd 5) (HA5 5) (HF5 5) ++ (wH g (hd 6) (HA5 6) (HF5 6) ++ (wH g (hd 7) (HA5 7) (HF5 7) ++ (wH g (hd 8) (HA5 8) (HF5 8) ++ (wH g (hd 9) (HA5 9) (HF5 9) ++ ([])))))))))))) H := vaP_perm (pF3 (wHi g a0i a1i pf nxi kni ++ ([])) (wH g (hd 0) (HA5 0) (HF5 0)) (wH g (hd 1) (HA5 1) (HF5 1) ++ (wH g (hd 2) (HA5 2) (HF5 2) ++ (wH g (hd 3) (HA5 3) (HF5 3) ++ (wH g (hd 4) (HA5 4) (HF5 4) ++ (wH g (hd 5) (HA5 5) (HF5 5) ++ ([])))))) (wH g (hd 6) (HA5 6) (HF5 6)) (wH g (hd 7) (HA5 7) (HF5 7) ++ (wH g (hd 8) (HA5 8) (HF5 8) ++ (wH g (hd 9) (HA5 9) (HF5 9) ++ ([]))))).symm (by rw [eHA5, eHF5]; exact hP)
    have hD : va_D Z (wHi g a0i a1i pf nxi kni ++ (wH g (hd 0) (HA5 0) (HF5 0) ++ (wH g (hd 1) (HA5 1) (HF5 1) ++ (wH g (hd 2) (HA5 2) (HF5 2) ++ (wH g (hd 3) (HA5 3) (HF5 3) ++ (wH g (hd 4) (HA5 4) (HF5 4) ++ (wH g (hd 5) (HA5 5) (HF5 5) ++ (wH g (hd 6) (HA5 6) (HF5 6) ++ (wH g (hd 7) (HA5 7) (HF5 7) ++ (wH g (hd 8) (HA5 8) (HF5 8) ++ (wH g (hd 9) (HA5 9) (HF5 9) ++ ([])))))))))))) := vaD_perm (pF3 (wHi g a0i a1i pf nxi kni ++ ([])) (wH g (hd 0) (HA5 0) (HF5 0)) (wH g (hd 1) (HA5 1) (HF5 1) ++ (wH g (hd 2) (HA5 2) (HF5 2) ++ (wH g (hd 3) (HA5 3) (HF5 3) ++ (wH g (hd 4) (HA5 4) (HF5 4) ++ (wH g (hd 5) (HA5 5) (HF5 5) ++ ([])))))) (wH g (hd 6) (HA5 6) (HF5 6)) (wH g (hd 7) (HA5 7) (HF5 7) ++ (wH g (hd 8) (HA5 8) (HF5 8) ++ (wH g (hd 9) (HA5 9) (HF5 9) ++ ([]))))).symm (by rw [eHA5, eHF5]; exact hD)
    refine lv_aload_n hx hb dX2_push_13 rfl (lv_at hl 0 rfl) ?_
    refine lv_aload_n hx hb dX2_push_14 rfl (lv_at hl 0 rfl) ?_
    refine va_get (D := g.1) (ci := 2) (v := .int nxi) (C := RX2) (T := TX2) (N := 3) hx hb (dr_words hts d) (fun w h => List.mem_cons_of_mem _ (List.mem_append_left _ (List.mem_append_left _ (List.mem_append_right _ h)))) (hown d) (hK d) hP 0 rfl rfl 1 (by decide) ((dr_words hts d) (.fieldLink RX2 18 "PauseRegions$History" "next" "I") (List.mem_of_getElem? (i := 2) rfl)) (fun _ h9 => h9) rfl dX2_push_15 ?_
    refine lv_iconst (v := 1) hx hb dX2_push_18 (by decide) ?_
    refine lv_iadd hx hb dX2_push_19 ?_
    refine lv_bipush (v := 6) hx hb dX2_push_20 (by decide) ?_
    refine lv_irem hx hb dX2_push_22 (by decide) ?_
    refine va_put (D := g.1) (ci := 2) (v := .int ((nxi + 1) - (nxi + 1) / 6 * 6)) (ty := .int) (C := RX2) (T := TX2) (N := 3) hx hb (dr_words hts d) (fun w h => List.mem_cons_of_mem _ (List.mem_append_left _ (List.mem_append_left _ (List.mem_append_right _ h)))) tyX2 tyX2_ok nmX2 (hown d) (hK d) hP hD hS 0 rfl rfl 1 (by decide) ((dr_words hts d) (.fieldLink RX2 18 "PauseRegions$History" "next" "I") (List.mem_of_getElem? (i := 2) rfl)) (fun _ h9 => h9) rfl (by decide +kernel) rfl rfl (Nat.le_of_ble_eq_true rfl) dX2_push_23 (fun H locs hP hD hS => ?_)
    obtain ⟨nx5i, enx5i, hsem⟩ := bd_some hsem
    have hP : va_P g.1 vwCl (wHi g a0i a1i pf nx5i kni ++ (wH g (hd 0) (HA5 0) (HF5 0) ++ (wH g (hd 1) (HA5 1) (HF5 1) ++ (wH g (hd 2) (HA5 2) (HF5 2) ++ (wH g (hd 3) (HA5 3) (HF5 3) ++ (wH g (hd 4) (HA5 4) (HF5 4) ++ (wH g (hd 5) (HA5 5) (HF5 5) ++ (wH g (hd 6) (HA5 6) (HF5 6) ++ (wH g (hd 7) (HA5 7) (HF5 7) ++ (wH g (hd 8) (HA5 8) (HF5 8) ++ (wH g (hd 9) (HA5 9) (HF5 9) ++ ([])))))))))))) H := by rw [enx5i]; exact hP
    have hD : va_D Z (wHi g a0i a1i pf nx5i kni ++ (wH g (hd 0) (HA5 0) (HF5 0) ++ (wH g (hd 1) (HA5 1) (HF5 1) ++ (wH g (hd 2) (HA5 2) (HF5 2) ++ (wH g (hd 3) (HA5 3) (HF5 3) ++ (wH g (hd 4) (HA5 4) (HF5 4) ++ (wH g (hd 5) (HA5 5) (HF5 5) ++ (wH g (hd 6) (HA5 6) (HF5 6) ++ (wH g (hd 7) (HA5 7) (HF5 7) ++ (wH g (hd 8) (HA5 8) (HF5 8) ++ (wH g (hd 9) (HA5 9) (HF5 9) ++ ([])))))))))))) := by rw [enx5i]; exact hD
    refine lv_aload_n hx hb dX2_push_26 rfl (lv_at hl 0 rfl) ?_
    refine lv_aload_n hx hb dX2_push_27 rfl (lv_at hl 0 rfl) ?_
    refine va_get (D := g.1) (ci := 2) (v := .int kni) (C := RX2) (T := TX2) (N := 3) hx hb (dr_words hts d) (fun w h => List.mem_cons_of_mem _ (List.mem_append_left _ (List.mem_append_left _ (List.mem_append_right _ h)))) (hown d) (hK d) hP 0 rfl rfl 2 (by decide) ((dr_words hts d) (.fieldLink RX2 26 "PauseRegions$History" "known" "I") (List.mem_of_getElem? (i := 3) rfl)) (fun _ h9 => h9) rfl dX2_push_28 ?_
    refine lv_iconst (v := 1) hx hb dX2_push_31 (by decide) ?_
    refine lv_iadd hx hb dX2_push_32 ?_
    refine lv_bipush (v := 6) hx hb dX2_push_33 (by decide) ?_
    refine va_mmin hx hb (hml.trans hl.1.symm) (hown d) ((dr_words hts d) (.methodLink RX2 29 Lib.Math.min.name) (List.mem_of_getElem? (i := 4) rfl)) ((dr_words hts d) (.static Lib.Math.min.name) (List.mem_of_getElem? (i := 5) rfl)) ((dr_words hts d) (.initialized "java/lang/Math") (List.mem_of_getElem? (i := 6) rfl)) ((dr_words hts d) (.code Lib.Math.min.name Lib.Math.min.code 2 (some .int)) (List.mem_of_getElem? (i := 7) rfl)) (Nat.le_of_ble_eq_true rfl) (Nat.le_of_ble_eq_true rfl) (Nat.zero_le _) (Nat.zero_le _) dX2_push_35 ?_
    refine va_put (D := g.1) (ci := 2) (v := .int (if 6 < (kni + 1) then 6 else (kni + 1))) (ty := .int) (C := RX2) (T := TX2) (N := 3) hx hb (dr_words hts d) (fun w h => List.mem_cons_of_mem _ (List.mem_append_left _ (List.mem_append_left _ (List.mem_append_right _ h)))) tyX2 tyX2_ok nmX2 (hown d) (hK d) hP hD hS 0 rfl rfl 2 (by decide) ((dr_words hts d) (.fieldLink RX2 26 "PauseRegions$History" "known" "I") (List.mem_of_getElem? (i := 3) rfl)) (fun _ h9 => h9) rfl (by decide +kernel) rfl rfl (Nat.le_of_ble_eq_true rfl) dX2_push_38 (fun H locs hP hD hS => ?_)
    obtain ⟨kn5i, ekn5i, hsem⟩ := bd_some hsem
    have hP : va_P g.1 vwCl (wHi g a0i a1i pf nx5i kn5i ++ (wH g (hd 0) (HA5 0) (HF5 0) ++ (wH g (hd 1) (HA5 1) (HF5 1) ++ (wH g (hd 2) (HA5 2) (HF5 2) ++ (wH g (hd 3) (HA5 3) (HF5 3) ++ (wH g (hd 4) (HA5 4) (HF5 4) ++ (wH g (hd 5) (HA5 5) (HF5 5) ++ (wH g (hd 6) (HA5 6) (HF5 6) ++ (wH g (hd 7) (HA5 7) (HF5 7) ++ (wH g (hd 8) (HA5 8) (HF5 8) ++ (wH g (hd 9) (HA5 9) (HF5 9) ++ ([])))))))))))) H := by rw [ekn5i]; exact hP
    have hD : va_D Z (wHi g a0i a1i pf nx5i kn5i ++ (wH g (hd 0) (HA5 0) (HF5 0) ++ (wH g (hd 1) (HA5 1) (HF5 1) ++ (wH g (hd 2) (HA5 2) (HF5 2) ++ (wH g (hd 3) (HA5 3) (HF5 3) ++ (wH g (hd 4) (HA5 4) (HF5 4) ++ (wH g (hd 5) (HA5 5) (HF5 5) ++ (wH g (hd 6) (HA5 6) (HF5 6) ++ (wH g (hd 7) (HA5 7) (HF5 7) ++ (wH g (hd 8) (HA5 8) (HF5 8) ++ (wH g (hd 9) (HA5 9) (HF5 9) ++ ([])))))))))))) := by rw [ekn5i]; exact hD
    have eo := (Option.some.inj hsem).symm.symm
    refine W.endD hdr ?_
    subst eo
    exact W.vret hx hb hr (fun t ht hW => ⟨⟨HF5, rfl, haHF5, ⟨by rw [ht]; exact hP, hD⟩⟩, hS.F ht⟩) hS.2.2 dX2_push_41
  rw [if_neg c5] at hsem
  by_cases c6 : nxi = 5
  · rw [if_pos c6] at hsem
    have ej : pf nxi.toNatClampNeg = some (hd 7 0) := by rw [c6]; exact hpf 5 (by decide)
    refine W.eq (g2 := F0 m 9 ls [.ref (hd 7 0)]) (by rw [ej]; rfl) ?_
    refine lv_aload_n hx hb dX2_push_9 rfl (lv_at hl 1 rfl) ?_
    obtain ⟨z6, hc6, hsem⟩ := bn_some hsem
    refine tdV (C := RX1) (As := [.ref (hd 0 0)]) (rest := []) hP hD hS hZ (pF3 (wHi g a0i a1i pf nxi kni ++ ([])) (wH g (hd 0) (HA 0) (HF 0)) (wH g (hd 1) (HA 1) (HF 1) ++ (wH g (hd 2) (HA 2) (HF 2) ++ (wH g (hd 3) (HA 3) (HF 3) ++ (wH g (hd 4) (HA 4) (HF 4) ++ (wH g (hd 5) (HA 5) (HF 5) ++ (wH g (hd 6) (HA 6) (HF 6) ++ ([]))))))) (wH g (hd 7) (HA 7) (HF 7)) (wH g (hd 8) (HA 8) (HF 8) ++ (wH g (hd 9) (HA 9) (HF 9) ++ ([])))) hdr ⟨hx, hb, hml, (hown d), (dr_words hts d)⟩ (hKK.drawn d) (cwV 1 (dr_words hts d) gX2_push_X1_becomeLike rfl rfl rfl hdX1_becomeLike ⟨Nat.le_of_ble_eq_true rfl, Nat.le_of_ble_eq_true rfl⟩) (kX1_becomeLike (l := l) (g := g) (ad := hd 7) (A := (HA 7)) (F := (HF 7)) (Fc := (HFc 7)) (adh := hd 0) (Ah := (HA 0)) (Fh := (HF 0)) (Fhc := (HFc 0)) (hALH 7) (hALH 0) hc6) (va_recv (hK d) hP (ci := 1) (q0 := 107) rfl rfl) rfl hl.1 rfl (Nat.le_of_ble_eq_true rfl) dX2_push_10 ⟨Nat.zero_le _, Nat.zero_le _⟩ (fun u6 H locs d hpo hP hD hS hdr => ?_)
    obtain ⟨HA6, eHA6, hsem⟩ := bd_some hsem
    obtain ⟨HF6, eHF6⟩ : ∃ z, z = upF HF 7 u6 := ⟨_, rfl⟩
    obtain ⟨HF6c, eHF6c, hsem⟩ := bd_some hsem
    have haHF6 : ALH HF6 HF6c := by rw [eHF6, eHF6c]; exact ALH.up hALH hpo
    have hP : va_P g.1 vwCl (wHi g a0i a1i pf nxi kni ++ (wH g (hd 0) (HA6 0) (HF6 0) ++ (wH g (hd 1) (HA6 1) (HF6 1) ++ (wH g (hd 2) (HA6 2) (HF6 2) ++ (wH g (hd 3) (HA6 3) (HF6 3) ++ (wH g (hd 4) (HA6 4) (HF6 4) ++ (wH g (hd 5) (HA6 5) (HF6 5) ++ (wH g (hd 6) (HA6 6) (HF6 6) ++ (wH g (hd 7) (HA6 7) (HF6 7) ++ (wH g (hd 8) (HA6 8) (HF6 8) ++ (wH g (hd 9) (HA6 9) (HF6 9) ++ ([])))))))))))) H := vaP_perm (pF3 (wHi g a0i a1i pf nxi kni ++ ([])) (wH g (hd 0) (HA6 0) (HF6 0)) (wH g (hd 1) (HA6 1) (HF6 1) ++ (wH g (hd 2) (HA6 2) (HF6 2) ++ (wH g (hd 3) (HA6 3) (HF6 3) ++ (wH g (hd 4) (HA6 4) (HF6 4) ++ (wH g (hd 5) (HA6 5) (HF6 5) ++ (wH g (hd 6) (HA6 6) (HF6 6) ++ ([]))))))) (wH g (hd 7) (HA6 7) (HF6 7)) (wH g (hd 8) (HA6 8) (HF6 8) ++ (wH g (hd 9) (HA6 9) (HF6 9) ++ ([])))).symm (by rw [eHA6, eHF6]; exact hP)
    have hD : va_D Z (wHi g a0i a1i pf nxi kni ++ (wH g (hd 0) (HA6 0) (HF6 0) ++ (wH g (hd 1) (HA6 1) (HF6 1) ++ (wH g (hd 2) (HA6 2) (HF6 2) ++ (wH g (hd 3) (HA6 3) (HF6 3) ++ (wH g (hd 4) (HA6 4) (HF6 4) ++ (wH g (hd 5) (HA6 5) (HF6 5) ++ (wH g (hd 6) (HA6 6) (HF6 6) ++ (wH g (hd 7) (HA6 7) (HF6 7) ++ (wH g (hd 8) (HA6 8) (HF6 8) ++ (wH g (hd 9) (HA6 9) (HF6 9) ++ ([])))))))))))) := vaD_perm (pF3 (wHi g a0i a1i pf nxi kni ++ ([])) (wH g (hd 0) (HA6 0) (HF6 0)) (wH g (hd 1) (HA6 1) (HF6 1) ++ (wH g (hd 2) (HA6 2) (HF6 2) ++ (wH g (hd 3) (HA6 3) (HF6 3) ++ (wH g (hd 4) (HA6 4) (HF6 4) ++ (wH g (hd 5) (HA6 5) (HF6 5) ++ (wH g (hd 6) (HA6 6) (HF6 6) ++ ([]))))))) (wH g (hd 7) (HA6 7) (HF6 7)) (wH g (hd 8) (HA6 8) (HF6 8) ++ (wH g (hd 9) (HA6 9) (HF6 9) ++ ([])))).symm (by rw [eHA6, eHF6]; exact hD)
    refine lv_aload_n hx hb dX2_push_13 rfl (lv_at hl 0 rfl) ?_
    refine lv_aload_n hx hb dX2_push_14 rfl (lv_at hl 0 rfl) ?_
    refine va_get (D := g.1) (ci := 2) (v := .int nxi) (C := RX2) (T := TX2) (N := 3) hx hb (dr_words hts d) (fun w h => List.mem_cons_of_mem _ (List.mem_append_left _ (List.mem_append_left _ (List.mem_append_right _ h)))) (hown d) (hK d) hP 0 rfl rfl 1 (by decide) ((dr_words hts d) (.fieldLink RX2 18 "PauseRegions$History" "next" "I") (List.mem_of_getElem? (i := 2) rfl)) (fun _ h9 => h9) rfl dX2_push_15 ?_
    refine lv_iconst (v := 1) hx hb dX2_push_18 (by decide) ?_
    refine lv_iadd hx hb dX2_push_19 ?_
    refine lv_bipush (v := 6) hx hb dX2_push_20 (by decide) ?_
    refine lv_irem hx hb dX2_push_22 (by decide) ?_
    refine va_put (D := g.1) (ci := 2) (v := .int ((nxi + 1) - (nxi + 1) / 6 * 6)) (ty := .int) (C := RX2) (T := TX2) (N := 3) hx hb (dr_words hts d) (fun w h => List.mem_cons_of_mem _ (List.mem_append_left _ (List.mem_append_left _ (List.mem_append_right _ h)))) tyX2 tyX2_ok nmX2 (hown d) (hK d) hP hD hS 0 rfl rfl 1 (by decide) ((dr_words hts d) (.fieldLink RX2 18 "PauseRegions$History" "next" "I") (List.mem_of_getElem? (i := 2) rfl)) (fun _ h9 => h9) rfl (by decide +kernel) rfl rfl (Nat.le_of_ble_eq_true rfl) dX2_push_23 (fun H locs hP hD hS => ?_)
    obtain ⟨nx6i, enx6i, hsem⟩ := bd_some hsem
    have hP : va_P g.1 vwCl (wHi g a0i a1i pf nx6i kni ++ (wH g (hd 0) (HA6 0) (HF6 0) ++ (wH g (hd 1) (HA6 1) (HF6 1) ++ (wH g (hd 2) (HA6 2) (HF6 2) ++ (wH g (hd 3) (HA6 3) (HF6 3) ++ (wH g (hd 4) (HA6 4) (HF6 4) ++ (wH g (hd 5) (HA6 5) (HF6 5) ++ (wH g (hd 6) (HA6 6) (HF6 6) ++ (wH g (hd 7) (HA6 7) (HF6 7) ++ (wH g (hd 8) (HA6 8) (HF6 8) ++ (wH g (hd 9) (HA6 9) (HF6 9) ++ ([])))))))))))) H := by rw [enx6i]; exact hP
    have hD : va_D Z (wHi g a0i a1i pf nx6i kni ++ (wH g (hd 0) (HA6 0) (HF6 0) ++ (wH g (hd 1) (HA6 1) (HF6 1) ++ (wH g (hd 2) (HA6 2) (HF6 2) ++ (wH g (hd 3) (HA6 3) (HF6 3) ++ (wH g (hd 4) (HA6 4) (HF6 4) ++ (wH g (hd 5) (HA6 5) (HF6 5) ++ (wH g (hd 6) (HA6 6) (HF6 6) ++ (wH g (hd 7) (HA6 7) (HF6 7) ++ (wH g (hd 8) (HA6 8) (HF6 8) ++ (wH g (hd 9) (HA6 9) (HF6 9) ++ ([])))))))))))) := by rw [enx6i]; exact hD
    refine lv_aload_n hx hb dX2_push_26 rfl (lv_at hl 0 rfl) ?_
    refine lv_aload_n hx hb dX2_push_27 rfl (lv_at hl 0 rfl) ?_
    refine va_get (D := g.1) (ci := 2) (v := .int kni) (C := RX2) (T := TX2) (N := 3) hx hb (dr_words hts d) (fun w h => List.mem_cons_of_mem _ (List.mem_append_left _ (List.mem_append_left _ (List.mem_append_right _ h)))) (hown d) (hK d) hP 0 rfl rfl 2 (by decide) ((dr_words hts d) (.fieldLink RX2 26 "PauseRegions$History" "known" "I") (List.mem_of_getElem? (i := 3) rfl)) (fun _ h9 => h9) rfl dX2_push_28 ?_
    refine lv_iconst (v := 1) hx hb dX2_push_31 (by decide) ?_
    refine lv_iadd hx hb dX2_push_32 ?_
    refine lv_bipush (v := 6) hx hb dX2_push_33 (by decide) ?_
    refine va_mmin hx hb (hml.trans hl.1.symm) (hown d) ((dr_words hts d) (.methodLink RX2 29 Lib.Math.min.name) (List.mem_of_getElem? (i := 4) rfl)) ((dr_words hts d) (.static Lib.Math.min.name) (List.mem_of_getElem? (i := 5) rfl)) ((dr_words hts d) (.initialized "java/lang/Math") (List.mem_of_getElem? (i := 6) rfl)) ((dr_words hts d) (.code Lib.Math.min.name Lib.Math.min.code 2 (some .int)) (List.mem_of_getElem? (i := 7) rfl)) (Nat.le_of_ble_eq_true rfl) (Nat.le_of_ble_eq_true rfl) (Nat.zero_le _) (Nat.zero_le _) dX2_push_35 ?_
    refine va_put (D := g.1) (ci := 2) (v := .int (if 6 < (kni + 1) then 6 else (kni + 1))) (ty := .int) (C := RX2) (T := TX2) (N := 3) hx hb (dr_words hts d) (fun w h => List.mem_cons_of_mem _ (List.mem_append_left _ (List.mem_append_left _ (List.mem_append_right _ h)))) tyX2 tyX2_ok nmX2 (hown d) (hK d) hP hD hS 0 rfl rfl 2 (by decide) ((dr_words hts d) (.fieldLink RX2 26 "PauseRegions$History" "known" "I") (List.mem_of_getElem? (i := 3) rfl)) (fun _ h9 => h9) rfl (by decide +kernel) rfl rfl (Nat.le_of_ble_eq_true rfl) dX2_push_38 (fun H locs hP hD hS => ?_)
    obtain ⟨kn6i, ekn6i, hsem⟩ := bd_some hsem
    have hP : va_P g.1 vwCl (wHi g a0i a1i pf nx6i kn6i ++ (wH g (hd 0) (HA6 0) (HF6 0) ++ (wH g (hd 1) (HA6 1) (HF6 1) ++ (wH g (hd 2) (HA6 2) (HF6 2) ++ (wH g (hd 3) (HA6 3) (HF6 3) ++ (wH g (hd 4) (HA6 4) (HF6 4) ++ (wH g (hd 5) (HA6 5) (HF6 5) ++ (wH g (hd 6) (HA6 6) (HF6 6) ++ (wH g (hd 7) (HA6 7) (HF6 7) ++ (wH g (hd 8) (HA6 8) (HF6 8) ++ (wH g (hd 9) (HA6 9) (HF6 9) ++ ([])))))))))))) H := by rw [ekn6i]; exact hP
    have hD : va_D Z (wHi g a0i a1i pf nx6i kn6i ++ (wH g (hd 0) (HA6 0) (HF6 0) ++ (wH g (hd 1) (HA6 1) (HF6 1) ++ (wH g (hd 2) (HA6 2) (HF6 2) ++ (wH g (hd 3) (HA6 3) (HF6 3) ++ (wH g (hd 4) (HA6 4) (HF6 4) ++ (wH g (hd 5) (HA6 5) (HF6 5) ++ (wH g (hd 6) (HA6 6) (HF6 6) ++ (wH g (hd 7) (HA6 7) (HF6 7) ++ (wH g (hd 8) (HA6 8) (HF6 8) ++ (wH g (hd 9) (HA6 9) (HF6 9) ++ ([])))))))))))) := by rw [ekn6i]; exact hD
    have eo := (Option.some.inj hsem).symm.symm
    refine W.endD hdr ?_
    subst eo
    exact W.vret hx hb hr (fun t ht hW => ⟨⟨HF6, rfl, haHF6, ⟨by rw [ht]; exact hP, hD⟩⟩, hS.F ht⟩) hS.2.2 dX2_push_41
  rw [if_neg c6] at hsem
  cases hsem
