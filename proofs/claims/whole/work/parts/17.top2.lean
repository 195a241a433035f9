def sX6_keep (kf : Nat → Int32) (HA : Nat → IA) (HFc : Nat → FA) (p0 : Int32) : Option (Int32 × (Nat → Int32) × (Nat → IA) × (Nat → FA)) :=
  (sX6_isImage p0).bind fun x1 => if x1 = 0 then (some (((-1), kf, HA, HFc))) else (ck p0 2 (if p0 = 0 then ((sX1_becomeLike (HA 8) (HFc 8) (HA 0) (HFc 0)).bind fun z1 => bd (upH HA 8 (z1.1)) fun HA1 => bd (upF HFc 8 z1.2) fun HF1c => ck p0 2 (bd (upd kf p0.toNatClampNeg 1) fun kf1 => (sX1_thingCount (HA1 0)).bind fun x2 => some (x2, kf1, HA1, HF1c))) else (if p0 = 1 then ((sX1_becomeLike (HA 9) (HFc 9) (HA 0) (HFc 0)).bind fun z2 => bd (upH HA 9 (z2.1)) fun HA2 => bd (upF HFc 9 z2.2) fun HF2c => ck p0 2 (bd (upd kf p0.toNatClampNeg 1) fun kf2 => (sX1_thingCount (HA2 0)).bind fun x3 => some (x3, kf2, HA2, HF2c))) else (none))))
abbrev rmX6_keep : Room := { frames := 3, cells := 0, slots := 0, locals := 82 }
theorem hdX6_keep : yX6_keep.cls = RX6 ∧ yX6_keep.cls ≠ "java/lang/invoke/MethodHandle" ∧ yX6_keep.cls ≠ "java/lang/invoke/VarHandle" ∧ (parseMethodDescriptor yX6_keep.desc).map (fun d => d.parameters.length) = some 1 := by decide +kernel
set_option maxHeartbeats 8000000 in
set_option maxRecDepth 100000 in
theorem kX6_keep {l : Launch} {g : GG} {sz : Nat} {a0 a1 a2 : Nat} {im : Nat → Option Nat} {kf : Nat → Int32} {a0t : Nat} {rgt : Int32} {yct : Int32} {fct : UInt32} {adp : Nat → Nat} {Ap : IA} {Fp : FA} {adr : Nat → Nat} {Ar : IA} {a0i a1i : Nat} {pf : Nat → Option Nat} {nxi kni : Int32} {hd : Nat → Nat → Nat} {HA : Nat → IA} {HF : Nat → FA} {p0 : Int32} (him : ∀ k, k < 2 → im k = some (hd (8 + k) 0)) {fctc : UInt32} (hfct : alike32 fct fctc = true) {Fpc : FA} (hALp : AL Fp Fpc) {HFc : Nat → FA} (hALH : ALH HF HFc) {b : Int32 × (Nat → Int32) × (Nat → IA) × (Nat → FA)} (hsem : sX6_keep kf HA HFc p0 = some b) : MetDI l yX6_keep wsX6_keep rmX6_keep g [.ref a0, .int p0] (wTp g a0 a1 a2 a0t (adp 0) (adr 0) a0i (hd 0 0) (hd 1 0) im kf ++ (wC g a0t rgt yct fct ++ (wPa g adp Ap Fp ++ (wRe g adr Ar ++ (wHi g a0i a1i pf nxi kni ++ (wH g (hd 0) (HA 0) (HF 0) ++ (wH g (hd 1) (HA 1) (HF 1) ++ (wH g (hd 2) (HA 2) (HF 2) ++ (wH g (hd 3) (HA 3) (HF 3) ++ (wH g (hd 4) (HA 4) (HF 4) ++ (wH g (hd 5) (HA 5) (HF 5) ++ (wH g (hd 6) (HA 6) (HF 6) ++ (wH g (hd 7) (HA 7) (HF 7) ++ (wH g (hd 8) (HA 8) (HF 8) ++ (wH g (hd 9) (HA 9) (HF 9) ++ ([])))))))))))))))) sz b.1 (φ := (Nat → FA)) (fun u => ALH u b.2.2.2) (fun u => wTp g a0 a1 a2 a0t (adp 0) (adr 0) a0i (hd 0 0) (hd 1 0) im b.2.1 ++ (wC g a0t rgt yct fct ++ (wPa g adp Ap Fp ++ (wRe g adr Ar ++ (wHi g a0i a1i pf nxi kni ++ (wH g (hd 0) (b.2.2.1 0) (u 0) ++ (wH g (hd 1) (b.2.2.1 1) (u 1) ++ (wH g (hd 2) (b.2.2.1 2) (u 2) ++ (wH g (hd 3) (b.2.2.1 3) (u 3) ++ (wH g (hd 4) (b.2.2.1 4) (u 4) ++ (wH g (hd 5) (b.2.2.1 5) (u 5) ++ (wH g (hd 6) (b.2.2.1 6) (u 6) ++ (wH g (hd 7) (b.2.2.1 7) (u 7) ++ (wH g (hd 8) (b.2.2.1 8) (u 8) ++ (wH g (hd 9) (b.2.2.1 9) (u 9) ++ ([])))))))))))))))) := by
  refine MetD.ofW (cc := cX6_keep) (maxL := 2) (ret := (some .int)) (by decide) rfl ?_
  intro p e s m args below meth c s₁ B hml hv hd0
  obtain ⟨rfl, hsz, hP, hD0, hKK⟩ := hv
  subst hsz
  have hx := B.exec
  have hb := B.bytes
  have hr := B.returns
  have hts := atoms_spec (ws := wsX6_keep) B.pre
  have hown : ∀ d, (s.setDrawn d).vm.findClass RX6 = some m.cls := fun _ => findClass_of_methodNamed B.named
  have hlocks := B.notSynchronized
  have hK : ∀ d, va_K g.1 vwCl (KT g) (s.setDrawn d) := fun d => (hKK.drawn d).1
  have hD := hD0.self (sz := s.heap.size)
  generalize hZe : va_A (wTp g a0 a1 a2 a0t (adp 0) (adr 0) a0i (hd 0 0) (hd 1 0) im kf ++ (wC g a0t rgt yct fct ++ (wPa g adp Ap Fp ++ (wRe g adr Ar ++ (wHi g a0i a1i pf nxi kni ++ (wH g (hd 0) (HA 0) (HF 0) ++ (wH g (hd 1) (HA 1) (HF 1) ++ (wH g (hd 2) (HA 2) (HF 2) ++ (wH g (hd 3) (HA 3) (HF 3) ++ (wH g (hd 4) (HA 4) (HF 4) ++ (wH g (hd 5) (HA 5) (HF 5) ++ (wH g (hd 6) (HA 6) (HF 6) ++ (wH g (hd 7) (HA 7) (HF 7) ++ (wH g (hd 8) (HA 8) (HF 8) ++ (wH g (hd 9) (HA 9) (HF 9) ++ ([])))))))))))))))) s.heap.size = Z at hD ⊢
  have hZ : ∀ q : Nat, s.heap.size ≤ q → Z q := fun q h => by rw [← hZe]; exact Or.inr h
  have hS : va_S Z s.heap s.heap [] := va_S.rf
  have hP : va_P g.1 vwCl (wTp g a0 a1 a2 a0t (adp 0) (adr 0) a0i (hd 0 0) (hd 1 0) im kf ++ (wC g a0t rgt yct fct ++ (wPa g adp Ap Fp ++ (wRe g adr Ar ++ (wHi g a0i a1i pf nxi kni ++ (wH g (hd 0) (HA 0) (HF 0) ++ (wH g (hd 1) (HA 1) (HF 1) ++ (wH g (hd 2) (HA 2) (HF 2) ++ (wH g (hd 3) (HA 3) (HF 3) ++ (wH g (hd 4) (HA 4) (HF 4) ++ (wH g (hd 5) (HA 5) (HF 5) ++ (wH g (hd 6) (HA 6) (HF 6) ++ (wH g (hd 7) (HA 7) (HF 7) ++ (wH g (hd 8) (HA 8) (HF 8) ++ (wH g (hd 9) (HA 9) (HF 9) ++ ([])))))))))))))))) s.heap := hP
  have hD : va_D Z (wTp g a0 a1 a2 a0t (adp 0) (adr 0) a0i (hd 0 0) (hd 1 0) im kf ++ (wC g a0t rgt yct fct ++ (wPa g adp Ap Fp ++ (wRe g adr Ar ++ (wHi g a0i a1i pf nxi kni ++ (wH g (hd 0) (HA 0) (HF 0) ++ (wH g (hd 1) (HA 1) (HF 1) ++ (wH g (hd 2) (HA 2) (HF 2) ++ (wH g (hd 3) (HA 3) (HF 3) ++ (wH g (hd 4) (HA 4) (HF 4) ++ (wH g (hd 5) (HA 5) (HF 5) ++ (wH g (hd 6) (HA 6) (HF 6) ++ (wH g (hd 7) (HA 7) (HF 7) ++ (wH g (hd 8) (HA 8) (HF 8) ++ (wH g (hd 9) (HA 9) (HF 9) ++ ([])))))))))))))))) := hD
  obtain ⟨d, hdr, hdd⟩ : ∃ d, s.drawn.sameBut d lw_cs ∧ s.drawn = d := ⟨_, hd0, rfl⟩
  rw [hdd]
  have hl := lv_entry ([.ref a0, .int p0]) (n := 2) (Nat.le_of_ble_eq_true rfl)
  rw [lg_entry_eq]
  generalize (lg_sl ([.ref a0, .int p0]) ++ List.replicate (2 - (lg_sl ([.ref a0, .int p0])).length) Slot.unset).toArray = ls at hl ⊢
  have hl : lv_has ls 2 [(0, .ref a0), (1, .int p0)] := hl
  unfold sX6_keep at hsem
  refine lv_iload_n hx hb dX6_keep_0 rfl (lv_at hl 1 rfl) ?_
  obtain ⟨x1, hc1, hsem⟩ := bn_some hsem
  refine pcS (As := [.int p0]) (rest := []) ⟨hx, hb, hml, (hown d), (dr_words hts d)⟩ (hKK.drawn d) (va_cwS 1 (dr_words hts d) gX6_keep_X6_isImage rfl rfl rfl hdX6_isImage ⟨Nat.le_of_ble_eq_true rfl, Nat.le_of_ble_eq_true rfl⟩) (kX6_isImage (l := l) (g := g) hc1) rfl hl.1 rfl (Nat.le_of_ble_eq_true rfl) dX6_keep_1 ⟨Nat.zero_le _, Nat.zero_le _⟩ ?_
  refine lv_if_ne (tgt := 9) hx hb dX6_keep_4 (by decide) (fun c1 => ?_) (fun c1 => ?_)
  · rw [if_neg c1] at hsem
    refine lv_aload_n hx hb dX6_keep_9 rfl (lv_at hl 0 rfl) ?_
    refine va_get (D := g.1) (ci := 6) (v := .ref a1) (C := RX6) (T := TX6) (N := 8) hx hb (dr_words hts d) (fun w h => List.mem_cons_of_mem _ (List.mem_append_left _ (List.mem_append_left _ (List.mem_append_right _ h)))) (hown d) (hK d) hP 0 rfl rfl 3 (by decide) ((dr_words hts d) (.fieldLink RX6 26 "PauseRegions" "images" "[LPauseRegions$Heap;") (List.mem_of_getElem? (i := 1) rfl)) (fun _ h9 => h9) rfl dX6_keep_10 ?_
    refine lv_iload_n hx hb dX6_keep_13 rfl (lv_at hl 1 rfl) ?_
    obtain ⟨h1, hsem⟩ := ck_some hsem
    refine va_aldq (D := g.1) (C := RX1) hx hb (hK d) hP 1 3 rfl rfl h1 dX6_keep_14 ?_
    by_cases c2 : p0 = 0
    · rw [if_pos c2] at hsem
      have ej : im p0.toNatClampNeg = some (hd 8 0) := by rw [c2]; exact him 0 (by decide)
      refine W.eq (g2 := F0 m 15 ls [.ref (hd 8 0)]) (by rw [ej]; rfl) ?_
      refine lv_aload_n hx hb dX6_keep_15 rfl (lv_at hl 0 rfl) ?_
      refine va_get (D := g.1) (ci := 6) (v := .ref (hd 0 0)) (C := RX6) (T := TX6) (N := 8) hx hb (dr_words hts d) (fun w h => List.mem_cons_of_mem _ (List.mem_append_left _ (List.mem_append_left _ (List.mem_append_right _ h)))) (hown d) (hK d) hP 0 rfl rfl 0 (by decide) ((dr_words hts d) (.fieldLink RX6 10 "PauseRegions" "heap" "LPauseRegions$Heap;") (List.mem_of_getElem? (i := 2) rfl)) (fun _ h9 => h9) rfl dX6_keep_16 ?_
      obtain ⟨z1, hc2, hsem⟩ := bn_some hsem
      refine tdV (C := RX1) (As := [.ref (hd 0 0)]) (rest := []) hP hD hS hZ (pF3 (wTp g a0 a1 a2 a0t (adp 0) (adr 0) a0i (hd 0 0) (hd 1 0) im kf ++ (wC g a0t rgt yct fct ++ (wPa g adp Ap Fp ++ (wRe g adr Ar ++ (wHi g a0i a1i pf nxi kni ++ ([])))))) (wH g (hd 0) (HA 0) (HF 0)) (wH g (hd 1) (HA 1) (HF 1) ++ (wH g (hd 2) (HA 2) (HF 2) ++ (wH g (hd 3) (HA 3) (HF 3) ++ (wH g (hd 4) (HA 4) (HF 4) ++ (wH g (hd 5) (HA 5) (HF 5) ++ (wH g (hd 6) (HA 6) (HF 6) ++ (wH g (hd 7) (HA 7) (HF 7) ++ ([])))))))) (wH g (hd 8) (HA 8) (HF 8)) (wH g (hd 9) (HA 9) (HF 9) ++ ([]))) hdr ⟨hx, hb, hml, (hown d), (dr_words hts d)⟩ (hKK.drawn d) (cwV 1 (dr_words hts d) gX6_keep_X1_becomeLike rfl rfl rfl hdX1_becomeLike ⟨Nat.le_of_ble_eq_true rfl, Nat.le_of_ble_eq_true rfl⟩) (kX1_becomeLike (l := l) (g := g) (ad := hd 8) (A := (HA 8)) (F := (HF 8)) (Fc := (HFc 8)) (adh := hd 0) (Ah := (HA 0)) (Fh := (HF 0)) (Fhc := (HFc 0)) (hALH 8) (hALH 0) hc2) (va_recv (hK d) hP (ci := 1) (q0 := 134) rfl rfl) rfl hl.1 rfl (Nat.le_of_ble_eq_true rfl) dX6_keep_19 ⟨Nat.zero_le _, Nat.zero_le _⟩ (fun u1 H locs d hpo hP hD hS hdr => ?_)
      obtain ⟨HA1, eHA1, hsem⟩ := bd_some hsem
      obtain ⟨HF1, eHF1⟩ : ∃ z, z = upF HF 8 u1 := ⟨_, rfl⟩
      obtain ⟨HF1c, eHF1c, hsem⟩ := bd_some hsem
      have haHF1 : ALH HF1 HF1c := by rw [eHF1, eHF1c]; exact ALH.up hALH hpo
      have hP : va_P g.1 vwCl (wTp g a0 a1 a2 a0t (adp 0) (adr 0) a0i (hd 0 0) (hd 1 0) im kf ++ (wC g a0t rgt yct fct ++ (wPa g adp Ap Fp ++ (wRe g adr Ar ++ (wHi g a0i a1i pf nxi kni ++ (wH g (hd 0) (HA1 0) (HF1 0) ++ (wH g (hd 1) (HA1 1) (HF1 1) ++ (wH g (hd 2) (HA1 2) (HF1 2) ++ (wH g (hd 3) (HA1 3) (HF1 3) ++ (wH g (hd 4) (HA1 4) (HF1 4) ++ (wH g (hd 5) (HA1 5) (HF1 5) ++ (wH g (hd 6) (HA1 6) (HF1 6) ++ (wH g (hd 7) (HA1 7) (HF1 7) ++ (wH g (hd 8) (HA1 8) (HF1 8) ++ (wH g (hd 9) (HA1 9) (HF1 9) ++ ([])))))))))))))))) H := vaP_perm (pF3 (wTp g a0 a1 a2 a0t (adp 0) (adr 0) a0i (hd 0 0) (hd 1 0) im kf ++ (wC g a0t rgt yct fct ++ (wPa g adp Ap Fp ++ (wRe g adr Ar ++ (wHi g a0i a1i pf nxi kni ++ ([])))))) (wH g (hd 0) (HA1 0) (HF1 0)) (wH g (hd 1) (HA1 1) (HF1 1) ++ (wH g (hd 2) (HA1 2) (HF1 2) ++ (wH g (hd 3) (HA1 3) (HF1 3) ++ (wH g (hd 4) (HA1 4) (HF1 4) ++ (wH g (hd 5) (HA1 5) (HF1 5) ++ (wH g (hd 6) (HA1 6) (HF1 6) ++ (wH g (hd 7) (HA1 7) (HF1 7) ++ ([])))))))) (wH g (hd 8) (HA1 8) (HF1 8)) (wH g (hd 9) (HA1 9) (HF1 9) ++ ([]))).symm (by rw [eHA1, eHF1]; exact hP)
      have hD : va_D Z (wTp g a0 a1 a2 a0t (adp 0) (adr 0) a0i (hd 0 0) (hd 1 0) im kf ++ (wC g a0t rgt yct fct ++ (wPa g adp Ap Fp ++ (wRe g adr Ar ++ (wHi g a0i a1i pf nxi kni ++ (wH g (hd 0) (HA1 0) (HF1 0) ++ (wH g (hd 1) (HA1 1) (HF1 1) ++ (wH g (hd 2) (HA1 2) (HF1 2) ++ (wH g (hd 3) (HA1 3) (HF1 3) ++ (wH g (hd 4) (HA1 4) (HF1 4) ++ (wH g (hd 5) (HA1 5) (HF1 5) ++ (wH g (hd 6) (HA1 6) (HF1 6) ++ (wH g (hd 7) (HA1 7) (HF1 7) ++ (wH g (hd 8) (HA1 8) (HF1 8) ++ (wH g (hd 9) (HA1 9) (HF1 9) ++ ([])))))))))))))))) := vaD_perm (pF3 (wTp g a0 a1 a2 a0t (adp 0) (adr 0) a0i (hd 0 0) (hd 1 0) im kf ++ (wC g a0t rgt yct fct ++ (wPa g adp Ap Fp ++ (wRe g adr Ar ++ (wHi g a0i a1i pf nxi kni ++ ([])))))) (wH g (hd 0) (HA1 0) (HF1 0)) (wH g (hd 1) (HA1 1) (HF1 1) ++ (wH g (hd 2) (HA1 2) (HF1 2) ++ (wH g (hd 3) (HA1 3) (HF1 3) ++ (wH g (hd 4) (HA1 4) (HF1 4) ++ (wH g (hd 5) (HA1 5) (HF1 5) ++ (wH g (hd 6) (HA1 6) (HF1 6) ++ (wH g (hd 7) (HA1 7) (HF1 7) ++ ([])))))))) (wH g (hd 8) (HA1 8) (HF1 8)) (wH g (hd 9) (HA1 9) (HF1 9) ++ ([]))).symm (by rw [eHA1, eHF1]; exact hD)
      refine lv_aload_n hx hb dX6_keep_22 rfl (lv_at hl 0 rfl) ?_
      refine va_get (D := g.1) (ci := 6) (v := .ref a2) (C := RX6) (T := TX6) (N := 8) hx hb (dr_words hts d) (fun w h => List.mem_cons_of_mem _ (List.mem_append_left _ (List.mem_append_left _ (List.mem_append_right _ h)))) (hown d) (hK d) hP 0 rfl rfl 4 (by decide) ((dr_words hts d) (.fieldLink RX6 30 "PauseRegions" "kept" "[Z") (List.mem_of_getElem? (i := 3) rfl)) (fun _ h9 => h9) rfl dX6_keep_23 ?_
      refine lv_iload_n hx hb dX6_keep_26 rfl (lv_at hl 1 rfl) ?_
      refine lv_iconst (v := 1) hx hb dX6_keep_27 (by decide) ?_
      obtain ⟨h2, hsem⟩ := ck_some hsem
      refine va_zast (D := g.1) hx hb (hK d) hP hD hS 2 1 rfl rfl h2 dX6_keep_28 (fun H locs hP hD hS => ?_)
      obtain ⟨kf1, ekf1, hsem⟩ := bd_some hsem
      have hP : va_P g.1 vwCl (wTp g a0 a1 a2 a0t (adp 0) (adr 0) a0i (hd 0 0) (hd 1 0) im kf1 ++ (wC g a0t rgt yct fct ++ (wPa g adp Ap Fp ++ (wRe g adr Ar ++ (wHi g a0i a1i pf nxi kni ++ (wH g (hd 0) (HA1 0) (HF1 0) ++ (wH g (hd 1) (HA1 1) (HF1 1) ++ (wH g (hd 2) (HA1 2) (HF1 2) ++ (wH g (hd 3) (HA1 3) (HF1 3) ++ (wH g (hd 4) (HA1 4) (HF1 4) ++ (wH g (hd 5) (HA1 5) (HF1 5) ++ (wH g (hd 6) (HA1 6) (HF1 6) ++ (wH g (hd 7) (HA1 7) (HF1 7) ++ (wH g (hd 8) (HA1 8) (HF1 8) ++ (wH g (hd 9) (HA1 9) (HF1 9) ++ ([])))))))))))))))) H := by rw [ekf1]; exact hP
      have hD : va_D Z (wTp g a0 a1 a2 a0t (adp 0) (adr 0) a0i (hd 0 0) (hd 1 0) im kf1 ++ (wC g a0t rgt yct fct ++ (wPa g adp Ap Fp ++ (wRe g adr Ar ++ (wHi g a0i a1i pf nxi kni ++ (wH g (hd 0) (HA1 0) (HF1 0) ++ (wH g (hd 1) (HA1 1) (HF1 1) ++ (wH g (hd 2) (HA1 2) (HF1 2) ++ (wH g (hd 3) (HA1 3) (HF1 3) ++ (wH g (hd 4) (HA1 4) (HF1 4) ++ (wH g (hd 5) (HA1 5) (HF1 5) ++ (wH g (hd 6) (HA1 6) (HF1 6) ++ (wH g (hd 7) (HA1 7) (HF1 7) ++ (wH g (hd 8) (HA1 8) (HF1 8) ++ (wH g (hd 9) (HA1 9) (HF1 9) ++ ([])))))))))))))))) := by rw [ekf1]; exact hD
      refine lv_aload_n hx hb dX6_keep_29 rfl (lv_at hl 0 rfl) ?_
      refine va_get (D := g.1) (ci := 6) (v := .ref (hd 0 0)) (C := RX6) (T := TX6) (N := 8) hx hb (dr_words hts d) (fun w h => List.mem_cons_of_mem _ (List.mem_append_left _ (List.mem_append_left _ (List.mem_append_right _ h)))) (hown d) (hK d) hP 0 rfl rfl 0 (by decide) ((dr_words hts d) (.fieldLink RX6 10 "PauseRegions" "heap" "LPauseRegions$Heap;") (List.mem_of_getElem? (i := 2) rfl)) (fun _ h9 => h9) rfl dX6_keep_30 ?_
      obtain ⟨x2, hc3, hsem⟩ := bn_some hsem
      refine pcV (C := RX1) (As := []) (rest := []) ⟨hx, hb, hml, (hown d), (dr_words hts d)⟩ (hKK.drawn d) (cwV 0 (dr_words hts d) gX6_keep_X1_thingCount rfl rfl rfl hdX1_thingCount ⟨Nat.le_of_ble_eq_true rfl, Nat.le_of_ble_eq_true rfl⟩) (kX1_thingCount (l := l) (g := g) (hP.sub (ws' := wH g (hd 0) (HA1 0) (HF1 0)) [14, 15, 16, 17, 18, 19, 20, 21, 22, 23, 24, 25, 26, 27, 28] rfl) hc3) (va_recv (hK d) hP (ci := 1) (q0 := 14) rfl rfl) rfl hl.1 rfl (Nat.le_of_ble_eq_true rfl) dX6_keep_33 ⟨Nat.zero_le _, Nat.zero_le _⟩ ?_
      have eo := (Option.some.inj hsem).symm.symm
      refine W.endD hdr ?_
      subst eo
      exact W.iret (v := x2) hx hb hr (fun t ht hW => ⟨⟨_, HF1, rfl, ⟨rfl, haHF1⟩, ⟨by rw [ht]; exact hP, hD⟩⟩, hS.F ht⟩) hS.2.2 dX6_keep_36
    rw [if_neg c2] at hsem
    by_cases c3 : p0 = 1
    · rw [if_pos c3] at hsem
      have ej : im p0.toNatClampNeg = some (hd 9 0) := by rw [c3]; exact him 1 (by decide)
      refine W.eq (g2 := F0 m 15 ls [.ref (hd 9 0)]) (by rw [ej]; rfl) ?_
      refine lv_aload_n hx hb dX6_keep_15 rfl (lv_at hl 0 rfl) ?_
      refine va_get (D := g.1) (ci := 6) (v := .ref (hd 0 0)) (C := RX6) (T := TX6) (N := 8) hx hb (dr_words hts d) (fun w h => List.mem_cons_of_mem _ (List.mem_append_left _ (List.mem_append_left _ (List.mem_append_right _ h)))) (hown d) (hK d) hP 0 rfl rfl 0 (by decide) ((dr_words hts d) (.fieldLink RX6 10 "PauseRegions" "heap" "LPauseRegions$Heap;") (List.mem_of_getElem? (i := 2) rfl)) (fun _ h9 => h9) rfl dX6_keep_16 ?_
      obtain ⟨z2, hc4, hsem⟩ := bn_some hsem
      refine tdV (C := RX1) (As := [.ref (hd 0 0)]) (rest := []) hP hD hS hZ (pF3 (wTp g a0 a1 a2 a0t (adp 0) (adr 0) a0i (hd 0 0) (hd 1 0) im kf ++ (wC g a0t rgt yct fct ++ (wPa g adp Ap Fp ++ (wRe g adr Ar ++ (wHi g a0i a1i pf nxi kni ++ ([])))))) (wH g (hd 0) (HA 0) (HF 0)) (wH g (hd 1) (HA 1) (HF 1) ++ (wH g (hd 2) (HA 2) (HF 2) ++ (wH g (hd 3) (HA 3) (HF 3) ++ (wH g (hd 4) (HA 4) (HF 4) ++ (wH g (hd 5) (HA 5) (HF 5) ++ (wH g (hd 6) (HA 6) (HF 6) ++ (wH g (hd 7) (HA 7) (HF 7) ++ (wH g (hd 8) (HA 8) (HF 8) ++ ([]))))))))) (wH g (hd 9) (HA 9) (HF 9)) ([])) hdr ⟨hx, hb, hml, (hown d), (dr_words hts d)⟩ (hKK.drawn d) (cwV 1 (dr_words hts d) gX6_keep_X1_becomeLike rfl rfl rfl hdX1_becomeLike ⟨Nat.le_of_ble_eq_true rfl, Nat.le_of_ble_eq_true rfl⟩) (kX1_becomeLike (l := l) (g := g) (ad := hd 9) (A := (HA 9)) (F := (HF 9)) (Fc := (HFc 9)) (adh := hd 0) (Ah := (HA 0)) (Fh := (HF 0)) (Fhc := (HFc 0)) (hALH 9) (hALH 0) hc4) (va_recv (hK d) hP (ci := 1) (q0 := 149) rfl rfl) rfl hl.1 rfl (Nat.le_of_ble_eq_true rfl) dX6_keep_19 ⟨Nat.zero_le _, Nat.zero_le _⟩ (fun u2 H locs d hpo hP hD hS hdr => ?_)
      obtain ⟨HA2, eHA2, hsem⟩ := bd_some hsem
      obtain ⟨HF2, eHF2⟩ : ∃ z, z = upF HF 9 u2 := ⟨_, rfl⟩
      obtain ⟨HF2c, eHF2c, hsem⟩ := bd_some hsem
      have haHF2 : ALH HF2 HF2c := by rw [eHF2, eHF2c]; exact ALH.up hALH hpo
      have hP : va_P g.1 vwCl (wTp g a0 a1 a2 a0t (adp 0) (adr 0) a0i (hd 0 0) (hd 1 0) im kf ++ (wC g a0t rgt yct fct ++ (wPa g adp Ap Fp ++ (wRe g adr Ar ++ (wHi g a0i a1i pf nxi kni ++ (wH g (hd 0) (HA2 0) (HF2 0) ++ (wH g (hd 1) (HA2 1) (HF2 1) ++ (wH g (hd 2) (HA2 2) (HF2 2) ++ (wH g (hd 3) (HA2 3) (HF2 3) ++ (wH g (hd 4) (HA2 4) (HF2 4) ++ (wH g (hd 5) (HA2 5) (HF2 5) ++ (wH g (hd 6) (HA2 6) (HF2 6) ++ (wH g (hd 7) (HA2 7) (HF2 7) ++ (wH g (hd 8) (HA2 8) (HF2 8) ++ (wH g (hd 9) (HA2 9) (HF2 9) ++ ([])))))))))))))))) H := vaP_perm (pF3 (wTp g a0 a1 a2 a0t (adp 0) (adr 0) a0i (hd 0 0) (hd 1 0) im kf ++ (wC g a0t rgt yct fct ++ (wPa g adp Ap Fp ++ (wRe g adr Ar ++ (wHi g a0i a1i pf nxi kni ++ ([])))))) (wH g (hd 0) (HA2 0) (HF2 0)) (wH g (hd 1) (HA2 1) (HF2 1) ++ (wH g (hd 2) (HA2 2) (HF2 2) ++ (wH g (hd 3) (HA2 3) (HF2 3) ++ (wH g (hd 4) (HA2 4) (HF2 4) ++ (wH g (hd 5) (HA2 5) (HF2 5) ++ (wH g (hd 6) (HA2 6) (HF2 6) ++ (wH g (hd 7) (HA2 7) (HF2 7) ++ (wH g (hd 8) (HA2 8) (HF2 8) ++ ([]))))))))) (wH g (hd 9) (HA2 9) (HF2 9)) ([])).symm (by rw [eHA2, eHF2]; exact hP)
      have hD : va_D Z (wTp g a0 a1 a2 a0t (adp 0) (adr 0) a0i (hd 0 0) (hd 1 0) im kf ++ (wC g a0t rgt yct fct ++ (wPa g adp Ap Fp ++ (wRe g adr Ar ++ (wHi g a0i a1i pf nxi kni ++ (wH g (hd 0) (HA2 0) (HF2 0) ++ (wH g (hd 1) (HA2 1) (HF2 1) ++ (wH g (hd 2) (HA2 2) (HF2 2) ++ (wH g (hd 3) (HA2 3) (HF2 3) ++ (wH g (hd 4) (HA2 4) (HF2 4) ++ (wH g (hd 5) (HA2 5) (HF2 5) ++ (wH g (hd 6) (HA2 6) (HF2 6) ++ (wH g (hd 7) (HA2 7) (HF2 7) ++ (wH g (hd 8) (HA2 8) (HF2 8) ++ (wH g (hd 9) (HA2 9) (HF2 9) ++ ([])))))))))))))))) := vaD_perm (pF3 (wTp g a0 a1 a2 a0t (adp 0) (adr 0) a0i (hd 0 0) (hd 1 0) im kf ++ (wC g a0t rgt yct fct ++ (wPa g adp Ap Fp ++ (wRe g adr Ar ++ (wHi g a0i a1i pf nxi kni ++ ([])))))) (wH g (hd 0) (HA2 0) (HF2 0)) (wH g (hd 1) (HA2 1) (HF2 1) ++ (wH g (hd 2) (HA2 2) (HF2 2) ++ (wH g (hd 3) (HA2 3) (HF2 3) ++ (wH g (hd 4) (HA2 4) (HF2 4) ++ (wH g (hd 5) (HA2 5) (HF2 5) ++ (wH g (hd 6) (HA2 6) (HF2 6) ++ (wH g (hd 7) (HA2 7) (HF2 7) ++ (wH g (hd 8) (HA2 8) (HF2 8) ++ ([]))))))))) (wH g (hd 9) (HA2 9) (HF2 9)) ([])).symm (by rw [eHA2, eHF2]; exact hD)
      refine lv_aload_n hx hb dX6_keep_22 rfl (lv_at hl 0 rfl) ?_
      refine va_get (D := g.1) (ci := 6) (v := .ref a2) (C := RX6) (T := TX6) (N := 8) hx hb (dr_words hts d) (fun w h => List.mem_cons_of_mem _ (List.mem_append_left _ (List.mem_append_left _ (List.mem_append_right _ h)))) (hown d) (hK d) hP 0 rfl rfl 4 (by decide) ((dr_words hts d) (.fieldLink RX6 30 "PauseRegions" "kept" "[Z") (List.mem_of_getElem? (i := 3) rfl)) (fun _ h9 => h9) rfl dX6_keep_23 ?_
      refine lv_iload_n hx hb dX6_keep_26 rfl (lv_at hl 1 rfl) ?_
      refine lv_iconst (v := 1) hx hb dX6_keep_27 (by decide) ?_
      obtain ⟨h3, hsem⟩ := ck_some hsem
      refine va_zast (D := g.1) hx hb (hK d) hP hD hS 2 1 rfl rfl h3 dX6_keep_28 (fun H locs hP hD hS => ?_)
      obtain ⟨kf2, ekf2, hsem⟩ := bd_some hsem
      have hP : va_P g.1 vwCl (wTp g a0 a1 a2 a0t (adp 0) (adr 0) a0i (hd 0 0) (hd 1 0) im kf2 ++ (wC g a0t rgt yct fct ++ (wPa g adp Ap Fp ++ (wRe g adr Ar ++ (wHi g a0i a1i pf nxi kni ++ (wH g (hd 0) (HA2 0) (HF2 0) ++ (wH g (hd 1) (HA2 1) (HF2 1) ++ (wH g (hd 2) (HA2 2) (HF2 2) ++ (wH g (hd 3) (HA2 3) (HF2 3) ++ (wH g (hd 4) (HA2 4) (HF2 4) ++ (wH g (hd 5) (HA2 5) (HF2 5) ++ (wH g (hd 6) (HA2 6) (HF2 6) ++ (wH g (hd 7) (HA2 7) (HF2 7) ++ (wH g (hd 8) (HA2 8) (HF2 8) ++ (wH g (hd 9) (HA2 9) (HF2 9) ++ ([])))))))))))))))) H := by rw [ekf2]; exact hP
      have hD : va_D Z (wTp g a0 a1 a2 a0t (adp 0) (adr 0) a0i (hd 0 0) (hd 1 0) im kf2 ++ (wC g a0t rgt yct fct ++ (wPa g adp Ap Fp ++ (wRe g adr Ar ++ (wHi g a0i a1i pf nxi kni ++ (wH g (hd 0) (HA2 0) (HF2 0) ++ (wH g (hd 1) (HA2 1) (HF2 1) ++ (wH g (hd 2) (HA2 2) (HF2 2) ++ (wH g (hd 3) (HA2 3) (HF2 3) ++ (wH g (hd 4) (HA2 4) (HF2 4) ++ (wH g (hd 5) (HA2 5) (HF2 5) ++ (wH g (hd 6) (HA2 6) (HF2 6) ++ (wH g (hd 7) (HA2 7) (HF2 7) ++ (wH g (hd 8) (HA2 8) (HF2 8) ++ (wH g (hd 9) (HA2 9) (HF2 9) ++ ([])))))))))))))))) := by rw [ekf2]; exact hD
      refine lv_aload_n hx hb dX6_keep_29 rfl (lv_at hl 0 rfl) ?_
      refine va_get (D := g.1) (ci := 6) (v := .ref (hd 0 0)) (C := RX6) (T := TX6) (N := 8) hx hb (dr_words hts d) (fun w h => List.mem_cons_of_mem _ (List.mem_append_left _ (List.mem_append_left _ (List.mem_append_right _ h)))) (hown d) (hK d) hP 0 rfl rfl 0 (by decide) ((dr_words hts d) (.fieldLink RX6 10 "PauseRegions" "heap" "LPauseRegions$Heap;") (List.mem_of_getElem? (i := 2) rfl)) (fun _ h9 => h9) rfl dX6_keep_30 ?_
      obtain ⟨x3, hc5, hsem⟩ := bn_some hsem
      refine pcV (C := RX1) (As := []) (rest := []) ⟨hx, hb, hml, (hown d), (dr_words hts d)⟩ (hKK.drawn d) (cwV 0 (dr_words hts d) gX6_keep_X1_thingCount rfl rfl rfl hdX1_thingCount ⟨Nat.le_of_ble_eq_true rfl, Nat.le_of_ble_eq_true rfl⟩) (kX1_thingCount (l := l) (g := g) (hP.sub (ws' := wH g (hd 0) (HA2 0) (HF2 0)) [14, 15, 16, 17, 18, 19, 20, 21, 22, 23, 24, 25, 26, 27, 28] rfl) hc5) (va_recv (hK d) hP (ci := 1) (q0 := 14) rfl rfl) rfl hl.1 rfl (Nat.le_of_ble_eq_true rfl) dX6_keep_33 ⟨Nat.zero_le _, Nat.zero_le _⟩ ?_
      have eo := (Option.some.inj hsem).symm.symm
      refine W.endD hdr ?_
      subst eo
      exact W.iret (v := x3) hx hb hr (fun t ht hW => ⟨⟨_, HF2, rfl, ⟨rfl, haHF2⟩, ⟨by rw [ht]; exact hP, hD⟩⟩, hS.F ht⟩) hS.2.2 dX6_keep_36
    rw [if_neg c3] at hsem
    cases hsem
  · rw [if_pos c1] at hsem
    refine lv_iconst (v := (-1)) hx hb dX6_keep_7 (by decide) ?_
    have eo := (Option.some.inj hsem).symm.symm
    refine W.endD hdr ?_
    subst eo
    exact W.iret (v := (-1)) hx hb hr (fun t ht hW => ⟨⟨_, HF, rfl, ⟨rfl, hALH⟩, ⟨by rw [ht]; exact hP, hD⟩⟩, hS.F ht⟩) hS.2.2 dX6_keep_8
def sX6_learnt (HFc : Nat → FA) (p0 : Int32) : Option (Int32) :=
  (sX6_within p0 0 1).bind fun x1 => if x1 = 0 then (some (-1)) else (if p0 = 0 then (some (FP.f2i (FP.fmul 1120403456 ((HFc 0) 14 0)))) else (some (FP.f2i (FP.fmul 1120403456 ((HFc 0) 15 0)))))
abbrev rmX6_learnt : Room := { frames := 1, cells := 0, slots := 0, locals := 22 }
theorem hdX6_learnt : yX6_learnt.cls = RX6 ∧ yX6_learnt.cls ≠ "java/lang/invoke/MethodHandle" ∧ yX6_learnt.cls ≠ "java/lang/invoke/VarHandle" ∧ (parseMethodDescriptor yX6_learnt.desc).map (fun d => d.parameters.length) = some 1 := by decide +kernel
set_option maxHeartbeats 8000000 in
set_option maxRecDepth 100000 in
theorem kX6_learnt {l : Launch} {g : GG} {sz : Nat} {a0 a1 a2 : Nat} {im : Nat → Option Nat} {kf : Nat → Int32} {a0t : Nat} {rgt : Int32} {yct : Int32} {fct : UInt32} {adp : Nat → Nat} {Ap : IA} {Fp : FA} {adr : Nat → Nat} {Ar : IA} {a0i a1i : Nat} {pf : Nat → Option Nat} {nxi kni : Int32} {hd : Nat → Nat → Nat} {HA : Nat → IA} {HF : Nat → FA} {p0 : Int32} {fctc : UInt32} (hfct : alike32 fct fctc = true) {Fpc : FA} (hALp : AL Fp Fpc) {HFc : Nat → FA} (hALH : ALH HF HFc) {b : Int32} (hsem : sX6_learnt HFc p0 = some b) : MetDI l yX6_learnt wsX6_learnt rmX6_learnt g [.ref a0, .int p0] (wTp g a0 a1 a2 a0t (adp 0) (adr 0) a0i (hd 0 0) (hd 1 0) im kf ++ (wC g a0t rgt yct fct ++ (wPa g adp Ap Fp ++ (wRe g adr Ar ++ (wHi g a0i a1i pf nxi kni ++ (wH g (hd 0) (HA 0) (HF 0) ++ (wH g (hd 1) (HA 1) (HF 1) ++ (wH g (hd 2) (HA 2) (HF 2) ++ (wH g (hd 3) (HA 3) (HF 3) ++ (wH g (hd 4) (HA 4) (HF 4) ++ (wH g (hd 5) (HA 5) (HF 5) ++ (wH g (hd 6) (HA 6) (HF 6) ++ (wH g (hd 7) (HA 7) (HF 7) ++ (wH g (hd 8) (HA 8) (HF 8) ++ (wH g (hd 9) (HA 9) (HF 9) ++ ([])))))))))))))))) sz b (φ := Unit) (fun u => True) (fun u => wTp g a0 a1 a2 a0t (adp 0) (adr 0) a0i (hd 0 0) (hd 1 0) im kf ++ (wC g a0t rgt yct fct ++ (wPa g adp Ap Fp ++ (wRe g adr Ar ++ (wHi g a0i a1i pf nxi kni ++ (wH g (hd 0) (HA 0) (HF 0) ++ (wH g (hd 1) (HA 1) (HF 1) ++ (wH g (hd 2) (HA 2) (HF 2) ++ (wH g (hd 3) (HA 3) (HF 3) ++ (wH g (hd 4) (HA 4) (HF 4) ++ (wH g (hd 5) (HA 5) (HF 5) ++ (wH g (hd 6) (HA 6) (HF 6) ++ (wH g (hd 7) (HA 7) (HF 7) ++ (wH g (hd 8) (HA 8) (HF 8) ++ (wH g (hd 9) (HA 9) (HF 9) ++ ([])))))))))))))))) := by
  refine MetD.ofW (cc := cX6_learnt) (maxL := 2) (ret := (some .int)) (by decide) rfl ?_
  intro p e s m args below meth c s₁ B hml hv hd0
  obtain ⟨rfl, hsz, hP, hD0, hKK⟩ := hv
  subst hsz
  have hx := B.exec
  have hb := B.bytes
  have hr := B.returns
  have hts := atoms_spec (ws := wsX6_learnt) B.pre
  have hown : ∀ d, (s.setDrawn d).vm.findClass RX6 = some m.cls := fun _ => findClass_of_methodNamed B.named
  have hlocks := B.notSynchronized
  have hK : ∀ d, va_K g.1 vwCl (KT g) (s.setDrawn d) := fun d => (hKK.drawn d).1
  have hD := hD0.self (sz := s.heap.size)
  generalize hZe : va_A (wTp g a0 a1 a2 a0t (adp 0) (adr 0) a0i (hd 0 0) (hd 1 0) im kf ++ (wC g a0t rgt yct fct ++ (wPa g adp Ap Fp ++ (wRe g adr Ar ++ (wHi g a0i a1i pf nxi kni ++ (wH g (hd 0) (HA 0) (HF 0) ++ (wH g (hd 1) (HA 1) (HF 1) ++ (wH g (hd 2) (HA 2) (HF 2) ++ (wH g (hd 3) (HA 3) (HF 3) ++ (wH g (hd 4) (HA 4) (HF 4) ++ (wH g (hd 5) (HA 5) (HF 5) ++ (wH g (hd 6) (HA 6) (HF 6) ++ (wH g (hd 7) (HA 7) (HF 7) ++ (wH g (hd 8) (HA 8) (HF 8) ++ (wH g (hd 9) (HA 9) (HF 9) ++ ([])))))))))))))))) s.heap.size = Z at hD ⊢
  have hZ : ∀ q : Nat, s.heap.size ≤ q → Z q := fun q h => by rw [← hZe]; exact Or.inr h
  have hS : va_S Z s.heap s.heap [] := va_S.rf
  have hP : va_P g.1 vwCl (wTp g a0 a1 a2 a0t (adp 0) (adr 0) a0i (hd 0 0) (hd 1 0) im kf ++ (wC g a0t rgt yct fct ++ (wPa g adp Ap Fp ++ (wRe g adr Ar ++ (wHi g a0i a1i pf nxi kni ++ (wH g (hd 0) (HA 0) (HF 0) ++ (wH g (hd 1) (HA 1) (HF 1) ++ (wH g (hd 2) (HA 2) (HF 2) ++ (wH g (hd 3) (HA 3) (HF 3) ++ (wH g (hd 4) (HA 4) (HF 4) ++ (wH g (hd 5) (HA 5) (HF 5) ++ (wH g (hd 6) (HA 6) (HF 6) ++ (wH g (hd 7) (HA 7) (HF 7) ++ (wH g (hd 8) (HA 8) (HF 8) ++ (wH g (hd 9) (HA 9) (HF 9) ++ ([])))))))))))))))) s.heap := hP
  have hD : va_D Z (wTp g a0 a1 a2 a0t (adp 0) (adr 0) a0i (hd 0 0) (hd 1 0) im kf ++ (wC g a0t rgt yct fct ++ (wPa g adp Ap Fp ++ (wRe g adr Ar ++ (wHi g a0i a1i pf nxi kni ++ (wH g (hd 0) (HA 0) (HF 0) ++ (wH g (hd 1) (HA 1) (HF 1) ++ (wH g (hd 2) (HA 2) (HF 2) ++ (wH g (hd 3) (HA 3) (HF 3) ++ (wH g (hd 4) (HA 4) (HF 4) ++ (wH g (hd 5) (HA 5) (HF 5) ++ (wH g (hd 6) (HA 6) (HF 6) ++ (wH g (hd 7) (HA 7) (HF 7) ++ (wH g (hd 8) (HA 8) (HF 8) ++ (wH g (hd 9) (HA 9) (HF 9) ++ ([])))))))))))))))) := hD
  obtain ⟨d, hdr, hdd⟩ : ∃ d, s.drawn.sameBut d lw_cs ∧ s.drawn = d := ⟨_, hd0, rfl⟩
  rw [hdd]
  have hl := lv_entry ([.ref a0, .int p0]) (n := 2) (Nat.le_of_ble_eq_true rfl)
  rw [lg_entry_eq]
  generalize (lg_sl ([.ref a0, .int p0]) ++ List.replicate (2 - (lg_sl ([.ref a0, .int p0])).length) Slot.unset).toArray = ls at hl ⊢
  have hl : lv_has ls 2 [(0, .ref a0), (1, .int p0)] := hl
  unfold sX6_learnt at hsem
  refine lv_iload_n hx hb dX6_learnt_0 rfl (lv_at hl 1 rfl) ?_
  refine lv_iconst (v := 0) hx hb dX6_learnt_1 (by decide) ?_
  refine lv_iconst (v := 1) hx hb dX6_learnt_2 (by decide) ?_
  obtain ⟨x1, hc1, hsem⟩ := bn_some hsem
  refine pcS (As := [.int p0, .int 0, .int 1]) (rest := []) ⟨hx, hb, hml, (hown d), (dr_words hts d)⟩ (hKK.drawn d) (va_cwS 3 (dr_words hts d) gX6_learnt_X6_within rfl rfl rfl hdX6_within ⟨Nat.le_of_ble_eq_true rfl, Nat.le_of_ble_eq_true rfl⟩) (kX6_within (l := l) (g := g) hc1) rfl hl.1 rfl (Nat.le_of_ble_eq_true rfl) dX6_learnt_3 ⟨Nat.zero_le _, Nat.zero_le _⟩ ?_
  refine lv_if_ne (tgt := 11) hx hb dX6_learnt_6 (by decide) (fun c1 => ?_) (fun c1 => ?_)
  · rw [if_neg c1] at hsem
    refine lv_ldcf hx hb (hown d) ((dr_words hts d) (.constantFloat RX6 180 (1120403456)) (List.mem_of_getElem? (i := 1) rfl)) dX6_learnt_11 ?_
    refine lv_iload_n hx hb dX6_learnt_13 rfl (lv_at hl 1 rfl) ?_
    refine lv_if_ne (tgt := 27) hx hb dX6_learnt_14 (by decide) (fun c2 => ?_) (fun c2 => ?_)
    · rw [if_neg c2] at hsem
      refine lv_aload_n hx hb dX6_learnt_27 rfl (lv_at hl 0 rfl) ?_
      refine va_get (D := g.1) (ci := 6) (v := .ref (hd 0 0)) (C := RX6) (T := TX6) (N := 8) hx hb (dr_words hts d) (fun w h => List.mem_cons_of_mem _ (List.mem_append_left _ (List.mem_append_right _ h))) (hown d) (hK d) hP 0 rfl rfl 0 (by decide) ((dr_words hts d) (.fieldLink RX6 10 "PauseRegions" "heap" "LPauseRegions$Heap;") (List.mem_of_getElem? (i := 2) rfl)) (fun _ h9 => h9) rfl dX6_learnt_28 ?_
      refine va_get (D := g.1) (ci := 1) (v := .float (((HF 0) 15 0))) (C := RX1) (T := TX1) (N := 18) hx hb (dr_words hts d) (fun w h => List.mem_cons_of_mem _ (List.mem_append_right _ h)) (hown d) (hK d) hP 14 rfl rfl 15 (by decide) ((dr_words hts d) (.fieldLink RX6 185 "PauseRegions$Heap" "yielded" "F") (List.mem_of_getElem? (i := 4) rfl)) (fun _ h9 => h9) rfl dX6_learnt_31 ?_
      refine lv_fmul_any hdr lw_bits hx hb dX6_learnt_34 (fun y1 d hal hdr => ?_)
      have ay1 := al_fmul hal (al_refl _) ((hALH 0) 15 0)
      refine lv_f2i hx hb dX6_learnt_35 ?_
      rw [al_f2i ay1]
      have eo := (Option.some.inj hsem).symm.symm
      refine W.endD hdr ?_
      subst eo
      exact W.iret (v := FP.f2i (FP.fmul 1120403456 ((HFc 0) 15 0))) hx hb hr (fun t ht hW => ⟨⟨_, (), rfl, ⟨rfl, trivial⟩, ⟨by rw [ht]; exact hP, hD⟩⟩, hS.F ht⟩) hS.2.2 dX6_learnt_36
    · rw [if_pos c2] at hsem
      refine lv_aload_n hx hb dX6_learnt_17 rfl (lv_at hl 0 rfl) ?_
      refine va_get (D := g.1) (ci := 6) (v := .ref (hd 0 0)) (C := RX6) (T := TX6) (N := 8) hx hb (dr_words hts d) (fun w h => List.mem_cons_of_mem _ (List.mem_append_left _ (List.mem_append_right _ h))) (hown d) (hK d) hP 0 rfl rfl 0 (by decide) ((dr_words hts d) (.fieldLink RX6 10 "PauseRegions" "heap" "LPauseRegions$Heap;") (List.mem_of_getElem? (i := 2) rfl)) (fun _ h9 => h9) rfl dX6_learnt_18 ?_
      refine va_get (D := g.1) (ci := 1) (v := .float (((HF 0) 14 0))) (C := RX1) (T := TX1) (N := 18) hx hb (dr_words hts d) (fun w h => List.mem_cons_of_mem _ (List.mem_append_right _ h)) (hown d) (hK d) hP 14 rfl rfl 14 (by decide) ((dr_words hts d) (.fieldLink RX6 181 "PauseRegions$Heap" "rate" "F") (List.mem_of_getElem? (i := 3) rfl)) (fun _ h9 => h9) rfl dX6_learnt_21 ?_
      refine lv_goto (tgt := 34) hx hb dX6_learnt_24 (by decide) ?_
      refine lv_fmul_any hdr lw_bits hx hb dX6_learnt_34 (fun y2 d hal hdr => ?_)
      have ay2 := al_fmul hal (al_refl _) ((hALH 0) 14 0)
      refine lv_f2i hx hb dX6_learnt_35 ?_
      rw [al_f2i ay2]
      have eo := (Option.some.inj hsem).symm.symm
      refine W.endD hdr ?_
      subst eo
      exact W.iret (v := FP.f2i (FP.fmul 1120403456 ((HFc 0) 14 0))) hx hb hr (fun t ht hW => ⟨⟨_, (), rfl, ⟨rfl, trivial⟩, ⟨by rw [ht]; exact hP, hD⟩⟩, hS.F ht⟩) hS.2.2 dX6_learnt_36
  · rw [if_pos c1] at hsem
    refine lv_iconst (v := (-1)) hx hb dX6_learnt_9 (by decide) ?_
    have eo := (Option.some.inj hsem).symm.symm
    refine W.endD hdr ?_
    subst eo
    exact W.iret (v := (-1)) hx hb hr (fun t ht hW => ⟨⟨_, (), rfl, ⟨rfl, trivial⟩, ⟨by rw [ht]; exact hP, hD⟩⟩, hS.F ht⟩) hS.2.2 dX6_learnt_10
def sX6_makes (nxi : Int32) (kni : Int32) (HA : Nat → IA) (HFc : Nat → FA) (p0 : Int32) (p1 : Int32) : Option (Int32 × Int32 × Int32 × (Nat → IA) × (Nat → FA)) :=
  (sX6_within p0 1 24).bind fun x1 => if x1 = 0 then (some (((-1), nxi, kni, HA, HFc))) else ((sX6_isRoot p1).bind fun x2 => if x2 = 0 then (some (((-1), nxi, kni, HA, HFc))) else ((sX1_unusedNumber (HA 0)).bind fun x3 => (sX1_roomFor (HA 0) p0).bind fun x4 => if x3 = (-9) then (some (((-3), nxi, kni, HA, HFc))) else (if x4 = (-9) then (some (((-3), nxi, kni, HA, HFc))) else ((sX2_push nxi kni HA HFc).bind fun z1 => (sX1_makeThing (z1.2.2.1 0) x3 p0 x4).bind fun z2 => bd (upH z1.2.2.1 0 (z2)) fun HA1 => ck p1 6 (bd (upH HA1 0 (wr (HA1 0) 9 p1.toNatClampNeg x3)) fun HA2 => some (x3, z1.1, z1.2.1, HA2, z1.2.2.2))))))
abbrev rmX6_makes : Room := { frames := 4, cells := 0, slots := 0, locals := 103 }
theorem hdX6_makes : yX6_makes.cls = RX6 ∧ yX6_makes.cls ≠ "java/lang/invoke/MethodHandle" ∧ yX6_makes.cls ≠ "java/lang/invoke/VarHandle" ∧ (parseMethodDescriptor yX6_makes.desc).map (fun d => d.parameters.length) = some 2 := by decide +kernel
set_option maxHeartbeats 8000000 in
set_option maxRecDepth 100000 in
theorem kX6_makes {l : Launch} {g : GG} {sz : Nat} {a0 a1 a2 : Nat} {im : Nat → Option Nat} {kf : Nat → Int32} {a0t : Nat} {rgt : Int32} {yct : Int32} {fct : UInt32} {adp : Nat → Nat} {Ap : IA} {Fp : FA} {adr : Nat → Nat} {Ar : IA} {a0i a1i : Nat} {pf : Nat → Option Nat} {nxi kni : Int32} {hd : Nat → Nat → Nat} {HA : Nat → IA} {HF : Nat → FA} {p0 p1 : Int32} (hpf : ∀ k, k < 6 → pf k = some (hd (2 + k) 0)) {fctc : UInt32} (hfct : alike32 fct fctc = true) {Fpc : FA} (hALp : AL Fp Fpc) {HFc : Nat → FA} (hALH : ALH HF HFc) {b : Int32 × Int32 × Int32 × (Nat → IA) × (Nat → FA)} (hsem : sX6_makes nxi kni HA HFc p0 p1 = some b) : MetDI l yX6_makes wsX6_makes rmX6_makes g [.ref a0, .int p0, .int p1] (wTp g a0 a1 a2 a0t (adp 0) (adr 0) a0i (hd 0 0) (hd 1 0) im kf ++ (wC g a0t rgt yct fct ++ (wPa g adp Ap Fp ++ (wRe g adr Ar ++ (wHi g a0i a1i pf nxi kni ++ (wH g (hd 0) (HA 0) (HF 0) ++ (wH g (hd 1) (HA 1) (HF 1) ++ (wH g (hd 2) (HA 2) (HF 2) ++ (wH g (hd 3) (HA 3) (HF 3) ++ (wH g (hd 4) (HA 4) (HF 4) ++ (wH g (hd 5) (HA 5) (HF 5) ++ (wH g (hd 6) (HA 6) (HF 6) ++ (wH g (hd 7) (HA 7) (HF 7) ++ (wH g (hd 8) (HA 8) (HF 8) ++ (wH g (hd 9) (HA 9) (HF 9) ++ ([])))))))))))))))) sz b.1 (φ := (Nat → FA)) (fun u => ALH u b.2.2.2.2) (fun u => wTp g a0 a1 a2 a0t (adp 0) (adr 0) a0i (hd 0 0) (hd 1 0) im kf ++ (wC g a0t rgt yct fct ++ (wPa g adp Ap Fp ++ (wRe g adr Ar ++ (wHi g a0i a1i pf b.2.1 b.2.2.1 ++ (wH g (hd 0) (b.2.2.2.1 0) (u 0) ++ (wH g (hd 1) (b.2.2.2.1 1) (u 1) ++ (wH g (hd 2) (b.2.2.2.1 2) (u 2) ++ (wH g (hd 3) (b.2.2.2.1 3) (u 3) ++ (wH g (hd 4) (b.2.2.2.1 4) (u 4) ++ (wH g (hd 5) (b.2.2.2.1 5) (u 5) ++ (wH g (hd 6) (b.2.2.2.1 6) (u 6) ++ (wH g (hd 7) (b.2.2.2.1 7) (u 7) ++ (wH g (hd 8) (b.2.2.2.1 8) (u 8) ++ (wH g (hd 9) (b.2.2.2.1 9) (u 9) ++ ([])))))))))))))))) := by
  refine MetD.ofW (cc := cX6_makes) (maxL := 5) (ret := (some .int)) (by decide) rfl ?_
  intro p e s m args below meth c s₁ B hml hv hd0
  obtain ⟨rfl, hsz, hP, hD0, hKK⟩ := hv
  subst hsz
  have hx := B.exec
  have hb := B.bytes
  have hr := B.returns
  have hts := atoms_spec (ws := wsX6_makes) B.pre
  have hown : ∀ d, (s.setDrawn d).vm.findClass RX6 = some m.cls := fun _ => findClass_of_methodNamed B.named
  have hlocks := B.notSynchronized
  have hK : ∀ d, va_K g.1 vwCl (KT g) (s.setDrawn d) := fun d => (hKK.drawn d).1
  have hD := hD0.self (sz := s.heap.size)
  generalize hZe : va_A (wTp g a0 a1 a2 a0t (adp 0) (adr 0) a0i (hd 0 0) (hd 1 0) im kf ++ (wC g a0t rgt yct fct ++ (wPa g adp Ap Fp ++ (wRe g adr Ar ++ (wHi g a0i a1i pf nxi kni ++ (wH g (hd 0) (HA 0) (HF 0) ++ (wH g (hd 1) (HA 1) (HF 1) ++ (wH g (hd 2) (HA 2) (HF 2) ++ (wH g (hd 3) (HA 3) (HF 3) ++ (wH g (hd 4) (HA 4) (HF 4) ++ (wH g (hd 5) (HA 5) (HF 5) ++ (wH g (hd 6) (HA 6) (HF 6) ++ (wH g (hd 7) (HA 7) (HF 7) ++ (wH g (hd 8) (HA 8) (HF 8) ++ (wH g (hd 9) (HA 9) (HF 9) ++ ([])))))))))))))))) s.heap.size = Z at hD ⊢
  have hZ : ∀ q : Nat, s.heap.size ≤ q → Z q := fun q h => by rw [← hZe]; exact Or.inr h
  have hS : va_S Z s.heap s.heap [] := va_S.rf
  have hP : va_P g.1 vwCl (wTp g a0 a1 a2 a0t (adp 0) (adr 0) a0i (hd 0 0) (hd 1 0) im kf ++ (wC g a0t rgt yct fct ++ (wPa g adp Ap Fp ++ (wRe g adr Ar ++ (wHi g a0i a1i pf nxi kni ++ (wH g (hd 0) (HA 0) (HF 0) ++ (wH g (hd 1) (HA 1) (HF 1) ++ (wH g (hd 2) (HA 2) (HF 2) ++ (wH g (hd 3) (HA 3) (HF 3) ++ (wH g (hd 4) (HA 4) (HF 4) ++ (wH g (hd 5) (HA 5) (HF 5) ++ (wH g (hd 6) (HA 6) (HF 6) ++ (wH g (hd 7) (HA 7) (HF 7) ++ (wH g (hd 8) (HA 8) (HF 8) ++ (wH g (hd 9) (HA 9) (HF 9) ++ ([])))))))))))))))) s.heap := hP
  have hD : va_D Z (wTp g a0 a1 a2 a0t (adp 0) (adr 0) a0i (hd 0 0) (hd 1 0) im kf ++ (wC g a0t rgt yct fct ++ (wPa g adp Ap Fp ++ (wRe g adr Ar ++ (wHi g a0i a1i pf nxi kni ++ (wH g (hd 0) (HA 0) (HF 0) ++ (wH g (hd 1) (HA 1) (HF 1) ++ (wH g (hd 2) (HA 2) (HF 2) ++ (wH g (hd 3) (HA 3) (HF 3) ++ (wH g (hd 4) (HA 4) (HF 4) ++ (wH g (hd 5) (HA 5) (HF 5) ++ (wH g (hd 6) (HA 6) (HF 6) ++ (wH g (hd 7) (HA 7) (HF 7) ++ (wH g (hd 8) (HA 8) (HF 8) ++ (wH g (hd 9) (HA 9) (HF 9) ++ ([])))))))))))))))) := hD
  obtain ⟨d, hdr, hdd⟩ : ∃ d, s.drawn.sameBut d lw_cs ∧ s.drawn = d := ⟨_, hd0, rfl⟩
  rw [hdd]
  have hl := lv_entry ([.ref a0, .int p0, .int p1]) (n := 5) (Nat.le_of_ble_eq_true rfl)
  rw [lg_entry_eq]
  generalize (lg_sl ([.ref a0, .int p0, .int p1]) ++ List.replicate (5 - (lg_sl ([.ref a0, .int p0, .int p1])).length) Slot.unset).toArray = ls at hl ⊢
  have hl : lv_has ls 5 [(0, .ref a0), (1, .int p0), (2, .int p1)] := hl
  unfold sX6_makes at hsem
  refine lv_iload_n hx hb dX6_makes_0 rfl (lv_at hl 1 rfl) ?_
  refine lv_iconst (v := 1) hx hb dX6_makes_1 (by decide) ?_
  refine lv_bipush (v := 24) hx hb dX6_makes_2 (by decide) ?_
  obtain ⟨x1, hc1, hsem⟩ := bn_some hsem
  refine pcS (As := [.int p0, .int 1, .int 24]) (rest := []) ⟨hx, hb, hml, (hown d), (dr_words hts d)⟩ (hKK.drawn d) (va_cwS 3 (dr_words hts d) gX6_makes_X6_within rfl rfl rfl hdX6_within ⟨Nat.le_of_ble_eq_true rfl, Nat.le_of_ble_eq_true rfl⟩) (kX6_within (l := l) (g := g) hc1) rfl hl.1 rfl (Nat.le_of_ble_eq_true rfl) dX6_makes_4 ⟨Nat.zero_le _, Nat.zero_le _⟩ ?_
  refine lv_if_eq (tgt := 17) hx hb dX6_makes_7 (by decide) (fun c1 => ?_) (fun c1 => ?_)
  · rw [if_pos c1] at hsem
    refine lv_iconst (v := (-1)) hx hb dX6_makes_17 (by decide) ?_
    have eo := (Option.some.inj hsem).symm.symm
    refine W.endD hdr ?_
    subst eo
    exact W.iret (v := (-1)) hx hb hr (fun t ht hW => ⟨⟨_, HF, rfl, ⟨rfl, hALH⟩, ⟨by rw [ht]; exact hP, hD⟩⟩, hS.F ht⟩) hS.2.2 dX6_makes_18
  · rw [if_neg c1] at hsem
    refine lv_iload_n hx hb dX6_makes_10 rfl (lv_at hl 2 rfl) ?_
    obtain ⟨x2, hc2, hsem⟩ := bn_some hsem
    refine pcS (As := [.int p1]) (rest := []) ⟨hx, hb, hml, (hown d), (dr_words hts d)⟩ (hKK.drawn d) (va_cwS 1 (dr_words hts d) gX6_makes_X6_isRoot rfl rfl rfl hdX6_isRoot ⟨Nat.le_of_ble_eq_true rfl, Nat.le_of_ble_eq_true rfl⟩) (kX6_isRoot (l := l) (g := g) hc2) rfl hl.1 rfl (Nat.le_of_ble_eq_true rfl) dX6_makes_11 ⟨Nat.zero_le _, Nat.zero_le _⟩ ?_
    refine lv_if_ne (tgt := 19) hx hb dX6_makes_14 (by decide) (fun c2 => ?_) (fun c2 => ?_)
    · rw [if_neg c2] at hsem
      refine lv_aload_n hx hb dX6_makes_19 rfl (lv_at hl 0 rfl) ?_
      refine va_get (D := g.1) (ci := 6) (v := .ref (hd 0 0)) (C := RX6) (T := TX6) (N := 8) hx hb (dr_words hts d) (fun w h => List.mem_cons_of_mem _ (List.mem_append_left _ (List.mem_append_left _ (List.mem_append_left _ (List.mem_append_right _ h))))) (hown d) (hK d) hP 0 rfl rfl 0 (by decide) ((dr_words hts d) (.fieldLink RX6 10 "PauseRegions" "heap" "LPauseRegions$Heap;") (List.mem_of_getElem? (i := 1) rfl)) (fun _ h9 => h9) rfl dX6_makes_20 ?_
      obtain ⟨x3, hc3, hsem⟩ := bn_some hsem
      refine pcV (C := RX1) (As := []) (rest := []) ⟨hx, hb, hml, (hown d), (dr_words hts d)⟩ (hKK.drawn d) (cwV 0 (dr_words hts d) gX6_makes_X1_unusedNumber rfl rfl rfl hdX1_unusedNumber ⟨Nat.le_of_ble_eq_true rfl, Nat.le_of_ble_eq_true rfl⟩) (kX1_unusedNumber (l := l) (g := g) (hP.sub (ws' := wH g (hd 0) (HA 0) (HF 0)) [14, 15, 16, 17, 18, 19, 20, 21, 22, 23, 24, 25, 26, 27, 28] rfl) hc3) (va_recv (hK d) hP (ci := 1) (q0 := 14) rfl rfl) rfl hl.1 rfl (Nat.le_of_ble_eq_true rfl) dX6_makes_23 ⟨Nat.zero_le _, Nat.zero_le _⟩ ?_
      refine lv_istore_n (lv' := [(3, .int x3), (0, .ref a0), (1, .int p0), (2, .int p1)]) hx hb dX6_makes_26 rfl hl (by decide) rfl (fun ls hl => ?_)
      refine lv_aload_n hx hb dX6_makes_27 rfl (lv_at hl 1 rfl) ?_
      refine va_get (D := g.1) (ci := 6) (v := .ref (hd 0 0)) (C := RX6) (T := TX6) (N := 8) hx hb (dr_words hts d) (fun w h => List.mem_cons_of_mem _ (List.mem_append_left _ (List.mem_append_left _ (List.mem_append_left _ (List.mem_append_right _ h))))) (hown d) (hK d) hP 0 rfl rfl 0 (by decide) ((dr_words hts d) (.fieldLink RX6 10 "PauseRegions" "heap" "LPauseRegions$Heap;") (List.mem_of_getElem? (i := 1) rfl)) (fun _ h9 => h9) rfl dX6_makes_28 ?_
      refine lv_iload_n hx hb dX6_makes_31 rfl (lv_at hl 2 rfl) ?_
      obtain ⟨x4, hc4, hsem⟩ := bn_some hsem
      refine pcV (C := RX1) (As := [.int p0]) (rest := []) ⟨hx, hb, hml, (hown d), (dr_words hts d)⟩ (hKK.drawn d) (cwV 1 (dr_words hts d) gX6_makes_X1_roomFor rfl rfl rfl hdX1_roomFor ⟨Nat.le_of_ble_eq_true rfl, Nat.le_of_ble_eq_true rfl⟩) (kX1_roomFor (l := l) (g := g) (hP.sub (ws' := wH g (hd 0) (HA 0) (HF 0)) [14, 15, 16, 17, 18, 19, 20, 21, 22, 23, 24, 25, 26, 27, 28] rfl) hc4) (va_recv (hK d) hP (ci := 1) (q0 := 14) rfl rfl) rfl hl.1 rfl (Nat.le_of_ble_eq_true rfl) dX6_makes_32 ⟨Nat.zero_le _, Nat.zero_le _⟩ ?_
      refine lv_istore (lv' := [(4, .int x4), (3, .int x3), (0, .ref a0), (1, .int p0), (2, .int p1)]) hx hb dX6_makes_35 hl (by decide) rfl (fun ls hl => ?_)
      refine lv_iload_n hx hb dX6_makes_37 rfl (lv_at hl 1 rfl) ?_
      refine lv_bipush (v := (-9)) hx hb dX6_makes_38 (by decide) ?_
      refine lv_icmp_eq (tgt := 50) hx hb dX6_makes_40 (by decide) (fun c3 => ?_) (fun c3 => ?_)
      · rw [if_pos c3] at hsem
        refine lv_bipush (v := (-3)) hx hb dX6_makes_50 (by decide) ?_
        have eo := (Option.some.inj hsem).symm.symm
        refine W.endD hdr ?_
        subst eo
        exact W.iret (v := (-3)) hx hb hr (fun t ht hW => ⟨⟨_, HF, rfl, ⟨rfl, hALH⟩, ⟨by rw [ht]; exact hP, hD⟩⟩, hS.F ht⟩) hS.2.2 dX6_makes_52
      · rw [if_neg c3] at hsem
        refine lv_iload hx hb dX6_makes_43 (lv_at hl 0 rfl) ?_
        refine lv_bipush (v := (-9)) hx hb dX6_makes_45 (by decide) ?_
        refine lv_icmp_ne (tgt := 53) hx hb dX6_makes_47 (by decide) (fun c4 => ?_) (fun c4 => ?_)
        · rw [if_neg c4] at hsem
          refine lv_aload_n hx hb dX6_makes_53 rfl (lv_at hl 2 rfl) ?_
          refine va_get (D := g.1) (ci := 6) (v := .ref a0i) (C := RX6) (T := TX6) (N := 8) hx hb (dr_words hts d) (fun w h => List.mem_cons_of_mem _ (List.mem_append_left _ (List.mem_append_left _ (List.mem_append_left _ (List.mem_append_right _ h))))) (hown d) (hK d) hP 0 rfl rfl 2 (by decide) ((dr_words hts d) (.fieldLink RX6 22 "PauseRegions" "history" "LPauseRegions$History;") (List.mem_of_getElem? (i := 2) rfl)) (fun _ h9 => h9) rfl dX6_makes_54 ?_
          refine lv_aload_n hx hb dX6_makes_57 rfl (lv_at hl 2 rfl) ?_
          refine va_get (D := g.1) (ci := 6) (v := .ref (hd 0 0)) (C := RX6) (T := TX6) (N := 8) hx hb (dr_words hts d) (fun w h => List.mem_cons_of_mem _ (List.mem_append_left _ (List.mem_append_left _ (List.mem_append_left _ (List.mem_append_right _ h))))) (hown d) (hK d) hP 0 rfl rfl 0 (by decide) ((dr_words hts d) (.fieldLink RX6 10 "PauseRegions" "heap" "LPauseRegions$Heap;") (List.mem_of_getElem? (i := 1) rfl)) (fun _ h9 => h9) rfl dX6_makes_58 ?_
          obtain ⟨z1, hc5, hsem⟩ := bn_some hsem
          refine tdV (C := RX2) (As := [.ref (hd 0 0)]) (rest := []) hP hD hS hZ (pF1 (wTp g a0 a1 a2 a0t (adp 0) (adr 0) a0i (hd 0 0) (hd 1 0) im kf ++ (wC g a0t rgt yct fct ++ (wPa g adp Ap Fp ++ (wRe g adr Ar ++ ([]))))) (wHi g a0i a1i pf nxi kni ++ (wH g (hd 0) (HA 0) (HF 0) ++ (wH g (hd 1) (HA 1) (HF 1) ++ (wH g (hd 2) (HA 2) (HF 2) ++ (wH g (hd 3) (HA 3) (HF 3) ++ (wH g (hd 4) (HA 4) (HF 4) ++ (wH g (hd 5) (HA 5) (HF 5) ++ (wH g (hd 6) (HA 6) (HF 6) ++ (wH g (hd 7) (HA 7) (HF 7) ++ (wH g (hd 8) (HA 8) (HF 8) ++ (wH g (hd 9) (HA 9) (HF 9) ++ ([])))))))))))) ([])) hdr ⟨hx, hb, hml, (hown d), (dr_words hts d)⟩ (hKK.drawn d) (cwV 1 (dr_words hts d) gX6_makes_X2_push rfl rfl rfl hdX2_push ⟨Nat.le_of_ble_eq_true rfl, Nat.le_of_ble_eq_true rfl⟩) (kX2_push (l := l) (g := g) (a0i := a0i) (a1i := a1i) (hd := hd) (pf := pf) (nxi := nxi) (kni := kni) (HA := HA) (HF := HF) (HFc := HFc) hpf hALH hc5) (va_recv (hK d) hP (ci := 2) (q0 := 12) rfl rfl) rfl hl.1 rfl (Nat.le_of_ble_eq_true rfl) dX6_makes_61 ⟨Nat.zero_le _, Nat.zero_le _⟩ (fun u1 H locs d hpo hP hD hS hdr => ?_)
          have hq1 := hpo
          have hP : va_P g.1 vwCl (wTp g a0 a1 a2 a0t (adp 0) (adr 0) a0i (hd 0 0) (hd 1 0) im kf ++ (wC g a0t rgt yct fct ++ (wPa g adp Ap Fp ++ (wRe g adr Ar ++ (wHi g a0i a1i pf z1.1 z1.2.1 ++ (wH g (hd 0) (z1.2.2.1 0) (u1 0) ++ (wH g (hd 1) (z1.2.2.1 1) (u1 1) ++ (wH g (hd 2) (z1.2.2.1 2) (u1 2) ++ (wH g (hd 3) (z1.2.2.1 3) (u1 3) ++ (wH g (hd 4) (z1.2.2.1 4) (u1 4) ++ (wH g (hd 5) (z1.2.2.1 5) (u1 5) ++ (wH g (hd 6) (z1.2.2.1 6) (u1 6) ++ (wH g (hd 7) (z1.2.2.1 7) (u1 7) ++ (wH g (hd 8) (z1.2.2.1 8) (u1 8) ++ (wH g (hd 9) (z1.2.2.1 9) (u1 9) ++ ([])))))))))))))))) H := vaP_perm (pF1 (wTp g a0 a1 a2 a0t (adp 0) (adr 0) a0i (hd 0 0) (hd 1 0) im kf ++ (wC g a0t rgt yct fct ++ (wPa g adp Ap Fp ++ (wRe g adr Ar ++ ([]))))) (wHi g a0i a1i pf z1.1 z1.2.1 ++ (wH g (hd 0) (z1.2.2.1 0) (u1 0) ++ (wH g (hd 1) (z1.2.2.1 1) (u1 1) ++ (wH g (hd 2) (z1.2.2.1 2) (u1 2) ++ (wH g (hd 3) (z1.2.2.1 3) (u1 3) ++ (wH g (hd 4) (z1.2.2.1 4) (u1 4) ++ (wH g (hd 5) (z1.2.2.1 5) (u1 5) ++ (wH g (hd 6) (z1.2.2.1 6) (u1 6) ++ (wH g (hd 7) (z1.2.2.1 7) (u1 7) ++ (wH g (hd 8) (z1.2.2.1 8) (u1 8) ++ (wH g (hd 9) (z1.2.2.1 9) (u1 9) ++ ([])))))))))))) ([])).symm (by exact hP)
          have hD : va_D Z (wTp g a0 a1 a2 a0t (adp 0) (adr 0) a0i (hd 0 0) (hd 1 0) im kf ++ (wC g a0t rgt yct fct ++ (wPa g adp Ap Fp ++ (wRe g adr Ar ++ (wHi g a0i a1i pf z1.1 z1.2.1 ++ (wH g (hd 0) (z1.2.2.1 0) (u1 0) ++ (wH g (hd 1) (z1.2.2.1 1) (u1 1) ++ (wH g (hd 2) (z1.2.2.1 2) (u1 2) ++ (wH g (hd 3) (z1.2.2.1 3) (u1 3) ++ (wH g (hd 4) (z1.2.2.1 4) (u1 4) ++ (wH g (hd 5) (z1.2.2.1 5) (u1 5) ++ (wH g (hd 6) (z1.2.2.1 6) (u1 6) ++ (wH g (hd 7) (z1.2.2.1 7) (u1 7) ++ (wH g (hd 8) (z1.2.2.1 8) (u1 8) ++ (wH g (hd 9) (z1.2.2.1 9) (u1 9) ++ ([])))))))))))))))) := vaD_perm (pF1 (wTp g a0 a1 a2 a0t (adp 0) (adr 0) a0i (hd 0 0) (hd 1 0) im kf ++ (wC g a0t rgt yct fct ++ (wPa g adp Ap Fp ++ (wRe g adr Ar ++ ([]))))) (wHi g a0i a1i pf z1.1 z1.2.1 ++ (wH g (hd 0) (z1.2.2.1 0) (u1 0) ++ (wH g (hd 1) (z1.2.2.1 1) (u1 1) ++ (wH g (hd 2) (z1.2.2.1 2) (u1 2) ++ (wH g (hd 3) (z1.2.2.1 3) (u1 3) ++ (wH g (hd 4) (z1.2.2.1 4) (u1 4) ++ (wH g (hd 5) (z1.2.2.1 5) (u1 5) ++ (wH g (hd 6) (z1.2.2.1 6) (u1 6) ++ (wH g (hd 7) (z1.2.2.1 7) (u1 7) ++ (wH g (hd 8) (z1.2.2.1 8) (u1 8) ++ (wH g (hd 9) (z1.2.2.1 9) (u1 9) ++ ([])))))))))))) ([])).symm (by exact hD)
          refine lv_aload_n hx hb dX6_makes_64 rfl (lv_at hl 2 rfl) ?_
          refine va_get (D := g.1) (ci := 6) (v := .ref (hd 0 0)) (C := RX6) (T := TX6) (N := 8) hx hb (dr_words hts d) (fun w h => List.mem_cons_of_mem _ (List.mem_append_left _ (List.mem_append_left _ (List.mem_append_left _ (List.mem_append_right _ h))))) (hown d) (hK d) hP 0 rfl rfl 0 (by decide) ((dr_words hts d) (.fieldLink RX6 10 "PauseRegions" "heap" "LPauseRegions$Heap;") (List.mem_of_getElem? (i := 1) rfl)) (fun _ h9 => h9) rfl dX6_makes_65 ?_
          refine lv_iload_n hx hb dX6_makes_68 rfl (lv_at hl 1 rfl) ?_
          refine lv_iload_n hx hb dX6_makes_69 rfl (lv_at hl 3 rfl) ?_
          refine lv_iload hx hb dX6_makes_70 (lv_at hl 0 rfl) ?_
          obtain ⟨z2, hc6, hsem⟩ := bn_some hsem
          refine tcV (C := RX1) (As := [.int x3, .int p0, .int x4]) (rest := []) hP hD hS hZ (pF1 (wTp g a0 a1 a2 a0t (adp 0) (adr 0) a0i (hd 0 0) (hd 1 0) im kf ++ (wC g a0t rgt yct fct ++ (wPa g adp Ap Fp ++ (wRe g adr Ar ++ (wHi g a0i a1i pf z1.1 z1.2.1 ++ ([])))))) (wH g (hd 0) (z1.2.2.1 0) (u1 0)) (wH g (hd 1) (z1.2.2.1 1) (u1 1) ++ (wH g (hd 2) (z1.2.2.1 2) (u1 2) ++ (wH g (hd 3) (z1.2.2.1 3) (u1 3) ++ (wH g (hd 4) (z1.2.2.1 4) (u1 4) ++ (wH g (hd 5) (z1.2.2.1 5) (u1 5) ++ (wH g (hd 6) (z1.2.2.1 6) (u1 6) ++ (wH g (hd 7) (z1.2.2.1 7) (u1 7) ++ (wH g (hd 8) (z1.2.2.1 8) (u1 8) ++ (wH g (hd 9) (z1.2.2.1 9) (u1 9) ++ ([]))))))))))) ⟨hx, hb, hml, (hown d), (dr_words hts d)⟩ (hKK.drawn d) (cwV 3 (dr_words hts d) gX6_makes_X1_makeThing rfl rfl rfl hdX1_makeThing ⟨Nat.le_of_ble_eq_true rfl, Nat.le_of_ble_eq_true rfl⟩) (kX1_makeThing (l := l) (g := g) (ad := hd 0) (A := (z1.2.2.1 0)) (F := (u1 0))  hc6) (va_recv (hK d) hP (ci := 1) (q0 := 14) rfl rfl) rfl hl.1 rfl (Nat.le_of_ble_eq_true rfl) dX6_makes_72 ⟨Nat.zero_le _, Nat.zero_le _⟩ (fun H locs hP hD hS => ?_)
          obtain ⟨HA1, eHA1, hsem⟩ := bd_some hsem
          have hP : va_P g.1 vwCl (wTp g a0 a1 a2 a0t (adp 0) (adr 0) a0i (hd 0 0) (hd 1 0) im kf ++ (wC g a0t rgt yct fct ++ (wPa g adp Ap Fp ++ (wRe g adr Ar ++ (wHi g a0i a1i pf z1.1 z1.2.1 ++ (wH g (hd 0) (HA1 0) (u1 0) ++ (wH g (hd 1) (HA1 1) (u1 1) ++ (wH g (hd 2) (HA1 2) (u1 2) ++ (wH g (hd 3) (HA1 3) (u1 3) ++ (wH g (hd 4) (HA1 4) (u1 4) ++ (wH g (hd 5) (HA1 5) (u1 5) ++ (wH g (hd 6) (HA1 6) (u1 6) ++ (wH g (hd 7) (HA1 7) (u1 7) ++ (wH g (hd 8) (HA1 8) (u1 8) ++ (wH g (hd 9) (HA1 9) (u1 9) ++ ([])))))))))))))))) H := vaP_perm (pF1 (wTp g a0 a1 a2 a0t (adp 0) (adr 0) a0i (hd 0 0) (hd 1 0) im kf ++ (wC g a0t rgt yct fct ++ (wPa g adp Ap Fp ++ (wRe g adr Ar ++ (wHi g a0i a1i pf z1.1 z1.2.1 ++ ([])))))) (wH g (hd 0) (HA1 0) (u1 0)) (wH g (hd 1) (HA1 1) (u1 1) ++ (wH g (hd 2) (HA1 2) (u1 2) ++ (wH g (hd 3) (HA1 3) (u1 3) ++ (wH g (hd 4) (HA1 4) (u1 4) ++ (wH g (hd 5) (HA1 5) (u1 5) ++ (wH g (hd 6) (HA1 6) (u1 6) ++ (wH g (hd 7) (HA1 7) (u1 7) ++ (wH g (hd 8) (HA1 8) (u1 8) ++ (wH g (hd 9) (HA1 9) (u1 9) ++ ([]))))))))))).symm (by rw [eHA1]; exact hP)
          have hD : va_D Z (wTp g a0 a1 a2 a0t (adp 0) (adr 0) a0i (hd 0 0) (hd 1 0) im kf ++ (wC g a0t rgt yct fct ++ (wPa g adp Ap Fp ++ (wRe g adr Ar ++ (wHi g a0i a1i pf z1.1 z1.2.1 ++ (wH g (hd 0) (HA1 0) (u1 0) ++ (wH g (hd 1) (HA1 1) (u1 1) ++ (wH g (hd 2) (HA1 2) (u1 2) ++ (wH g (hd 3) (HA1 3) (u1 3) ++ (wH g (hd 4) (HA1 4) (u1 4) ++ (wH g (hd 5) (HA1 5) (u1 5) ++ (wH g (hd 6) (HA1 6) (u1 6) ++ (wH g (hd 7) (HA1 7) (u1 7) ++ (wH g (hd 8) (HA1 8) (u1 8) ++ (wH g (hd 9) (HA1 9) (u1 9) ++ ([])))))))))))))))) := vaD_perm (pF1 (wTp g a0 a1 a2 a0t (adp 0) (adr 0) a0i (hd 0 0) (hd 1 0) im kf ++ (wC g a0t rgt yct fct ++ (wPa g adp Ap Fp ++ (wRe g adr Ar ++ (wHi g a0i a1i pf z1.1 z1.2.1 ++ ([])))))) (wH g (hd 0) (HA1 0) (u1 0)) (wH g (hd 1) (HA1 1) (u1 1) ++ (wH g (hd 2) (HA1 2) (u1 2) ++ (wH g (hd 3) (HA1 3) (u1 3) ++ (wH g (hd 4) (HA1 4) (u1 4) ++ (wH g (hd 5) (HA1 5) (u1 5) ++ (wH g (hd 6) (HA1 6) (u1 6) ++ (wH g (hd 7) (HA1 7) (u1 7) ++ (wH g (hd 8) (HA1 8) (u1 8) ++ (wH g (hd 9) (HA1 9) (u1 9) ++ ([]))))))))))).symm (by rw [eHA1]; exact hD)
          refine lv_aload_n hx hb dX6_makes_75 rfl (lv_at hl 2 rfl) ?_
          refine va_get (D := g.1) (ci := 6) (v := .ref (hd 0 0)) (C := RX6) (T := TX6) (N := 8) hx hb (dr_words hts d) (fun w h => List.mem_cons_of_mem _ (List.mem_append_left _ (List.mem_append_left _ (List.mem_append_left _ (List.mem_append_right _ h))))) (hown d) (hK d) hP 0 rfl rfl 0 (by decide) ((dr_words hts d) (.fieldLink RX6 10 "PauseRegions" "heap" "LPauseRegions$Heap;") (List.mem_of_getElem? (i := 1) rfl)) (fun _ h9 => h9) rfl dX6_makes_76 ?_
          refine va_get (D := g.1) (ci := 1) (v := .ref (hd 0 10)) (C := RX1) (T := TX1) (N := 18) hx hb (dr_words hts d) (fun w h => List.mem_cons_of_mem _ (List.mem_append_left _ (List.mem_append_left _ (List.mem_append_right _ h)))) (hown d) (hK d) hP 14 rfl rfl 9 (by decide) ((dr_words hts d) (.fieldLink RX6 79 "PauseRegions$Heap" "roots" "[I") (List.mem_of_getElem? (i := 3) rfl)) (fun _ h9 => h9) rfl dX6_makes_79 ?_
          refine lv_iload_n hx hb dX6_makes_82 rfl (lv_at hl 4 rfl) ?_
          refine lv_iload_n hx hb dX6_makes_83 rfl (lv_at hl 1 rfl) ?_
          obtain ⟨h1, hsem⟩ := ck_some hsem
          refine va_iast (D := g.1) hx hb (hK d) hP hD hS 24 0 rfl rfl h1 dX6_makes_84 (fun H locs hP hD hS => ?_)
          obtain ⟨HA2, eHA2, hsem⟩ := bd_some hsem
          have hP : va_P g.1 vwCl (wTp g a0 a1 a2 a0t (adp 0) (adr 0) a0i (hd 0 0) (hd 1 0) im kf ++ (wC g a0t rgt yct fct ++ (wPa g adp Ap Fp ++ (wRe g adr Ar ++ (wHi g a0i a1i pf z1.1 z1.2.1 ++ (wH g (hd 0) (HA2 0) (u1 0) ++ (wH g (hd 1) (HA2 1) (u1 1) ++ (wH g (hd 2) (HA2 2) (u1 2) ++ (wH g (hd 3) (HA2 3) (u1 3) ++ (wH g (hd 4) (HA2 4) (u1 4) ++ (wH g (hd 5) (HA2 5) (u1 5) ++ (wH g (hd 6) (HA2 6) (u1 6) ++ (wH g (hd 7) (HA2 7) (u1 7) ++ (wH g (hd 8) (HA2 8) (u1 8) ++ (wH g (hd 9) (HA2 9) (u1 9) ++ ([])))))))))))))))) H := by rw [eHA2]; exact hP
          have hD : va_D Z (wTp g a0 a1 a2 a0t (adp 0) (adr 0) a0i (hd 0 0) (hd 1 0) im kf ++ (wC g a0t rgt yct fct ++ (wPa g adp Ap Fp ++ (wRe g adr Ar ++ (wHi g a0i a1i pf z1.1 z1.2.1 ++ (wH g (hd 0) (HA2 0) (u1 0) ++ (wH g (hd 1) (HA2 1) (u1 1) ++ (wH g (hd 2) (HA2 2) (u1 2) ++ (wH g (hd 3) (HA2 3) (u1 3) ++ (wH g (hd 4) (HA2 4) (u1 4) ++ (wH g (hd 5) (HA2 5) (u1 5) ++ (wH g (hd 6) (HA2 6) (u1 6) ++ (wH g (hd 7) (HA2 7) (u1 7) ++ (wH g (hd 8) (HA2 8) (u1 8) ++ (wH g (hd 9) (HA2 9) (u1 9) ++ ([])))))))))))))))) := by rw [eHA2]; exact hD
          refine lv_iload_n hx hb dX6_makes_85 rfl (lv_at hl 1 rfl) ?_
          have eo := (Option.some.inj hsem).symm.symm
          refine W.endD hdr ?_
          subst eo
          exact W.iret (v := x3) hx hb hr (fun t ht hW => ⟨⟨_, u1, rfl, ⟨rfl, hq1⟩, ⟨by rw [ht]; exact hP, hD⟩⟩, hS.F ht⟩) hS.2.2 dX6_makes_86
        · rw [if_pos c4] at hsem
          refine lv_bipush (v := (-3)) hx hb dX6_makes_50 (by decide) ?_
          have eo := (Option.some.inj hsem).symm.symm
          refine W.endD hdr ?_
          subst eo
          exact W.iret (v := (-3)) hx hb hr (fun t ht hW => ⟨⟨_, HF, rfl, ⟨rfl, hALH⟩, ⟨by rw [ht]; exact hP, hD⟩⟩, hS.F ht⟩) hS.2.2 dX6_makes_52
    · rw [if_pos c2] at hsem
      refine lv_iconst (v := (-1)) hx hb dX6_makes_17 (by decide) ?_
      have eo := (Option.some.inj hsem).symm.symm
      refine W.endD hdr ?_
      subst eo
      exact W.iret (v := (-1)) hx hb hr (fun t ht hW => ⟨⟨_, HF, rfl, ⟨rfl, hALH⟩, ⟨by rw [ht]; exact hP, hD⟩⟩, hS.F ht⟩) hS.2.2 dX6_makes_18
def sX6_pauses (Ap : IA) (Fpc : FA) (nxi : Int32) (kni : Int32) (HA : Nat → IA) (HFc : Nat → FA) (p0 : Int32) : Option (Int32 × IA × Int32 × Int32 × (Nat → IA) × FA × (Nat → FA)) :=
  (sX6_isGoal p0).bind fun x1 => if x1 = 0 then (some (((-1), Ap, nxi, kni, HA, Fpc, HFc))) else ((sX2_push nxi kni HA HFc).bind fun z1 => (sX3_run Ap Fpc (z1.2.2.1 0) (z1.2.2.2 0) p0).bind fun z2 => bd (upH z1.2.2.1 0 (z2.2.2.1)) fun HA1 => bd (upF z1.2.2.2 0 z2.2.2.2.2) fun HF1c => some (z2.1, z2.2.1, z1.1, z1.2.1, HA1, z2.2.2.2.1, HF1c))
abbrev rmX6_pauses : Room := { frames := 6, cells := 0, slots := 0, locals := 135 }
theorem hdX6_pauses : yX6_pauses.cls = RX6 ∧ yX6_pauses.cls ≠ "java/lang/invoke/MethodHandle" ∧ yX6_pauses.cls ≠ "java/lang/invoke/VarHandle" ∧ (parseMethodDescriptor yX6_pauses.desc).map (fun d => d.parameters.length) = some 1 := by decide +kernel
set_option maxHeartbeats 8000000 in
set_option maxRecDepth 100000 in
theorem kX6_pauses {l : Launch} {g : GG} {sz : Nat} {a0 a1 a2 : Nat} {im : Nat → Option Nat} {kf : Nat → Int32} {a0t : Nat} {rgt : Int32} {yct : Int32} {fct : UInt32} {adp : Nat → Nat} {Ap : IA} {Fp : FA} {adr : Nat → Nat} {Ar : IA} {a0i a1i : Nat} {pf : Nat → Option Nat} {nxi kni : Int32} {hd : Nat → Nat → Nat} {HA : Nat → IA} {HF : Nat → FA} {p0 : Int32} (hpf : ∀ k, k < 6 → pf k = some (hd (2 + k) 0)) {fctc : UInt32} (hfct : alike32 fct fctc = true) {Fpc : FA} (hALp : AL Fp Fpc) {HFc : Nat → FA} (hALH : ALH HF HFc) {b : Int32 × IA × Int32 × Int32 × (Nat → IA) × FA × (Nat → FA)} (hsem : sX6_pauses Ap Fpc nxi kni HA HFc p0 = some b) : MetDI l yX6_pauses wsX6_pauses rmX6_pauses g [.ref a0, .int p0] (wTp g a0 a1 a2 a0t (adp 0) (adr 0) a0i (hd 0 0) (hd 1 0) im kf ++ (wC g a0t rgt yct fct ++ (wPa g adp Ap Fp ++ (wRe g adr Ar ++ (wHi g a0i a1i pf nxi kni ++ (wH g (hd 0) (HA 0) (HF 0) ++ (wH g (hd 1) (HA 1) (HF 1) ++ (wH g (hd 2) (HA 2) (HF 2) ++ (wH g (hd 3) (HA 3) (HF 3) ++ (wH g (hd 4) (HA 4) (HF 4) ++ (wH g (hd 5) (HA 5) (HF 5) ++ (wH g (hd 6) (HA 6) (HF 6) ++ (wH g (hd 7) (HA 7) (HF 7) ++ (wH g (hd 8) (HA 8) (HF 8) ++ (wH g (hd 9) (HA 9) (HF 9) ++ ([])))))))))))))))) sz b.1 (φ := FA × (Nat → FA)) (fun u => AL u.1 b.2.2.2.2.2.1 ∧ ALH u.2 b.2.2.2.2.2.2) (fun u => wTp g a0 a1 a2 a0t (adp 0) (adr 0) a0i (hd 0 0) (hd 1 0) im kf ++ (wC g a0t rgt yct fct ++ (wPa g adp b.2.1 u.1 ++ (wRe g adr Ar ++ (wHi g a0i a1i pf b.2.2.1 b.2.2.2.1 ++ (wH g (hd 0) (b.2.2.2.2.1 0) (u.2 0) ++ (wH g (hd 1) (b.2.2.2.2.1 1) (u.2 1) ++ (wH g (hd 2) (b.2.2.2.2.1 2) (u.2 2) ++ (wH g (hd 3) (b.2.2.2.2.1 3) (u.2 3) ++ (wH g (hd 4) (b.2.2.2.2.1 4) (u.2 4) ++ (wH g (hd 5) (b.2.2.2.2.1 5) (u.2 5) ++ (wH g (hd 6) (b.2.2.2.2.1 6) (u.2 6) ++ (wH g (hd 7) (b.2.2.2.2.1 7) (u.2 7) ++ (wH g (hd 8) (b.2.2.2.2.1 8) (u.2 8) ++ (wH g (hd 9) (b.2.2.2.2.1 9) (u.2 9) ++ ([])))))))))))))))) := by
  refine MetD.ofW (cc := cX6_pauses) (maxL := 2) (ret := (some .int)) (by decide) rfl ?_
  intro p e s m args below meth c s₁ B hml hv hd0
  obtain ⟨rfl, hsz, hP, hD0, hKK⟩ := hv
  subst hsz
  have hx := B.exec
  have hb := B.bytes
  have hr := B.returns
  have hts := atoms_spec (ws := wsX6_pauses) B.pre
  have hown : ∀ d, (s.setDrawn d).vm.findClass RX6 = some m.cls := fun _ => findClass_of_methodNamed B.named
  have hlocks := B.notSynchronized
  have hK : ∀ d, va_K g.1 vwCl (KT g) (s.setDrawn d) := fun d => (hKK.drawn d).1
  have hD := hD0.self (sz := s.heap.size)
  generalize hZe : va_A (wTp g a0 a1 a2 a0t (adp 0) (adr 0) a0i (hd 0 0) (hd 1 0) im kf ++ (wC g a0t rgt yct fct ++ (wPa g adp Ap Fp ++ (wRe g adr Ar ++ (wHi g a0i a1i pf nxi kni ++ (wH g (hd 0) (HA 0) (HF 0) ++ (wH g (hd 1) (HA 1) (HF 1) ++ (wH g (hd 2) (HA 2) (HF 2) ++ (wH g (hd 3) (HA 3) (HF 3) ++ (wH g (hd 4) (HA 4) (HF 4) ++ (wH g (hd 5) (HA 5) (HF 5) ++ (wH g (hd 6) (HA 6) (HF 6) ++ (wH g (hd 7) (HA 7) (HF 7) ++ (wH g (hd 8) (HA 8) (HF 8) ++ (wH g (hd 9) (HA 9) (HF 9) ++ ([])))))))))))))))) s.heap.size = Z at hD ⊢
  have hZ : ∀ q : Nat, s.heap.size ≤ q → Z q := fun q h => by rw [← hZe]; exact Or.inr h
  have hS : va_S Z s.heap s.heap [] := va_S.rf
  have hP : va_P g.1 vwCl (wTp g a0 a1 a2 a0t (adp 0) (adr 0) a0i (hd 0 0) (hd 1 0) im kf ++ (wC g a0t rgt yct fct ++ (wPa g adp Ap Fp ++ (wRe g adr Ar ++ (wHi g a0i a1i pf nxi kni ++ (wH g (hd 0) (HA 0) (HF 0) ++ (wH g (hd 1) (HA 1) (HF 1) ++ (wH g (hd 2) (HA 2) (HF 2) ++ (wH g (hd 3) (HA 3) (HF 3) ++ (wH g (hd 4) (HA 4) (HF 4) ++ (wH g (hd 5) (HA 5) (HF 5) ++ (wH g (hd 6) (HA 6) (HF 6) ++ (wH g (hd 7) (HA 7) (HF 7) ++ (wH g (hd 8) (HA 8) (HF 8) ++ (wH g (hd 9) (HA 9) (HF 9) ++ ([])))))))))))))))) s.heap := hP
  have hD : va_D Z (wTp g a0 a1 a2 a0t (adp 0) (adr 0) a0i (hd 0 0) (hd 1 0) im kf ++ (wC g a0t rgt yct fct ++ (wPa g adp Ap Fp ++ (wRe g adr Ar ++ (wHi g a0i a1i pf nxi kni ++ (wH g (hd 0) (HA 0) (HF 0) ++ (wH g (hd 1) (HA 1) (HF 1) ++ (wH g (hd 2) (HA 2) (HF 2) ++ (wH g (hd 3) (HA 3) (HF 3) ++ (wH g (hd 4) (HA 4) (HF 4) ++ (wH g (hd 5) (HA 5) (HF 5) ++ (wH g (hd 6) (HA 6) (HF 6) ++ (wH g (hd 7) (HA 7) (HF 7) ++ (wH g (hd 8) (HA 8) (HF 8) ++ (wH g (hd 9) (HA 9) (HF 9) ++ ([])))))))))))))))) := hD
  obtain ⟨d, hdr, hdd⟩ : ∃ d, s.drawn.sameBut d lw_cs ∧ s.drawn = d := ⟨_, hd0, rfl⟩
  rw [hdd]
  have hl := lv_entry ([.ref a0, .int p0]) (n := 2) (Nat.le_of_ble_eq_true rfl)
  rw [lg_entry_eq]
  generalize (lg_sl ([.ref a0, .int p0]) ++ List.replicate (2 - (lg_sl ([.ref a0, .int p0])).length) Slot.unset).toArray = ls at hl ⊢
  have hl : lv_has ls 2 [(0, .ref a0), (1, .int p0)] := hl
  unfold sX6_pauses at hsem
  refine lv_iload_n hx hb dX6_pauses_0 rfl (lv_at hl 1 rfl) ?_
  obtain ⟨x1, hc1, hsem⟩ := bn_some hsem
  refine pcS (As := [.int p0]) (rest := []) ⟨hx, hb, hml, (hown d), (dr_words hts d)⟩ (hKK.drawn d) (va_cwS 1 (dr_words hts d) gX6_pauses_X6_isGoal rfl rfl rfl hdX6_isGoal ⟨Nat.le_of_ble_eq_true rfl, Nat.le_of_ble_eq_true rfl⟩) (kX6_isGoal (l := l) (g := g) hc1) rfl hl.1 rfl (Nat.le_of_ble_eq_true rfl) dX6_pauses_1 ⟨Nat.zero_le _, Nat.zero_le _⟩ ?_
  refine lv_if_ne (tgt := 9) hx hb dX6_pauses_4 (by decide) (fun c1 => ?_) (fun c1 => ?_)
  · rw [if_neg c1] at hsem
    refine lv_aload_n hx hb dX6_pauses_9 rfl (lv_at hl 0 rfl) ?_
    refine va_get (D := g.1) (ci := 6) (v := .ref a0i) (C := RX6) (T := TX6) (N := 8) hx hb (dr_words hts d) (fun w h => List.mem_cons_of_mem _ (List.mem_append_left _ (List.mem_append_left _ (List.mem_append_left _ (List.mem_append_left _ (List.mem_append_left _ (List.mem_append_right _ h))))))) (hown d) (hK d) hP 0 rfl rfl 2 (by decide) ((dr_words hts d) (.fieldLink RX6 22 "PauseRegions" "history" "LPauseRegions$History;") (List.mem_of_getElem? (i := 1) rfl)) (fun _ h9 => h9) rfl dX6_pauses_10 ?_
    refine lv_aload_n hx hb dX6_pauses_13 rfl (lv_at hl 0 rfl) ?_
    refine va_get (D := g.1) (ci := 6) (v := .ref (hd 0 0)) (C := RX6) (T := TX6) (N := 8) hx hb (dr_words hts d) (fun w h => List.mem_cons_of_mem _ (List.mem_append_left _ (List.mem_append_left _ (List.mem_append_left _ (List.mem_append_left _ (List.mem_append_left _ (List.mem_append_right _ h))))))) (hown d) (hK d) hP 0 rfl rfl 0 (by decide) ((dr_words hts d) (.fieldLink RX6 10 "PauseRegions" "heap" "LPauseRegions$Heap;") (List.mem_of_getElem? (i := 2) rfl)) (fun _ h9 => h9) rfl dX6_pauses_14 ?_
    obtain ⟨z1, hc2, hsem⟩ := bn_some hsem
    refine tdV (C := RX2) (As := [.ref (hd 0 0)]) (rest := []) hP hD hS hZ (pF1 (wTp g a0 a1 a2 a0t (adp 0) (adr 0) a0i (hd 0 0) (hd 1 0) im kf ++ (wC g a0t rgt yct fct ++ (wPa g adp Ap Fp ++ (wRe g adr Ar ++ ([]))))) (wHi g a0i a1i pf nxi kni ++ (wH g (hd 0) (HA 0) (HF 0) ++ (wH g (hd 1) (HA 1) (HF 1) ++ (wH g (hd 2) (HA 2) (HF 2) ++ (wH g (hd 3) (HA 3) (HF 3) ++ (wH g (hd 4) (HA 4) (HF 4) ++ (wH g (hd 5) (HA 5) (HF 5) ++ (wH g (hd 6) (HA 6) (HF 6) ++ (wH g (hd 7) (HA 7) (HF 7) ++ (wH g (hd 8) (HA 8) (HF 8) ++ (wH g (hd 9) (HA 9) (HF 9) ++ ([])))))))))))) ([])) hdr ⟨hx, hb, hml, (hown d), (dr_words hts d)⟩ (hKK.drawn d) (cwV 1 (dr_words hts d) gX6_pauses_X2_push rfl rfl rfl hdX2_push ⟨Nat.le_of_ble_eq_true rfl, Nat.le_of_ble_eq_true rfl⟩) (kX2_push (l := l) (g := g) (a0i := a0i) (a1i := a1i) (hd := hd) (pf := pf) (nxi := nxi) (kni := kni) (HA := HA) (HF := HF) (HFc := HFc) hpf hALH hc2) (va_recv (hK d) hP (ci := 2) (q0 := 12) rfl rfl) rfl hl.1 rfl (Nat.le_of_ble_eq_true rfl) dX6_pauses_17 ⟨Nat.zero_le _, Nat.zero_le _⟩ (fun u1 H locs d hpo hP hD hS hdr => ?_)
    have hq1 := hpo
    have hP : va_P g.1 vwCl (wTp g a0 a1 a2 a0t (adp 0) (adr 0) a0i (hd 0 0) (hd 1 0) im kf ++ (wC g a0t rgt yct fct ++ (wPa g adp Ap Fp ++ (wRe g adr Ar ++ (wHi g a0i a1i pf z1.1 z1.2.1 ++ (wH g (hd 0) (z1.2.2.1 0) (u1 0) ++ (wH g (hd 1) (z1.2.2.1 1) (u1 1) ++ (wH g (hd 2) (z1.2.2.1 2) (u1 2) ++ (wH g (hd 3) (z1.2.2.1 3) (u1 3) ++ (wH g (hd 4) (z1.2.2.1 4) (u1 4) ++ (wH g (hd 5) (z1.2.2.1 5) (u1 5) ++ (wH g (hd 6) (z1.2.2.1 6) (u1 6) ++ (wH g (hd 7) (z1.2.2.1 7) (u1 7) ++ (wH g (hd 8) (z1.2.2.1 8) (u1 8) ++ (wH g (hd 9) (z1.2.2.1 9) (u1 9) ++ ([])))))))))))))))) H := vaP_perm (pF1 (wTp g a0 a1 a2 a0t (adp 0) (adr 0) a0i (hd 0 0) (hd 1 0) im kf ++ (wC g a0t rgt yct fct ++ (wPa g adp Ap Fp ++ (wRe g adr Ar ++ ([]))))) (wHi g a0i a1i pf z1.1 z1.2.1 ++ (wH g (hd 0) (z1.2.2.1 0) (u1 0) ++ (wH g (hd 1) (z1.2.2.1 1) (u1 1) ++ (wH g (hd 2) (z1.2.2.1 2) (u1 2) ++ (wH g (hd 3) (z1.2.2.1 3) (u1 3) ++ (wH g (hd 4) (z1.2.2.1 4) (u1 4) ++ (wH g (hd 5) (z1.2.2.1 5) (u1 5) ++ (wH g (hd 6) (z1.2.2.1 6) (u1 6) ++ (wH g (hd 7) (z1.2.2.1 7) (u1 7) ++ (wH g (hd 8) (z1.2.2.1 8) (u1 8) ++ (wH g (hd 9) (z1.2.2.1 9) (u1 9) ++ ([])))))))))))) ([])).symm (by exact hP)
    have hD : va_D Z (wTp g a0 a1 a2 a0t (adp 0) (adr 0) a0i (hd 0 0) (hd 1 0) im kf ++ (wC g a0t rgt yct fct ++ (wPa g adp Ap Fp ++ (wRe g adr Ar ++ (wHi g a0i a1i pf z1.1 z1.2.1 ++ (wH g (hd 0) (z1.2.2.1 0) (u1 0) ++ (wH g (hd 1) (z1.2.2.1 1) (u1 1) ++ (wH g (hd 2) (z1.2.2.1 2) (u1 2) ++ (wH g (hd 3) (z1.2.2.1 3) (u1 3) ++ (wH g (hd 4) (z1.2.2.1 4) (u1 4) ++ (wH g (hd 5) (z1.2.2.1 5) (u1 5) ++ (wH g (hd 6) (z1.2.2.1 6) (u1 6) ++ (wH g (hd 7) (z1.2.2.1 7) (u1 7) ++ (wH g (hd 8) (z1.2.2.1 8) (u1 8) ++ (wH g (hd 9) (z1.2.2.1 9) (u1 9) ++ ([])))))))))))))))) := vaD_perm (pF1 (wTp g a0 a1 a2 a0t (adp 0) (adr 0) a0i (hd 0 0) (hd 1 0) im kf ++ (wC g a0t rgt yct fct ++ (wPa g adp Ap Fp ++ (wRe g adr Ar ++ ([]))))) (wHi g a0i a1i pf z1.1 z1.2.1 ++ (wH g (hd 0) (z1.2.2.1 0) (u1 0) ++ (wH g (hd 1) (z1.2.2.1 1) (u1 1) ++ (wH g (hd 2) (z1.2.2.1 2) (u1 2) ++ (wH g (hd 3) (z1.2.2.1 3) (u1 3) ++ (wH g (hd 4) (z1.2.2.1 4) (u1 4) ++ (wH g (hd 5) (z1.2.2.1 5) (u1 5) ++ (wH g (hd 6) (z1.2.2.1 6) (u1 6) ++ (wH g (hd 7) (z1.2.2.1 7) (u1 7) ++ (wH g (hd 8) (z1.2.2.1 8) (u1 8) ++ (wH g (hd 9) (z1.2.2.1 9) (u1 9) ++ ([])))))))))))) ([])).symm (by exact hD)
    refine lv_aload_n hx hb dX6_pauses_20 rfl (lv_at hl 0 rfl) ?_
    refine va_get (D := g.1) (ci := 6) (v := .ref (adp 0)) (C := RX6) (T := TX6) (N := 8) hx hb (dr_words hts d) (fun w h => List.mem_cons_of_mem _ (List.mem_append_left _ (List.mem_append_left _ (List.mem_append_left _ (List.mem_append_left _ (List.mem_append_left _ (List.mem_append_right _ h))))))) (hown d) (hK d) hP 0 rfl rfl 6 (by decide) ((dr_words hts d) (.fieldLink RX6 44 "PauseRegions" "pause" "LPauseRegions$Pause;") (List.mem_of_getElem? (i := 3) rfl)) (fun _ h9 => h9) rfl dX6_pauses_21 ?_
    refine lv_aload_n hx hb dX6_pauses_24 rfl (lv_at hl 0 rfl) ?_
    refine va_get (D := g.1) (ci := 6) (v := .ref (hd 0 0)) (C := RX6) (T := TX6) (N := 8) hx hb (dr_words hts d) (fun w h => List.mem_cons_of_mem _ (List.mem_append_left _ (List.mem_append_left _ (List.mem_append_left _ (List.mem_append_left _ (List.mem_append_left _ (List.mem_append_right _ h))))))) (hown d) (hK d) hP 0 rfl rfl 0 (by decide) ((dr_words hts d) (.fieldLink RX6 10 "PauseRegions" "heap" "LPauseRegions$Heap;") (List.mem_of_getElem? (i := 2) rfl)) (fun _ h9 => h9) rfl dX6_pauses_25 ?_
    refine lv_iload_n hx hb dX6_pauses_28 rfl (lv_at hl 1 rfl) ?_
    obtain ⟨z2, hc3, hsem⟩ := bn_some hsem
    refine tdI (C := RX3) (As := [.ref (hd 0 0), .int p0]) (rest := []) hP hD hS hZ (pF2 (wTp g a0 a1 a2 a0t (adp 0) (adr 0) a0i (hd 0 0) (hd 1 0) im kf ++ (wC g a0t rgt yct fct ++ ([]))) (wPa g adp Ap Fp) (wRe g adr Ar ++ (wHi g a0i a1i pf z1.1 z1.2.1 ++ ([]))) (wH g (hd 0) (z1.2.2.1 0) (u1 0)) (wH g (hd 1) (z1.2.2.1 1) (u1 1) ++ (wH g (hd 2) (z1.2.2.1 2) (u1 2) ++ (wH g (hd 3) (z1.2.2.1 3) (u1 3) ++ (wH g (hd 4) (z1.2.2.1 4) (u1 4) ++ (wH g (hd 5) (z1.2.2.1 5) (u1 5) ++ (wH g (hd 6) (z1.2.2.1 6) (u1 6) ++ (wH g (hd 7) (z1.2.2.1 7) (u1 7) ++ (wH g (hd 8) (z1.2.2.1 8) (u1 8) ++ (wH g (hd 9) (z1.2.2.1 9) (u1 9) ++ ([]))))))))))) hdr ⟨hx, hb, hml, (hown d), (dr_words hts d)⟩ (hKK.drawn d) (cwV 2 (dr_words hts d) gX6_pauses_X3_run rfl rfl rfl hdX3_run ⟨Nat.le_of_ble_eq_true rfl, Nat.le_of_ble_eq_true rfl⟩) (kX3_run (l := l) (g := g) (ad := adp) (A := Ap) (F := Fp) (Fc := Fpc) (adh := hd 0) (Ah := (z1.2.2.1 0)) (Fh := (u1 0)) (Fhc := (z1.2.2.2 0)) hALp (hq1 0) hc3) (va_recv (hK d) hP (ci := 3) (q0 := 4) rfl rfl) rfl hl.1 rfl (Nat.le_of_ble_eq_true rfl) dX6_pauses_29 ⟨Nat.zero_le _, Nat.zero_le _⟩ (fun u2 H locs d hpo hP hD hS hdr => ?_)
    obtain ⟨HA1, eHA1, hsem⟩ := bd_some hsem
    have hq2 := hpo.1
    obtain ⟨HF1, eHF1⟩ : ∃ z, z = upF u1 0 u2.2 := ⟨_, rfl⟩
    obtain ⟨HF1c, eHF1c, hsem⟩ := bd_some hsem
    have haHF1 : ALH HF1 HF1c := by rw [eHF1, eHF1c]; exact ALH.up hq1 hpo.2
    have hP : va_P g.1 vwCl (wTp g a0 a1 a2 a0t (adp 0) (adr 0) a0i (hd 0 0) (hd 1 0) im kf ++ (wC g a0t rgt yct fct ++ (wPa g adp z2.2.1 u2.1 ++ (wRe g adr Ar ++ (wHi g a0i a1i pf z1.1 z1.2.1 ++ (wH g (hd 0) (HA1 0) (HF1 0) ++ (wH g (hd 1) (HA1 1) (HF1 1) ++ (wH g (hd 2) (HA1 2) (HF1 2) ++ (wH g (hd 3) (HA1 3) (HF1 3) ++ (wH g (hd 4) (HA1 4) (HF1 4) ++ (wH g (hd 5) (HA1 5) (HF1 5) ++ (wH g (hd 6) (HA1 6) (HF1 6) ++ (wH g (hd 7) (HA1 7) (HF1 7) ++ (wH g (hd 8) (HA1 8) (HF1 8) ++ (wH g (hd 9) (HA1 9) (HF1 9) ++ ([])))))))))))))))) H := vaP_perm (pF2 (wTp g a0 a1 a2 a0t (adp 0) (adr 0) a0i (hd 0 0) (hd 1 0) im kf ++ (wC g a0t rgt yct fct ++ ([]))) (wPa g adp z2.2.1 u2.1) (wRe g adr Ar ++ (wHi g a0i a1i pf z1.1 z1.2.1 ++ ([]))) (wH g (hd 0) (HA1 0) (HF1 0)) (wH g (hd 1) (HA1 1) (HF1 1) ++ (wH g (hd 2) (HA1 2) (HF1 2) ++ (wH g (hd 3) (HA1 3) (HF1 3) ++ (wH g (hd 4) (HA1 4) (HF1 4) ++ (wH g (hd 5) (HA1 5) (HF1 5) ++ (wH g (hd 6) (HA1 6) (HF1 6) ++ (wH g (hd 7) (HA1 7) (HF1 7) ++ (wH g (hd 8) (HA1 8) (HF1 8) ++ (wH g (hd 9) (HA1 9) (HF1 9) ++ ([]))))))))))).symm (by rw [eHA1, eHF1]; exact hP)
    have hD : va_D Z (wTp g a0 a1 a2 a0t (adp 0) (adr 0) a0i (hd 0 0) (hd 1 0) im kf ++ (wC g a0t rgt yct fct ++ (wPa g adp z2.2.1 u2.1 ++ (wRe g adr Ar ++ (wHi g a0i a1i pf z1.1 z1.2.1 ++ (wH g (hd 0) (HA1 0) (HF1 0) ++ (wH g (hd 1) (HA1 1) (HF1 1) ++ (wH g (hd 2) (HA1 2) (HF1 2) ++ (wH g (hd 3) (HA1 3) (HF1 3) ++ (wH g (hd 4) (HA1 4) (HF1 4) ++ (wH g (hd 5) (HA1 5) (HF1 5) ++ (wH g (hd 6) (HA1 6) (HF1 6) ++ (wH g (hd 7) (HA1 7) (HF1 7) ++ (wH g (hd 8) (HA1 8) (HF1 8) ++ (wH g (hd 9) (HA1 9) (HF1 9) ++ ([])))))))))))))))) := vaD_perm (pF2 (wTp g a0 a1 a2 a0t (adp 0) (adr 0) a0i (hd 0 0) (hd 1 0) im kf ++ (wC g a0t rgt yct fct ++ ([]))) (wPa g adp z2.2.1 u2.1) (wRe g adr Ar ++ (wHi g a0i a1i pf z1.1 z1.2.1 ++ ([]))) (wH g (hd 0) (HA1 0) (HF1 0)) (wH g (hd 1) (HA1 1) (HF1 1) ++ (wH g (hd 2) (HA1 2) (HF1 2) ++ (wH g (hd 3) (HA1 3) (HF1 3) ++ (wH g (hd 4) (HA1 4) (HF1 4) ++ (wH g (hd 5) (HA1 5) (HF1 5) ++ (wH g (hd 6) (HA1 6) (HF1 6) ++ (wH g (hd 7) (HA1 7) (HF1 7) ++ (wH g (hd 8) (HA1 8) (HF1 8) ++ (wH g (hd 9) (HA1 9) (HF1 9) ++ ([]))))))))))).symm (by rw [eHA1, eHF1]; exact hD)
    have eo := (Option.some.inj hsem).symm.symm
    refine W.endD hdr ?_
    subst eo
    exact W.iret (v := z2.1) hx hb hr (fun t ht hW => ⟨⟨_, (u2.1, HF1), rfl, ⟨rfl, hq2, haHF1⟩, ⟨by rw [ht]; exact hP, hD⟩⟩, hS.F ht⟩) hS.2.2 dX6_pauses_32
  · rw [if_pos c1] at hsem
    refine lv_iconst (v := (-1)) hx hb dX6_pauses_7 (by decide) ?_
    have eo := (Option.some.inj hsem).symm.symm
    refine W.endD hdr ?_
    subst eo
    exact W.iret (v := (-1)) hx hb hr (fun t ht hW => ⟨⟨_, (Fp, HF), rfl, ⟨rfl, hALp, hALH⟩, ⟨by rw [ht]; exact hP, hD⟩⟩, hS.F ht⟩) hS.2.2 dX6_pauses_8
def sX6_refines (nxi : Int32) (kni : Int32) (HA : Nat → IA) (HFc : Nat → FA) (p0 : Int32) : Option (Int32 × Int32 × Int32 × (Nat → IA) × (Nat → FA)) :=
  (sX6_within p0 1 20).bind fun x1 => if x1 = 0 then (some (((-1), nxi, kni, HA, HFc))) else (if (((HA 0) 18 0)) = 0 then (some (((-2), nxi, kni, HA, HFc))) else ((sX2_push nxi kni HA HFc).bind fun z1 => (sX1_refineOldest (z1.2.2.1 0) p0).bind fun z2 => bd (upH z1.2.2.1 0 (z2.2)) fun HA1 => some (z2.1, z1.1, z1.2.1, HA1, z1.2.2.2)))
abbrev rmX6_refines : Room := { frames := 5, cells := 0, slots := 0, locals := 109 }
theorem hdX6_refines : yX6_refines.cls = RX6 ∧ yX6_refines.cls ≠ "java/lang/invoke/MethodHandle" ∧ yX6_refines.cls ≠ "java/lang/invoke/VarHandle" ∧ (parseMethodDescriptor yX6_refines.desc).map (fun d => d.parameters.length) = some 1 := by decide +kernel
set_option maxHeartbeats 8000000 in
set_option maxRecDepth 100000 in
theorem kX6_refines {l : Launch} {g : GG} {sz : Nat} {a0 a1 a2 : Nat} {im : Nat → Option Nat} {kf : Nat → Int32} {a0t : Nat} {rgt : Int32} {yct : Int32} {fct : UInt32} {adp : Nat → Nat} {Ap : IA} {Fp : FA} {adr : Nat → Nat} {Ar : IA} {a0i a1i : Nat} {pf : Nat → Option Nat} {nxi kni : Int32} {hd : Nat → Nat → Nat} {HA : Nat → IA} {HF : Nat → FA} {p0 : Int32} (hpf : ∀ k, k < 6 → pf k = some (hd (2 + k) 0)) {fctc : UInt32} (hfct : alike32 fct fctc = true) {Fpc : FA} (hALp : AL Fp Fpc) {HFc : Nat → FA} (hALH : ALH HF HFc) {b : Int32 × Int32 × Int32 × (Nat → IA) × (Nat → FA)} (hsem : sX6_refines nxi kni HA HFc p0 = some b) : MetDI l yX6_refines wsX6_refines rmX6_refines g [.ref a0, .int p0] (wTp g a0 a1 a2 a0t (adp 0) (adr 0) a0i (hd 0 0) (hd 1 0) im kf ++ (wC g a0t rgt yct fct ++ (wPa g adp Ap Fp ++ (wRe g adr Ar ++ (wHi g a0i a1i pf nxi kni ++ (wH g (hd 0) (HA 0) (HF 0) ++ (wH g (hd 1) (HA 1) (HF 1) ++ (wH g (hd 2) (HA 2) (HF 2) ++ (wH g (hd 3) (HA 3) (HF 3) ++ (wH g (hd 4) (HA 4) (HF 4) ++ (wH g (hd 5) (HA 5) (HF 5) ++ (wH g (hd 6) (HA 6) (HF 6) ++ (wH g (hd 7) (HA 7) (HF 7) ++ (wH g (hd 8) (HA 8) (HF 8) ++ (wH g (hd 9) (HA 9) (HF 9) ++ ([])))))))))))))))) sz b.1 (φ := (Nat → FA)) (fun u => ALH u b.2.2.2.2) (fun u => wTp g a0 a1 a2 a0t (adp 0) (adr 0) a0i (hd 0 0) (hd 1 0) im kf ++ (wC g a0t rgt yct fct ++ (wPa g adp Ap Fp ++ (wRe g adr Ar ++ (wHi g a0i a1i pf b.2.1 b.2.2.1 ++ (wH g (hd 0) (b.2.2.2.1 0) (u 0) ++ (wH g (hd 1) (b.2.2.2.1 1) (u 1) ++ (wH g (hd 2) (b.2.2.2.1 2) (u 2) ++ (wH g (hd 3) (b.2.2.2.1 3) (u 3) ++ (wH g (hd 4) (b.2.2.2.1 4) (u 4) ++ (wH g (hd 5) (b.2.2.2.1 5) (u 5) ++ (wH g (hd 6) (b.2.2.2.1 6) (u 6) ++ (wH g (hd 7) (b.2.2.2.1 7) (u 7) ++ (wH g (hd 8) (b.2.2.2.1 8) (u 8) ++ (wH g (hd 9) (b.2.2.2.1 9) (u 9) ++ ([])))))))))))))))) := by
  refine MetD.ofW (cc := cX6_refines) (maxL := 2) (ret := (some .int)) (by decide) rfl ?_
  intro p e s m args below meth c s₁ B hml hv hd0
  obtain ⟨rfl, hsz, hP, hD0, hKK⟩ := hv
  subst hsz
  have hx := B.exec
  have hb := B.bytes
  have hr := B.returns
  have hts := atoms_spec (ws := wsX6_refines) B.pre
  have hown : ∀ d, (s.setDrawn d).vm.findClass RX6 = some m.cls := fun _ => findClass_of_methodNamed B.named
  have hlocks := B.notSynchronized
  have hK : ∀ d, va_K g.1 vwCl (KT g) (s.setDrawn d) := fun d => (hKK.drawn d).1
  have hD := hD0.self (sz := s.heap.size)
  generalize hZe : va_A (wTp g a0 a1 a2 a0t (adp 0) (adr 0) a0i (hd 0 0) (hd 1 0) im kf ++ (wC g a0t rgt yct fct ++ (wPa g adp Ap Fp ++ (wRe g adr Ar ++ (wHi g a0i a1i pf nxi kni ++ (wH g (hd 0) (HA 0) (HF 0) ++ (wH g (hd 1) (HA 1) (HF 1) ++ (wH g (hd 2) (HA 2) (HF 2) ++ (wH g (hd 3) (HA 3) (HF 3) ++ (wH g (hd 4) (HA 4) (HF 4) ++ (wH g (hd 5) (HA 5) (HF 5) ++ (wH g (hd 6) (HA 6) (HF 6) ++ (wH g (hd 7) (HA 7) (HF 7) ++ (wH g (hd 8) (HA 8) (HF 8) ++ (wH g (hd 9) (HA 9) (HF 9) ++ ([])))))))))))))))) s.heap.size = Z at hD ⊢
  have hZ : ∀ q : Nat, s.heap.size ≤ q → Z q := fun q h => by rw [← hZe]; exact Or.inr h
  have hS : va_S Z s.heap s.heap [] := va_S.rf
  have hP : va_P g.1 vwCl (wTp g a0 a1 a2 a0t (adp 0) (adr 0) a0i (hd 0 0) (hd 1 0) im kf ++ (wC g a0t rgt yct fct ++ (wPa g adp Ap Fp ++ (wRe g adr Ar ++ (wHi g a0i a1i pf nxi kni ++ (wH g (hd 0) (HA 0) (HF 0) ++ (wH g (hd 1) (HA 1) (HF 1) ++ (wH g (hd 2) (HA 2) (HF 2) ++ (wH g (hd 3) (HA 3) (HF 3) ++ (wH g (hd 4) (HA 4) (HF 4) ++ (wH g (hd 5) (HA 5) (HF 5) ++ (wH g (hd 6) (HA 6) (HF 6) ++ (wH g (hd 7) (HA 7) (HF 7) ++ (wH g (hd 8) (HA 8) (HF 8) ++ (wH g (hd 9) (HA 9) (HF 9) ++ ([])))))))))))))))) s.heap := hP
  have hD : va_D Z (wTp g a0 a1 a2 a0t (adp 0) (adr 0) a0i (hd 0 0) (hd 1 0) im kf ++ (wC g a0t rgt yct fct ++ (wPa g adp Ap Fp ++ (wRe g adr Ar ++ (wHi g a0i a1i pf nxi kni ++ (wH g (hd 0) (HA 0) (HF 0) ++ (wH g (hd 1) (HA 1) (HF 1) ++ (wH g (hd 2) (HA 2) (HF 2) ++ (wH g (hd 3) (HA 3) (HF 3) ++ (wH g (hd 4) (HA 4) (HF 4) ++ (wH g (hd 5) (HA 5) (HF 5) ++ (wH g (hd 6) (HA 6) (HF 6) ++ (wH g (hd 7) (HA 7) (HF 7) ++ (wH g (hd 8) (HA 8) (HF 8) ++ (wH g (hd 9) (HA 9) (HF 9) ++ ([])))))))))))))))) := hD
  obtain ⟨d, hdr, hdd⟩ : ∃ d, s.drawn.sameBut d lw_cs ∧ s.drawn = d := ⟨_, hd0, rfl⟩
  rw [hdd]
  have hl := lv_entry ([.ref a0, .int p0]) (n := 2) (Nat.le_of_ble_eq_true rfl)
  rw [lg_entry_eq]
  generalize (lg_sl ([.ref a0, .int p0]) ++ List.replicate (2 - (lg_sl ([.ref a0, .int p0])).length) Slot.unset).toArray = ls at hl ⊢
  have hl : lv_has ls 2 [(0, .ref a0), (1, .int p0)] := hl
  unfold sX6_refines at hsem
  refine lv_iload_n hx hb dX6_refines_0 rfl (lv_at hl 1 rfl) ?_
  refine lv_iconst (v := 1) hx hb dX6_refines_1 (by decide) ?_
  refine lv_bipush (v := 20) hx hb dX6_refines_2 (by decide) ?_
  obtain ⟨x1, hc1, hsem⟩ := bn_some hsem
  refine pcS (As := [.int p0, .int 1, .int 20]) (rest := []) ⟨hx, hb, hml, (hown d), (dr_words hts d)⟩ (hKK.drawn d) (va_cwS 3 (dr_words hts d) gX6_refines_X6_within rfl rfl rfl hdX6_within ⟨Nat.le_of_ble_eq_true rfl, Nat.le_of_ble_eq_true rfl⟩) (kX6_within (l := l) (g := g) hc1) rfl hl.1 rfl (Nat.le_of_ble_eq_true rfl) dX6_refines_4 ⟨Nat.zero_le _, Nat.zero_le _⟩ ?_
  refine lv_if_ne (tgt := 12) hx hb dX6_refines_7 (by decide) (fun c1 => ?_) (fun c1 => ?_)
  · rw [if_neg c1] at hsem
    refine lv_aload_n hx hb dX6_refines_12 rfl (lv_at hl 0 rfl) ?_
    refine va_get (D := g.1) (ci := 6) (v := .ref (hd 0 0)) (C := RX6) (T := TX6) (N := 8) hx hb (dr_words hts d) (fun w h => List.mem_cons_of_mem _ (List.mem_append_left _ (List.mem_append_left _ (List.mem_append_left _ (List.mem_append_right _ h))))) (hown d) (hK d) hP 0 rfl rfl 0 (by decide) ((dr_words hts d) (.fieldLink RX6 10 "PauseRegions" "heap" "LPauseRegions$Heap;") (List.mem_of_getElem? (i := 1) rfl)) (fun _ h9 => h9) rfl dX6_refines_13 ?_
    refine va_get (D := g.1) (ci := 1) (v := .ref (hd 0 11)) (C := RX1) (T := TX1) (N := 18) hx hb (dr_words hts d) (fun w h => List.mem_cons_of_mem _ (List.mem_append_left _ (List.mem_append_left _ (List.mem_append_right _ h)))) (hown d) (hK d) hP 14 rfl rfl 10 (by decide) ((dr_words hts d) (.fieldLink RX6 96 "PauseRegions$Heap" "dirtyCards" "LPauseRegions$Row;") (List.mem_of_getElem? (i := 2) rfl)) (fun _ h9 => h9) rfl dX6_refines_16 ?_
    refine va_get (D := g.1) (ci := 5) (v := .int (((HA 0) 18 0))) (C := RX5) (T := TX5) (N := 2) hx hb (dr_words hts d) (fun w h => List.mem_cons_of_mem _ (List.mem_append_left _ (List.mem_append_right _ h))) (hown d) (hK d) hP 25 rfl rfl 1 (by decide) ((dr_words hts d) (.fieldLink RX6 100 "PauseRegions$Row" "length" "I") (List.mem_of_getElem? (i := 3) rfl)) (fun _ h9 => h9) rfl dX6_refines_19 ?_
    refine lv_if_ne (tgt := 28) hx hb dX6_refines_22 (by decide) (fun c2 => ?_) (fun c2 => ?_)
    · rw [if_neg c2] at hsem
      refine lv_aload_n hx hb dX6_refines_28 rfl (lv_at hl 0 rfl) ?_
      refine va_get (D := g.1) (ci := 6) (v := .ref a0i) (C := RX6) (T := TX6) (N := 8) hx hb (dr_words hts d) (fun w h => List.mem_cons_of_mem _ (List.mem_append_left _ (List.mem_append_left _ (List.mem_append_left _ (List.mem_append_right _ h))))) (hown d) (hK d) hP 0 rfl rfl 2 (by decide) ((dr_words hts d) (.fieldLink RX6 22 "PauseRegions" "history" "LPauseRegions$History;") (List.mem_of_getElem? (i := 4) rfl)) (fun _ h9 => h9) rfl dX6_refines_29 ?_
      refine lv_aload_n hx hb dX6_refines_32 rfl (lv_at hl 0 rfl) ?_
      refine va_get (D := g.1) (ci := 6) (v := .ref (hd 0 0)) (C := RX6) (T := TX6) (N := 8) hx hb (dr_words hts d) (fun w h => List.mem_cons_of_mem _ (List.mem_append_left _ (List.mem_append_left _ (List.mem_append_left _ (List.mem_append_right _ h))))) (hown d) (hK d) hP 0 rfl rfl 0 (by decide) ((dr_words hts d) (.fieldLink RX6 10 "PauseRegions" "heap" "LPauseRegions$Heap;") (List.mem_of_getElem? (i := 1) rfl)) (fun _ h9 => h9) rfl dX6_refines_33 ?_
      obtain ⟨z1, hc2, hsem⟩ := bn_some hsem
      refine tdV (C := RX2) (As := [.ref (hd 0 0)]) (rest := []) hP hD hS hZ (pF1 (wTp g a0 a1 a2 a0t (adp 0) (adr 0) a0i (hd 0 0) (hd 1 0) im kf ++ (wC g a0t rgt yct fct ++ (wPa g adp Ap Fp ++ (wRe g adr Ar ++ ([]))))) (wHi g a0i a1i pf nxi kni ++ (wH g (hd 0) (HA 0) (HF 0) ++ (wH g (hd 1) (HA 1) (HF 1) ++ (wH g (hd 2) (HA 2) (HF 2) ++ (wH g (hd 3) (HA 3) (HF 3) ++ (wH g (hd 4) (HA 4) (HF 4) ++ (wH g (hd 5) (HA 5) (HF 5) ++ (wH g (hd 6) (HA 6) (HF 6) ++ (wH g (hd 7) (HA 7) (HF 7) ++ (wH g (hd 8) (HA 8) (HF 8) ++ (wH g (hd 9) (HA 9) (HF 9) ++ ([])))))))))))) ([])) hdr ⟨hx, hb, hml, (hown d), (dr_words hts d)⟩ (hKK.drawn d) (cwV 1 (dr_words hts d) gX6_refines_X2_push rfl rfl rfl hdX2_push ⟨Nat.le_of_ble_eq_true rfl, Nat.le_of_ble_eq_true rfl⟩) (kX2_push (l := l) (g := g) (a0i := a0i) (a1i := a1i) (hd := hd) (pf := pf) (nxi := nxi) (kni := kni) (HA := HA) (HF := HF) (HFc := HFc) hpf hALH hc2) (va_recv (hK d) hP (ci := 2) (q0 := 12) rfl rfl) rfl hl.1 rfl (Nat.le_of_ble_eq_true rfl) dX6_refines_36 ⟨Nat.zero_le _, Nat.zero_le _⟩ (fun u1 H locs d hpo hP hD hS hdr => ?_)
      have hq1 := hpo
      have hP : va_P g.1 vwCl (wTp g a0 a1 a2 a0t (adp 0) (adr 0) a0i (hd 0 0) (hd 1 0) im kf ++ (wC g a0t rgt yct fct ++ (wPa g adp Ap Fp ++ (wRe g adr Ar ++ (wHi g a0i a1i pf z1.1 z1.2.1 ++ (wH g (hd 0) (z1.2.2.1 0) (u1 0) ++ (wH g (hd 1) (z1.2.2.1 1) (u1 1) ++ (wH g (hd 2) (z1.2.2.1 2) (u1 2) ++ (wH g (hd 3) (z1.2.2.1 3) (u1 3) ++ (wH g (hd 4) (z1.2.2.1 4) (u1 4) ++ (wH g (hd 5) (z1.2.2.1 5) (u1 5) ++ (wH g (hd 6) (z1.2.2.1 6) (u1 6) ++ (wH g (hd 7) (z1.2.2.1 7) (u1 7) ++ (wH g (hd 8) (z1.2.2.1 8) (u1 8) ++ (wH g (hd 9) (z1.2.2.1 9) (u1 9) ++ ([])))))))))))))))) H := vaP_perm (pF1 (wTp g a0 a1 a2 a0t (adp 0) (adr 0) a0i (hd 0 0) (hd 1 0) im kf ++ (wC g a0t rgt yct fct ++ (wPa g adp Ap Fp ++ (wRe g adr Ar ++ ([]))))) (wHi g a0i a1i pf z1.1 z1.2.1 ++ (wH g (hd 0) (z1.2.2.1 0) (u1 0) ++ (wH g (hd 1) (z1.2.2.1 1) (u1 1) ++ (wH g (hd 2) (z1.2.2.1 2) (u1 2) ++ (wH g (hd 3) (z1.2.2.1 3) (u1 3) ++ (wH g (hd 4) (z1.2.2.1 4) (u1 4) ++ (wH g (hd 5) (z1.2.2.1 5) (u1 5) ++ (wH g (hd 6) (z1.2.2.1 6) (u1 6) ++ (wH g (hd 7) (z1.2.2.1 7) (u1 7) ++ (wH g (hd 8) (z1.2.2.1 8) (u1 8) ++ (wH g (hd 9) (z1.2.2.1 9) (u1 9) ++ ([])))))))))))) ([])).symm (by exact hP)
      have hD : va_D Z (wTp g a0 a1 a2 a0t (adp 0) (adr 0) a0i (hd 0 0) (hd 1 0) im kf ++ (wC g a0t rgt yct fct ++ (wPa g adp Ap Fp ++ (wRe g adr Ar ++ (wHi g a0i a1i pf z1.1 z1.2.1 ++ (wH g (hd 0) (z1.2.2.1 0) (u1 0) ++ (wH g (hd 1) (z1.2.2.1 1) (u1 1) ++ (wH g (hd 2) (z1.2.2.1 2) (u1 2) ++ (wH g (hd 3) (z1.2.2.1 3) (u1 3) ++ (wH g (hd 4) (z1.2.2.1 4) (u1 4) ++ (wH g (hd 5) (z1.2.2.1 5) (u1 5) ++ (wH g (hd 6) (z1.2.2.1 6) (u1 6) ++ (wH g (hd 7) (z1.2.2.1 7) (u1 7) ++ (wH g (hd 8) (z1.2.2.1 8) (u1 8) ++ (wH g (hd 9) (z1.2.2.1 9) (u1 9) ++ ([])))))))))))))))) := vaD_perm (pF1 (wTp g a0 a1 a2 a0t (adp 0) (adr 0) a0i (hd 0 0) (hd 1 0) im kf ++ (wC g a0t rgt yct fct ++ (wPa g adp Ap Fp ++ (wRe g adr Ar ++ ([]))))) (wHi g a0i a1i pf z1.1 z1.2.1 ++ (wH g (hd 0) (z1.2.2.1 0) (u1 0) ++ (wH g (hd 1) (z1.2.2.1 1) (u1 1) ++ (wH g (hd 2) (z1.2.2.1 2) (u1 2) ++ (wH g (hd 3) (z1.2.2.1 3) (u1 3) ++ (wH g (hd 4) (z1.2.2.1 4) (u1 4) ++ (wH g (hd 5) (z1.2.2.1 5) (u1 5) ++ (wH g (hd 6) (z1.2.2.1 6) (u1 6) ++ (wH g (hd 7) (z1.2.2.1 7) (u1 7) ++ (wH g (hd 8) (z1.2.2.1 8) (u1 8) ++ (wH g (hd 9) (z1.2.2.1 9) (u1 9) ++ ([])))))))))))) ([])).symm (by exact hD)
      refine lv_aload_n hx hb dX6_refines_39 rfl (lv_at hl 0 rfl) ?_
      refine va_get (D := g.1) (ci := 6) (v := .ref (hd 0 0)) (C := RX6) (T := TX6) (N := 8) hx hb (dr_words hts d) (fun w h => List.mem_cons_of_mem _ (List.mem_append_left _ (List.mem_append_left _ (List.mem_append_left _ (List.mem_append_right _ h))))) (hown d) (hK d) hP 0 rfl rfl 0 (by decide) ((dr_words hts d) (.fieldLink RX6 10 "PauseRegions" "heap" "LPauseRegions$Heap;") (List.mem_of_getElem? (i := 1) rfl)) (fun _ h9 => h9) rfl dX6_refines_40 ?_
      refine lv_iload_n hx hb dX6_refines_43 rfl (lv_at hl 1 rfl) ?_
      obtain ⟨z2, hc3, hsem⟩ := bn_some hsem
      refine tcI (C := RX1) (As := [.int p0]) (rest := []) hP hD hS hZ (pF1 (wTp g a0 a1 a2 a0t (adp 0) (adr 0) a0i (hd 0 0) (hd 1 0) im kf ++ (wC g a0t rgt yct fct ++ (wPa g adp Ap Fp ++ (wRe g adr Ar ++ (wHi g a0i a1i pf z1.1 z1.2.1 ++ ([])))))) (wH g (hd 0) (z1.2.2.1 0) (u1 0)) (wH g (hd 1) (z1.2.2.1 1) (u1 1) ++ (wH g (hd 2) (z1.2.2.1 2) (u1 2) ++ (wH g (hd 3) (z1.2.2.1 3) (u1 3) ++ (wH g (hd 4) (z1.2.2.1 4) (u1 4) ++ (wH g (hd 5) (z1.2.2.1 5) (u1 5) ++ (wH g (hd 6) (z1.2.2.1 6) (u1 6) ++ (wH g (hd 7) (z1.2.2.1 7) (u1 7) ++ (wH g (hd 8) (z1.2.2.1 8) (u1 8) ++ (wH g (hd 9) (z1.2.2.1 9) (u1 9) ++ ([]))))))))))) ⟨hx, hb, hml, (hown d), (dr_words hts d)⟩ (hKK.drawn d) (cwV 1 (dr_words hts d) gX6_refines_X1_refineOldest rfl rfl rfl hdX1_refineOldest ⟨Nat.le_of_ble_eq_true rfl, Nat.le_of_ble_eq_true rfl⟩) (kX1_refineOldest (l := l) (g := g) (ad := hd 0) (A := (z1.2.2.1 0)) (F := (u1 0))  hc3) (va_recv (hK d) hP (ci := 1) (q0 := 14) rfl rfl) rfl hl.1 rfl (Nat.le_of_ble_eq_true rfl) dX6_refines_44 ⟨Nat.zero_le _, Nat.zero_le _⟩ (fun H locs hP hD hS => ?_)
      obtain ⟨HA1, eHA1, hsem⟩ := bd_some hsem
      have hP : va_P g.1 vwCl (wTp g a0 a1 a2 a0t (adp 0) (adr 0) a0i (hd 0 0) (hd 1 0) im kf ++ (wC g a0t rgt yct fct ++ (wPa g adp Ap Fp ++ (wRe g adr Ar ++ (wHi g a0i a1i pf z1.1 z1.2.1 ++ (wH g (hd 0) (HA1 0) (u1 0) ++ (wH g (hd 1) (HA1 1) (u1 1) ++ (wH g (hd 2) (HA1 2) (u1 2) ++ (wH g (hd 3) (HA1 3) (u1 3) ++ (wH g (hd 4) (HA1 4) (u1 4) ++ (wH g (hd 5) (HA1 5) (u1 5) ++ (wH g (hd 6) (HA1 6) (u1 6) ++ (wH g (hd 7) (HA1 7) (u1 7) ++ (wH g (hd 8) (HA1 8) (u1 8) ++ (wH g (hd 9) (HA1 9) (u1 9) ++ ([])))))))))))))))) H := vaP_perm (pF1 (wTp g a0 a1 a2 a0t (adp 0) (adr 0) a0i (hd 0 0) (hd 1 0) im kf ++ (wC g a0t rgt yct fct ++ (wPa g adp Ap Fp ++ (wRe g adr Ar ++ (wHi g a0i a1i pf z1.1 z1.2.1 ++ ([])))))) (wH g (hd 0) (HA1 0) (u1 0)) (wH g (hd 1) (HA1 1) (u1 1) ++ (wH g (hd 2) (HA1 2) (u1 2) ++ (wH g (hd 3) (HA1 3) (u1 3) ++ (wH g (hd 4) (HA1 4) (u1 4) ++ (wH g (hd 5) (HA1 5) (u1 5) ++ (wH g (hd 6) (HA1 6) (u1 6) ++ (wH g (hd 7) (HA1 7) (u1 7) ++ (wH g (hd 8) (HA1 8) (u1 8) ++ (wH g (hd 9) (HA1 9) (u1 9) ++ ([]))))))))))).symm (by rw [eHA1]; exact hP)
      have hD : va_D Z (wTp g a0 a1 a2 a0t (adp 0) (adr 0) a0i (hd 0 0) (hd 1 0) im kf ++ (wC g a0t rgt yct fct ++ (wPa g adp Ap Fp ++ (wRe g adr Ar ++ (wHi g a0i a1i pf z1.1 z1.2.1 ++ (wH g (hd 0) (HA1 0) (u1 0) ++ (wH g (hd 1) (HA1 1) (u1 1) ++ (wH g (hd 2) (HA1 2) (u1 2) ++ (wH g (hd 3) (HA1 3) (u1 3) ++ (wH g (hd 4) (HA1 4) (u1 4) ++ (wH g (hd 5) (HA1 5) (u1 5) ++ (wH g (hd 6) (HA1 6) (u1 6) ++ (wH g (hd 7) (HA1 7) (u1 7) ++ (wH g (hd 8) (HA1 8) (u1 8) ++ (wH g (hd 9) (HA1 9) (u1 9) ++ ([])))))))))))))))) := vaD_perm (pF1 (wTp g a0 a1 a2 a0t (adp 0) (adr 0) a0i (hd 0 0) (hd 1 0) im kf ++ (wC g a0t rgt yct fct ++ (wPa g adp Ap Fp ++ (wRe g adr Ar ++ (wHi g a0i a1i pf z1.1 z1.2.1 ++ ([])))))) (wH g (hd 0) (HA1 0) (u1 0)) (wH g (hd 1) (HA1 1) (u1 1) ++ (wH g (hd 2) (HA1 2) (u1 2) ++ (wH g (hd 3) (HA1 3) (u1 3) ++ (wH g (hd 4) (HA1 4) (u1 4) ++ (wH g (hd 5) (HA1 5) (u1 5) ++ (wH g (hd 6) (HA1 6) (u1 6) ++ (wH g (hd 7) (HA1 7) (u1 7) ++ (wH g (hd 8) (HA1 8) (u1 8) ++ (wH g (hd 9) (HA1 9) (u1 9) ++ ([]))))))))))).symm (by rw [eHA1]; exact hD)
      have eo := (Option.some.inj hsem).symm.symm
      refine W.endD hdr ?_
      subst eo
      exact W.iret (v := z2.1) hx hb hr (fun t ht hW => ⟨⟨_, u1, rfl, ⟨rfl, hq1⟩, ⟨by rw [ht]; exact hP, hD⟩⟩, hS.F ht⟩) hS.2.2 dX6_refines_47
    · rw [if_pos c2] at hsem
      refine lv_bipush (v := (-2)) hx hb dX6_refines_25 (by decide) ?_
      have eo := (Option.some.inj hsem).symm.symm
      refine W.endD hdr ?_
      subst eo
      exact W.iret (v := (-2)) hx hb hr (fun t ht hW => ⟨⟨_, HF, rfl, ⟨rfl, hALH⟩, ⟨by rw [ht]; exact hP, hD⟩⟩, hS.F ht⟩) hS.2.2 dX6_refines_27
  · rw [if_pos c1] at hsem
    refine lv_iconst (v := (-1)) hx hb dX6_refines_10 (by decide) ?_
    have eo := (Option.some.inj hsem).symm.symm
    refine W.endD hdr ?_
    subst eo
    exact W.iret (v := (-1)) hx hb hr (fun t ht hW => ⟨⟨_, HF, rfl, ⟨rfl, hALH⟩, ⟨by rw [ht]; exact hP, hD⟩⟩, hS.F ht⟩) hS.2.2 dX6_refines_11
def sX6_region (HA : Nat → IA) (p0 : Int32) (p1 : Int32) : Option (Int32) :=
  (sX6_isRegion p0).bind fun x1 => if x1 = 0 then (some (-1)) else ((sX6_within p1 0 4).bind fun x2 => if x2 = 0 then (some (-1)) else (if p1 = 0 then (ck p0 10 (some (((HA 0) 0) p0.toNatClampNeg))) else (if p1 = 1 then (ck p0 10 (some (((HA 0) 1) p0.toNatClampNeg))) else (if p1 = 2 then (ck p0 10 (some (((HA 0) 2) p0.toNatClampNeg))) else (if p1 = 3 then ((sX1_thingsIn (HA 0) p0).bind fun x3 => some x3) else (ck p0 10 ((sJ6_bitCount_0f7a4 (((HA 0) 3) p0.toNatClampNeg)).bind fun x4 => some x4)))))))
abbrev rmX6_region : Room := { frames := 3, cells := 0, slots := 0, locals := 66 }
theorem hdX6_region : yX6_region.cls = RX6 ∧ yX6_region.cls ≠ "java/lang/invoke/MethodHandle" ∧ yX6_region.cls ≠ "java/lang/invoke/VarHandle" ∧ (parseMethodDescriptor yX6_region.desc).map (fun d => d.parameters.length) = some 2 := by decide +kernel
set_option maxHeartbeats 8000000 in
set_option maxRecDepth 100000 in
theorem kX6_region {l : Launch} {g : GG} {sz : Nat} {a0 a1 a2 : Nat} {im : Nat → Option Nat} {kf : Nat → Int32} {a0t : Nat} {rgt : Int32} {yct : Int32} {fct : UInt32} {adp : Nat → Nat} {Ap : IA} {Fp : FA} {adr : Nat → Nat} {Ar : IA} {a0i a1i : Nat} {pf : Nat → Option Nat} {nxi kni : Int32} {hd : Nat → Nat → Nat} {HA : Nat → IA} {HF : Nat → FA} {p0 p1 : Int32} {b : Int32} (hsem : sX6_region HA p0 p1 = some b) : MetI l yX6_region wsX6_region rmX6_region g [.ref a0, .int p0, .int p1] (wTp g a0 a1 a2 a0t (adp 0) (adr 0) a0i (hd 0 0) (hd 1 0) im kf ++ (wC g a0t rgt yct fct ++ (wPa g adp Ap Fp ++ (wRe g adr Ar ++ (wHi g a0i a1i pf nxi kni ++ (wH g (hd 0) (HA 0) (HF 0) ++ (wH g (hd 1) (HA 1) (HF 1) ++ (wH g (hd 2) (HA 2) (HF 2) ++ (wH g (hd 3) (HA 3) (HF 3) ++ (wH g (hd 4) (HA 4) (HF 4) ++ (wH g (hd 5) (HA 5) (HF 5) ++ (wH g (hd 6) (HA 6) (HF 6) ++ (wH g (hd 7) (HA 7) (HF 7) ++ (wH g (hd 8) (HA 8) (HF 8) ++ (wH g (hd 9) (HA 9) (HF 9) ++ ([])))))))))))))))) sz b (wTp g a0 a1 a2 a0t (adp 0) (adr 0) a0i (hd 0 0) (hd 1 0) im kf ++ (wC g a0t rgt yct fct ++ (wPa g adp Ap Fp ++ (wRe g adr Ar ++ (wHi g a0i a1i pf nxi kni ++ (wH g (hd 0) (HA 0) (HF 0) ++ (wH g (hd 1) (HA 1) (HF 1) ++ (wH g (hd 2) (HA 2) (HF 2) ++ (wH g (hd 3) (HA 3) (HF 3) ++ (wH g (hd 4) (HA 4) (HF 4) ++ (wH g (hd 5) (HA 5) (HF 5) ++ (wH g (hd 6) (HA 6) (HF 6) ++ (wH g (hd 7) (HA 7) (HF 7) ++ (wH g (hd 8) (HA 8) (HF 8) ++ (wH g (hd 9) (HA 9) (HF 9) ++ ([])))))))))))))))) := by
  refine Met.ofW (cc := cX6_region) (maxL := 3) (ret := (some .int)) (by decide) rfl ?_
  intro p e s m args below meth c s₁ B hml hv
  obtain ⟨rfl, hsz, hP, hD0, hKK⟩ := hv
  subst hsz
  have hx := B.exec
  have hb := B.bytes
  have hr := B.returns
  have hts := atoms_spec (ws := wsX6_region) B.pre
  have hown : s.vm.findClass RX6 = some m.cls := findClass_of_methodNamed B.named
  have hlocks := B.notSynchronized
  have hK := hKK.1
  have hD := hD0.self (sz := s.heap.size)
  generalize hZe : va_A (wTp g a0 a1 a2 a0t (adp 0) (adr 0) a0i (hd 0 0) (hd 1 0) im kf ++ (wC g a0t rgt yct fct ++ (wPa g adp Ap Fp ++ (wRe g adr Ar ++ (wHi g a0i a1i pf nxi kni ++ (wH g (hd 0) (HA 0) (HF 0) ++ (wH g (hd 1) (HA 1) (HF 1) ++ (wH g (hd 2) (HA 2) (HF 2) ++ (wH g (hd 3) (HA 3) (HF 3) ++ (wH g (hd 4) (HA 4) (HF 4) ++ (wH g (hd 5) (HA 5) (HF 5) ++ (wH g (hd 6) (HA 6) (HF 6) ++ (wH g (hd 7) (HA 7) (HF 7) ++ (wH g (hd 8) (HA 8) (HF 8) ++ (wH g (hd 9) (HA 9) (HF 9) ++ ([])))))))))))))))) s.heap.size = Z at hD ⊢
  have hZ : ∀ q : Nat, s.heap.size ≤ q → Z q := fun q h => by rw [← hZe]; exact Or.inr h
  have hS : va_S Z s.heap s.heap [] := va_S.rf
  have hP : va_P g.1 vwCl (wTp g a0 a1 a2 a0t (adp 0) (adr 0) a0i (hd 0 0) (hd 1 0) im kf ++ (wC g a0t rgt yct fct ++ (wPa g adp Ap Fp ++ (wRe g adr Ar ++ (wHi g a0i a1i pf nxi kni ++ (wH g (hd 0) (HA 0) (HF 0) ++ (wH g (hd 1) (HA 1) (HF 1) ++ (wH g (hd 2) (HA 2) (HF 2) ++ (wH g (hd 3) (HA 3) (HF 3) ++ (wH g (hd 4) (HA 4) (HF 4) ++ (wH g (hd 5) (HA 5) (HF 5) ++ (wH g (hd 6) (HA 6) (HF 6) ++ (wH g (hd 7) (HA 7) (HF 7) ++ (wH g (hd 8) (HA 8) (HF 8) ++ (wH g (hd 9) (HA 9) (HF 9) ++ ([])))))))))))))))) s.heap := hP
  have hD : va_D Z (wTp g a0 a1 a2 a0t (adp 0) (adr 0) a0i (hd 0 0) (hd 1 0) im kf ++ (wC g a0t rgt yct fct ++ (wPa g adp Ap Fp ++ (wRe g adr Ar ++ (wHi g a0i a1i pf nxi kni ++ (wH g (hd 0) (HA 0) (HF 0) ++ (wH g (hd 1) (HA 1) (HF 1) ++ (wH g (hd 2) (HA 2) (HF 2) ++ (wH g (hd 3) (HA 3) (HF 3) ++ (wH g (hd 4) (HA 4) (HF 4) ++ (wH g (hd 5) (HA 5) (HF 5) ++ (wH g (hd 6) (HA 6) (HF 6) ++ (wH g (hd 7) (HA 7) (HF 7) ++ (wH g (hd 8) (HA 8) (HF 8) ++ (wH g (hd 9) (HA 9) (HF 9) ++ ([])))))))))))))))) := hD
  have hl := lv_entry ([.ref a0, .int p0, .int p1]) (n := 3) (Nat.le_of_ble_eq_true rfl)
  rw [lg_entry_eq]
  generalize (lg_sl ([.ref a0, .int p0, .int p1]) ++ List.replicate (3 - (lg_sl ([.ref a0, .int p0, .int p1])).length) Slot.unset).toArray = ls at hl ⊢
  have hl : lv_has ls 3 [(0, .ref a0), (1, .int p0), (2, .int p1)] := hl
  unfold sX6_region at hsem
  refine lv_iload_n hx hb dX6_region_0 rfl (lv_at hl 1 rfl) ?_
  obtain ⟨x1, hc1, hsem⟩ := bn_some hsem
  refine pcS (As := [.int p0]) (rest := []) ⟨hx, hb, hml, hown, hts⟩ hKK (va_cwS 1 hts gX6_region_X6_isRegion rfl rfl rfl hdX6_isRegion ⟨Nat.le_of_ble_eq_true rfl, Nat.le_of_ble_eq_true rfl⟩) (kX6_isRegion (l := l) (g := g) hc1) rfl hl.1 rfl (Nat.le_of_ble_eq_true rfl) dX6_region_1 ⟨Nat.zero_le _, Nat.zero_le _⟩ ?_
  refine lv_if_eq (tgt := 16) hx hb dX6_region_4 (by decide) (fun c1 => ?_) (fun c1 => ?_)
  · rw [if_pos c1] at hsem
    refine lv_iconst (v := (-1)) hx hb dX6_region_16 (by decide) ?_
    have eo := (Option.some.inj hsem).symm.symm
    subst eo
    exact W.iret (v := (-1)) hx hb hr (fun t ht hW => ⟨⟨_, (), rfl, rfl, ⟨by rw [ht]; exact hP, hD⟩⟩, hS.F ht⟩) hS.2.2 dX6_region_17
  · rw [if_neg c1] at hsem
    refine lv_iload_n hx hb dX6_region_7 rfl (lv_at hl 2 rfl) ?_
    refine lv_iconst (v := 0) hx hb dX6_region_8 (by decide) ?_
    refine lv_iconst (v := 4) hx hb dX6_region_9 (by decide) ?_
    obtain ⟨x2, hc2, hsem⟩ := bn_some hsem
    refine pcS (As := [.int p1, .int 0, .int 4]) (rest := []) ⟨hx, hb, hml, hown, hts⟩ hKK (va_cwS 3 hts gX6_region_X6_within rfl rfl rfl hdX6_within ⟨Nat.le_of_ble_eq_true rfl, Nat.le_of_ble_eq_true rfl⟩) (kX6_within (l := l) (g := g) hc2) rfl hl.1 rfl (Nat.le_of_ble_eq_true rfl) dX6_region_10 ⟨Nat.zero_le _, Nat.zero_le _⟩ ?_
    refine lv_if_ne (tgt := 18) hx hb dX6_region_13 (by decide) (fun c2 => ?_) (fun c2 => ?_)
    · rw [if_neg c2] at hsem
      refine lv_iload_n hx hb dX6_region_18 rfl (lv_at hl 2 rfl) ?_
      by_cases c3 : p1 = 0
      · rw [if_pos c3] at hsem
        refine lv_tableIn (off := 29) (tgt := 48) hx hb dX6_region_19 (by rw [c3]; decide) (by rw [c3]; decide) (by rw [c3]; rfl) (by decide) ?_
        refine lv_aload_n hx hb dX6_region_48 rfl (lv_at hl 0 rfl) ?_
        refine va_get (D := g.1) (ci := 6) (v := .ref (hd 0 0)) (C := RX6) (T := TX6) (N := 8) hx hb hts (fun w h => List.mem_cons_of_mem _ (List.mem_append_left _ (List.mem_append_right _ h))) hown hK hP 0 rfl rfl 0 (by decide) (hts (.fieldLink RX6 10 "PauseRegions" "heap" "LPauseRegions$Heap;") (List.mem_of_getElem? (i := 1) rfl)) (fun _ h9 => h9) rfl dX6_region_49 ?_
        refine va_get (D := g.1) (ci := 1) (v := .ref (hd 0 1)) (C := RX1) (T := TX1) (N := 18) hx hb hts (fun w h => List.mem_cons_of_mem _ (List.mem_append_right _ h)) hown hK hP 14 rfl rfl 0 (by decide) (hts (.fieldLink RX6 153 "PauseRegions$Heap" "kind" "[I") (List.mem_of_getElem? (i := 2) rfl)) (fun _ h9 => h9) rfl dX6_region_52 ?_
        refine lv_iload_n hx hb dX6_region_55 rfl (lv_at hl 1 rfl) ?_
        obtain ⟨h1, hsem⟩ := ck_some hsem
        refine va_iald (D := g.1) hx hb hK hP 15 0 rfl rfl h1 dX6_region_56 ?_
        have eo := (Option.some.inj hsem).symm.symm
        subst eo
        exact W.iret (v := ((HA 0) 0) p0.toNatClampNeg) hx hb hr (fun t ht hW => ⟨⟨_, (), rfl, rfl, ⟨by rw [ht]; exact hP, hD⟩⟩, hS.F ht⟩) hS.2.2 dX6_region_57
      rw [if_neg c3] at hsem
      by_cases c4 : p1 = 1
      · rw [if_pos c4] at hsem
        refine lv_tableIn (off := 39) (tgt := 58) hx hb dX6_region_19 (by rw [c4]; decide) (by rw [c4]; decide) (by rw [c4]; rfl) (by decide) ?_
        refine lv_aload_n hx hb dX6_region_58 rfl (lv_at hl 0 rfl) ?_
        refine va_get (D := g.1) (ci := 6) (v := .ref (hd 0 0)) (C := RX6) (T := TX6) (N := 8) hx hb hts (fun w h => List.mem_cons_of_mem _ (List.mem_append_left _ (List.mem_append_right _ h))) hown hK hP 0 rfl rfl 0 (by decide) (hts (.fieldLink RX6 10 "PauseRegions" "heap" "LPauseRegions$Heap;") (List.mem_of_getElem? (i := 1) rfl)) (fun _ h9 => h9) rfl dX6_region_59 ?_
        refine va_get (D := g.1) (ci := 1) (v := .ref (hd 0 2)) (C := RX1) (T := TX1) (N := 18) hx hb hts (fun w h => List.mem_cons_of_mem _ (List.mem_append_right _ h)) hown hK hP 14 rfl rfl 1 (by decide) (hts (.fieldLink RX6 156 "PauseRegions$Heap" "top" "[I") (List.mem_of_getElem? (i := 3) rfl)) (fun _ h9 => h9) rfl dX6_region_62 ?_
        refine lv_iload_n hx hb dX6_region_65 rfl (lv_at hl 1 rfl) ?_
        obtain ⟨h2, hsem⟩ := ck_some hsem
        refine va_iald (D := g.1) hx hb hK hP 16 0 rfl rfl h2 dX6_region_66 ?_
        have eo := (Option.some.inj hsem).symm.symm
        subst eo
        exact W.iret (v := ((HA 0) 1) p0.toNatClampNeg) hx hb hr (fun t ht hW => ⟨⟨_, (), rfl, rfl, ⟨by rw [ht]; exact hP, hD⟩⟩, hS.F ht⟩) hS.2.2 dX6_region_67
      rw [if_neg c4] at hsem
      by_cases c5 : p1 = 2
      · rw [if_pos c5] at hsem
        refine lv_tableIn (off := 49) (tgt := 68) hx hb dX6_region_19 (by rw [c5]; decide) (by rw [c5]; decide) (by rw [c5]; rfl) (by decide) ?_
        refine lv_aload_n hx hb dX6_region_68 rfl (lv_at hl 0 rfl) ?_
        refine va_get (D := g.1) (ci := 6) (v := .ref (hd 0 0)) (C := RX6) (T := TX6) (N := 8) hx hb hts (fun w h => List.mem_cons_of_mem _ (List.mem_append_left _ (List.mem_append_right _ h))) hown hK hP 0 rfl rfl 0 (by decide) (hts (.fieldLink RX6 10 "PauseRegions" "heap" "LPauseRegions$Heap;") (List.mem_of_getElem? (i := 1) rfl)) (fun _ h9 => h9) rfl dX6_region_69 ?_
        refine va_get (D := g.1) (ci := 1) (v := .ref (hd 0 3)) (C := RX1) (T := TX1) (N := 18) hx hb hts (fun w h => List.mem_cons_of_mem _ (List.mem_append_right _ h)) hown hK hP 14 rfl rfl 2 (by decide) (hts (.fieldLink RX6 159 "PauseRegions$Heap" "live" "[I") (List.mem_of_getElem? (i := 4) rfl)) (fun _ h9 => h9) rfl dX6_region_72 ?_
        refine lv_iload_n hx hb dX6_region_75 rfl (lv_at hl 1 rfl) ?_
        obtain ⟨h3, hsem⟩ := ck_some hsem
        refine va_iald (D := g.1) hx hb hK hP 17 0 rfl rfl h3 dX6_region_76 ?_
        have eo := (Option.some.inj hsem).symm.symm
        subst eo
        exact W.iret (v := ((HA 0) 2) p0.toNatClampNeg) hx hb hr (fun t ht hW => ⟨⟨_, (), rfl, rfl, ⟨by rw [ht]; exact hP, hD⟩⟩, hS.F ht⟩) hS.2.2 dX6_region_77
      rw [if_neg c5] at hsem
      by_cases c6 : p1 = 3
      · rw [if_pos c6] at hsem
        refine lv_tableIn (off := 59) (tgt := 78) hx hb dX6_region_19 (by rw [c6]; decide) (by rw [c6]; decide) (by rw [c6]; rfl) (by decide) ?_
        refine lv_aload_n hx hb dX6_region_78 rfl (lv_at hl 0 rfl) ?_
        refine va_get (D := g.1) (ci := 6) (v := .ref (hd 0 0)) (C := RX6) (T := TX6) (N := 8) hx hb hts (fun w h => List.mem_cons_of_mem _ (List.mem_append_left _ (List.mem_append_right _ h))) hown hK hP 0 rfl rfl 0 (by decide) (hts (.fieldLink RX6 10 "PauseRegions" "heap" "LPauseRegions$Heap;") (List.mem_of_getElem? (i := 1) rfl)) (fun _ h9 => h9) rfl dX6_region_79 ?_
        refine lv_iload_n hx hb dX6_region_82 rfl (lv_at hl 1 rfl) ?_
        obtain ⟨x3, hc3, hsem⟩ := bn_some hsem
        refine pcV (C := RX1) (As := [.int p0]) (rest := []) ⟨hx, hb, hml, hown, hts⟩ hKK (cwV 1 hts gX6_region_X1_thingsIn rfl rfl rfl hdX1_thingsIn ⟨Nat.le_of_ble_eq_true rfl, Nat.le_of_ble_eq_true rfl⟩) (kX1_thingsIn (l := l) (g := g) (hP.sub (ws' := wH g (hd 0) (HA 0) (HF 0)) [14, 15, 16, 17, 18, 19, 20, 21, 22, 23, 24, 25, 26, 27, 28] rfl) hc3) (va_recv hK hP (ci := 1) (q0 := 14) rfl rfl) rfl hl.1 rfl (Nat.le_of_ble_eq_true rfl) dX6_region_83 ⟨Nat.zero_le _, Nat.zero_le _⟩ ?_
        have eo := (Option.some.inj hsem).symm.symm
        subst eo
        exact W.iret (v := x3) hx hb hr (fun t ht hW => ⟨⟨_, (), rfl, rfl, ⟨by rw [ht]; exact hP, hD⟩⟩, hS.F ht⟩) hS.2.2 dX6_region_86
      rw [if_neg c6] at hsem
      refine lv_tableOut (tgt := 87) hx hb dX6_region_19 (sw_out 3 rfl (fun n hn => by
        match n, hn with
        | 0, _ => exact sw_ne c3 rfl
        | 1, _ => exact sw_ne c4 rfl
        | 2, _ => exact sw_ne c5 rfl
        | 3, _ => exact sw_ne c6 rfl
        | n + 4, h => omega)) (by decide) ?_
      refine lv_aload_n hx hb dX6_region_87 rfl (lv_at hl 0 rfl) ?_
      refine va_get (D := g.1) (ci := 6) (v := .ref (hd 0 0)) (C := RX6) (T := TX6) (N := 8) hx hb hts (fun w h => List.mem_cons_of_mem _ (List.mem_append_left _ (List.mem_append_right _ h))) hown hK hP 0 rfl rfl 0 (by decide) (hts (.fieldLink RX6 10 "PauseRegions" "heap" "LPauseRegions$Heap;") (List.mem_of_getElem? (i := 1) rfl)) (fun _ h9 => h9) rfl dX6_region_88 ?_
      refine va_get (D := g.1) (ci := 1) (v := .ref (hd 0 4)) (C := RX1) (T := TX1) (N := 18) hx hb hts (fun w h => List.mem_cons_of_mem _ (List.mem_append_right _ h)) hown hK hP 14 rfl rfl 3 (by decide) (hts (.fieldLink RX6 165 "PauseRegions$Heap" "memory" "[I") (List.mem_of_getElem? (i := 5) rfl)) (fun _ h9 => h9) rfl dX6_region_91 ?_
      refine lv_iload_n hx hb dX6_region_94 rfl (lv_at hl 1 rfl) ?_
      obtain ⟨h4, hsem⟩ := ck_some hsem
      refine va_iald (D := g.1) hx hb hK hP 18 0 rfl rfl h4 dX6_region_95 ?_
      obtain ⟨x4, hc4, hsem⟩ := bn_some hsem
      refine pcS (As := [.int (((HA 0) 3) p0.toNatClampNeg)]) (rest := []) ⟨hx, hb, hml, hown, hts⟩ hKK (va_cwS 1 hts gX6_region_J6_bitCount_0f7a4 rfl rfl rfl hdJ6_bitCount_0f7a4 ⟨Nat.le_of_ble_eq_true rfl, Nat.le_of_ble_eq_true rfl⟩) (kJ6_bitCount_0f7a4 (l := l) (g := g) hc4) rfl hl.1 rfl (Nat.le_of_ble_eq_true rfl) dX6_region_96 ⟨Nat.zero_le _, Nat.zero_le _⟩ ?_
      have eo := (Option.some.inj hsem).symm.symm
      subst eo
      exact W.iret (v := x4) hx hb hr (fun t ht hW => ⟨⟨_, (), rfl, rfl, ⟨by rw [ht]; exact hP, hD⟩⟩, hS.F ht⟩) hS.2.2 dX6_region_99
    · rw [if_pos c2] at hsem
      refine lv_iconst (v := (-1)) hx hb dX6_region_16 (by decide) ?_
      have eo := (Option.some.inj hsem).symm.symm
      subst eo
      exact W.iret (v := (-1)) hx hb hr (fun t ht hW => ⟨⟨_, (), rfl, rfl, ⟨by rw [ht]; exact hP, hD⟩⟩, hS.F ht⟩) hS.2.2 dX6_region_17
