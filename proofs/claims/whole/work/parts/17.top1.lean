def sX6_back (kf : Nat → Int32) (nxi : Int32) (kni : Int32) (HA : Nat → IA) (HFc : Nat → FA) (p0 : Int32) : Option (Int32 × Int32 × Int32 × (Nat → IA) × (Nat → FA)) :=
  (sX6_isImage p0).bind fun x1 => if x1 = 0 then (some (((-1), nxi, kni, HA, HFc))) else (ck p0 2 (if (kf p0.toNatClampNeg) = 0 then (some (((-2), nxi, kni, HA, HFc))) else (ck p0 2 (if p0 = 0 then ((sX1_becomeLike (HA 0) (HFc 0) (HA 8) (HFc 8)).bind fun z1 => bd (upH HA 0 (z1.1)) fun HA1 => bd (upF HFc 0 z1.2) fun HF1c => (sX2_forget nxi).bind fun z2 => (sX1_thingCount (HA1 0)).bind fun x2 => some (x2, z2.1, z2.2, HA1, HF1c)) else (if p0 = 1 then ((sX1_becomeLike (HA 0) (HFc 0) (HA 9) (HFc 9)).bind fun z3 => bd (upH HA 0 (z3.1)) fun HA2 => bd (upF HFc 0 z3.2) fun HF2c => (sX2_forget nxi).bind fun z4 => (sX1_thingCount (HA2 0)).bind fun x3 => some (x3, z4.1, z4.2, HA2, HF2c)) else (none))))))
abbrev rmX6_back : Room := { frames := 3, cells := 0, slots := 0, locals := 82 }
theorem hdX6_back : yX6_back.cls = RX6 ∧ yX6_back.cls ≠ "java/lang/invoke/MethodHandle" ∧ yX6_back.cls ≠ "java/lang/invoke/VarHandle" ∧ (parseMethodDescriptor yX6_back.desc).map (fun d => d.parameters.length) = some 1 := by decide +kernel
set_option maxHeartbeats 8000000 in
set_option maxRecDepth 100000 in
theorem kX6_back {l : Launch} {g : GG} {sz : Nat} {a0 a1 a2 : Nat} {im : Nat → Option Nat} {kf : Nat → Int32} {a0t : Nat} {rgt : Int32} {yct : Int32} {fct : UInt32} {adp : Nat → Nat} {Ap : IA} {Fp : FA} {adr : Nat → Nat} {Ar : IA} {a0i a1i : Nat} {pf : Nat → Option Nat} {nxi kni : Int32} {hd : Nat → Nat → Nat} {HA : Nat → IA} {HF : Nat → FA} {p0 : Int32} (him : ∀ k, k < 2 → im k = some (hd (8 + k) 0)) {fctc : UInt32} (hfct : alike32 fct fctc = true) {Fpc : FA} (hALp : AL Fp Fpc) {HFc : Nat → FA} (hALH : ALH HF HFc) {b : Int32 × Int32 × Int32 × (Nat → IA) × (Nat → FA)} (hsem : sX6_back kf nxi kni HA HFc p0 = some b) : MetDI l yX6_back wsX6_back rmX6_back g [.ref a0, .int p0] (wTp g a0 a1 a2 a0t (adp 0) (adr 0) a0i (hd 0 0) (hd 1 0) im kf ++ (wC g a0t rgt yct fct ++ (wPa g adp Ap Fp ++ (wRe g adr Ar ++ (wHi g a0i a1i pf nxi kni ++ (wH g (hd 0) (HA 0) (HF 0) ++ (wH g (hd 1) (HA 1) (HF 1) ++ (wH g (hd 2) (HA 2) (HF 2) ++ (wH g (hd 3) (HA 3) (HF 3) ++ (wH g (hd 4) (HA 4) (HF 4) ++ (wH g (hd 5) (HA 5) (HF 5) ++ (wH g (hd 6) (HA 6) (HF 6) ++ (wH g (hd 7) (HA 7) (HF 7) ++ (wH g (hd 8) (HA 8) (HF 8) ++ (wH g (hd 9) (HA 9) (HF 9) ++ ([])))))))))))))))) sz b.1 (φ := (Nat → FA)) (fun u => ALH u b.2.2.2.2) (fun u => wTp g a0 a1 a2 a0t (adp 0) (adr 0) a0i (hd 0 0) (hd 1 0) im kf ++ (wC g a0t rgt yct fct ++ (wPa g adp Ap Fp ++ (wRe g adr Ar ++ (wHi g a0i a1i pf b.2.1 b.2.2.1 ++ (wH g (hd 0) (b.2.2.2.1 0) (u 0) ++ (wH g (hd 1) (b.2.2.2.1 1) (u 1) ++ (wH g (hd 2) (b.2.2.2.1 2) (u 2) ++ (wH g (hd 3) (b.2.2.2.1 3) (u 3) ++ (wH g (hd 4) (b.2.2.2.1 4) (u 4) ++ (wH g (hd 5) (b.2.2.2.1 5) (u 5) ++ (wH g (hd 6) (b.2.2.2.1 6) (u 6) ++ (wH g (hd 7) (b.2.2.2.1 7) (u 7) ++ (wH g (hd 8) (b.2.2.2.1 8) (u 8) ++ (wH g (hd 9) (b.2.2.2.1 9) (u 9) ++ ([])))))))))))))))) := by
  refine MetD.ofW (cc := cX6_back) (maxL := 2) (ret := (some .int)) (by decide) rfl ?_
  intro p e s m args below meth c s₁ B hml hv hd0
  obtain ⟨rfl, hsz, hP, hD0, hKK⟩ := hv
  subst hsz
  have hx := B.exec
  have hb := B.bytes
  have hr := B.returns
  have hts := atoms_spec (ws := wsX6_back) B.pre
  have hown : ∀ d, (s.setDrawn d).vm.findClass RX6 = some m.cls := fun _ => findClass_of_methodNamed B.named
  have hlocks := B.notSynchronized
  have hK : ∀ d, va_K g.1 vwCl (KT g) (s.setDrawn d) := fun d => (hKK.drawn d).1
  have hD := hD0.self (sz := s.heap.size)
  generalize hZe : va_A (wTp g a0 a1 a2 a0t (adp 0) (adr 0) a0i (hd 0 0) (hd 1 0) im kf ++ (wC g a0t rgt yct fct ++ (wPa g adp Ap Fp ++ (wRe g adr Ar ++ (wHi g a0i a1i pf nxi kni ++ (wH g (hd 0) (HA 0) (HF 0) ++ (wH g (hd 1) (HA 1) (HF 1) ++ (wH g (hd 2) (HA 2) (HF 2) ++ (wH g (hd 3) (HA 3) (HF 3) ++ (wH g (hd 4) (HA 4) (HF 4) ++ (wH g (hd 5) (HA 5) (HF 5) ++ (wH g (hd 6) (HA 6) (HF 6) ++ (wH g (hd 7) (HA 7) (HF 7) ++ (wH g (hd 8) (HA 8) (HF 8) ++ (wH g (hd 9) (HA 9) (HF 9) ++ ([])))))))))))))))) s.heap.size = Z at hD ⊢
  have hZ : ∀ q : Nat, s.heap.size ≤ q → Z q := fun q h => by rw [← hZe]; exact Or.inr h
  have hS : va_S Z s.heap s.heap [] := va_S.rf
  have hP : va_P g.1 vwCl (wTp g a0 a1 a2 a0t (adp 0) (adr 0) a0i (hd 0 0) (hd 1 0) im kf ++ (wC g a0t rgt yct fct ++ (wPa g adp Ap Fp ++ (wRe g adr Ar ++ (wHi g a0i a1i pf nxi kni ++ (wH g (hd 0) (HA 0) (HF 0) ++ (wH g (hd 1) (HA 1) (HF 1) ++ (wH g (hd 2) (HA 2) (HF 2) ++ (wH g (hd 3) (HA 3) (HF 3) ++ (wH g (hd 4) (HA 4) (HF 4) ++ (wH g (hd 5) (HA 5) (HF 5) ++ (wH g (hd 6) (HA 6) (HF 6) ++ (wH g (hd 7) (HA 7) (HF 7) ++ (wH g (hd 8) (HA 8) (HF 8) ++ (wH g (hd 9) (HA 9) (HF 9) ++ ([])))))))))))))))) s.heap := hP
  have hD : va_D Z (wTp g a0 a1 a2 a0t (adp 0) (adr 0) a0i (hd 0 0) (hd 1 0) im kf ++ (wC g a0t rgt yct fct ++ (wPa g adp Ap Fp ++ (wRe g adr Ar ++ (wHi g a0i a1i pf nxi kni ++ (wH g (hd 0) (HA 0) (HF 0) ++ (wH g (hd 1) (HA 1) (HF 1) ++ (wH g (hd 2) (HA 2) (HF 2) ++ (wH g (hd 3) (HA 3) (HF 3) ++ (wH g (hd 4) (HA 4) (HF 4) ++ (wH g (hd 5) (HA 5) (HF 5) ++ (wH g (hd 6) (HA 6) (HF 6) ++ (wH g (hd 7) (HA 7) (HF 7) ++ (wH g (hd 8) (HA 8) (HF 8) ++ (wH g (hd 9) (HA 9) (HF 9) ++ ([])))))))))))))))) := hD
  obtain ⟨d, hdr, hdd⟩ : ∃ d, s.drawn.sameBut d lw_cs ∧ s.drawn = d := ⟨_, hd0, rfl⟩
  rw [hdd]
  have hl := lv_entry ([.ref a0, .int p0]) (n := 2) (Nat.le_of_ble_eq_true rfl)
  rw [lg_entry_eq]
  generalize (lg_sl ([.ref a0, .int p0]) ++ List.replicate (2 - (lg_sl ([.ref a0, .int p0])).length) Slot.unset).toArray = ls at hl ⊢
  have hl : lv_has ls 2 [(0, .ref a0), (1, .int p0)] := hl
  unfold sX6_back at hsem
  refine lv_iload_n hx hb dX6_back_0 rfl (lv_at hl 1 rfl) ?_
  obtain ⟨x1, hc1, hsem⟩ := bn_some hsem
  refine pcS (As := [.int p0]) (rest := []) ⟨hx, hb, hml, (hown d), (dr_words hts d)⟩ (hKK.drawn d) (va_cwS 1 (dr_words hts d) gX6_back_X6_isImage rfl rfl rfl hdX6_isImage ⟨Nat.le_of_ble_eq_true rfl, Nat.le_of_ble_eq_true rfl⟩) (kX6_isImage (l := l) (g := g) hc1) rfl hl.1 rfl (Nat.le_of_ble_eq_true rfl) dX6_back_1 ⟨Nat.zero_le _, Nat.zero_le _⟩ ?_
  refine lv_if_ne (tgt := 9) hx hb dX6_back_4 (by decide) (fun c1 => ?_) (fun c1 => ?_)
  · rw [if_neg c1] at hsem
    refine lv_aload_n hx hb dX6_back_9 rfl (lv_at hl 0 rfl) ?_
    refine va_get (D := g.1) (ci := 6) (v := .ref a2) (C := RX6) (T := TX6) (N := 8) hx hb (dr_words hts d) (fun w h => List.mem_cons_of_mem _ (List.mem_append_left _ (List.mem_append_left _ (List.mem_append_left _ (List.mem_append_right _ h))))) (hown d) (hK d) hP 0 rfl rfl 4 (by decide) ((dr_words hts d) (.fieldLink RX6 30 "PauseRegions" "kept" "[Z") (List.mem_of_getElem? (i := 1) rfl)) (fun _ h9 => h9) rfl dX6_back_10 ?_
    refine lv_iload_n hx hb dX6_back_13 rfl (lv_at hl 1 rfl) ?_
    obtain ⟨h1, hsem⟩ := ck_some hsem
    refine va_zald (D := g.1) hx hb (hK d) hP 2 1 rfl rfl h1 dX6_back_14 ?_
    refine lv_if_ne (tgt := 21) hx hb dX6_back_15 (by decide) (fun c2 => ?_) (fun c2 => ?_)
    · rw [if_neg c2] at hsem
      refine lv_aload_n hx hb dX6_back_21 rfl (lv_at hl 0 rfl) ?_
      refine va_get (D := g.1) (ci := 6) (v := .ref (hd 0 0)) (C := RX6) (T := TX6) (N := 8) hx hb (dr_words hts d) (fun w h => List.mem_cons_of_mem _ (List.mem_append_left _ (List.mem_append_left _ (List.mem_append_left _ (List.mem_append_right _ h))))) (hown d) (hK d) hP 0 rfl rfl 0 (by decide) ((dr_words hts d) (.fieldLink RX6 10 "PauseRegions" "heap" "LPauseRegions$Heap;") (List.mem_of_getElem? (i := 2) rfl)) (fun _ h9 => h9) rfl dX6_back_22 ?_
      refine lv_aload_n hx hb dX6_back_25 rfl (lv_at hl 0 rfl) ?_
      refine va_get (D := g.1) (ci := 6) (v := .ref a1) (C := RX6) (T := TX6) (N := 8) hx hb (dr_words hts d) (fun w h => List.mem_cons_of_mem _ (List.mem_append_left _ (List.mem_append_left _ (List.mem_append_left _ (List.mem_append_right _ h))))) (hown d) (hK d) hP 0 rfl rfl 3 (by decide) ((dr_words hts d) (.fieldLink RX6 26 "PauseRegions" "images" "[LPauseRegions$Heap;") (List.mem_of_getElem? (i := 3) rfl)) (fun _ h9 => h9) rfl dX6_back_26 ?_
      refine lv_iload_n hx hb dX6_back_29 rfl (lv_at hl 1 rfl) ?_
      obtain ⟨h2, hsem⟩ := ck_some hsem
      refine va_aldq (D := g.1) (C := RX1) hx hb (hK d) hP 1 3 rfl rfl h2 dX6_back_30 ?_
      by_cases c3 : p0 = 0
      · rw [if_pos c3] at hsem
        have ej : im p0.toNatClampNeg = some (hd 8 0) := by rw [c3]; exact him 0 (by decide)
        refine W.eq (g2 := F0 m 31 ls [.ref (hd 8 0), .ref (hd 0 0)]) (by rw [ej]; rfl) ?_
        obtain ⟨z1, hc2, hsem⟩ := bn_some hsem
        refine tdV (C := RX1) (As := [.ref (hd 8 0)]) (rest := []) hP hD hS hZ (pF2 (wTp g a0 a1 a2 a0t (adp 0) (adr 0) a0i (hd 0 0) (hd 1 0) im kf ++ (wC g a0t rgt yct fct ++ (wPa g adp Ap Fp ++ (wRe g adr Ar ++ (wHi g a0i a1i pf nxi kni ++ ([])))))) (wH g (hd 0) (HA 0) (HF 0)) (wH g (hd 1) (HA 1) (HF 1) ++ (wH g (hd 2) (HA 2) (HF 2) ++ (wH g (hd 3) (HA 3) (HF 3) ++ (wH g (hd 4) (HA 4) (HF 4) ++ (wH g (hd 5) (HA 5) (HF 5) ++ (wH g (hd 6) (HA 6) (HF 6) ++ (wH g (hd 7) (HA 7) (HF 7) ++ ([])))))))) (wH g (hd 8) (HA 8) (HF 8)) (wH g (hd 9) (HA 9) (HF 9) ++ ([]))) hdr ⟨hx, hb, hml, (hown d), (dr_words hts d)⟩ (hKK.drawn d) (cwV 1 (dr_words hts d) gX6_back_X1_becomeLike rfl rfl rfl hdX1_becomeLike ⟨Nat.le_of_ble_eq_true rfl, Nat.le_of_ble_eq_true rfl⟩) (kX1_becomeLike (l := l) (g := g) (ad := hd 0) (A := (HA 0)) (F := (HF 0)) (Fc := (HFc 0)) (adh := hd 8) (Ah := (HA 8)) (Fh := (HF 8)) (Fhc := (HFc 8)) (hALH 0) (hALH 8) hc2) (va_recv (hK d) hP (ci := 1) (q0 := 14) rfl rfl) rfl hl.1 rfl (Nat.le_of_ble_eq_true rfl) dX6_back_31 ⟨Nat.zero_le _, Nat.zero_le _⟩ (fun u1 H locs d hpo hP hD hS hdr => ?_)
        obtain ⟨HA1, eHA1, hsem⟩ := bd_some hsem
        obtain ⟨HF1, eHF1⟩ : ∃ z, z = upF HF 0 u1 := ⟨_, rfl⟩
        obtain ⟨HF1c, eHF1c, hsem⟩ := bd_some hsem
        have haHF1 : ALH HF1 HF1c := by rw [eHF1, eHF1c]; exact ALH.up hALH hpo
        have hP : va_P g.1 vwCl (wTp g a0 a1 a2 a0t (adp 0) (adr 0) a0i (hd 0 0) (hd 1 0) im kf ++ (wC g a0t rgt yct fct ++ (wPa g adp Ap Fp ++ (wRe g adr Ar ++ (wHi g a0i a1i pf nxi kni ++ (wH g (hd 0) (HA1 0) (HF1 0) ++ (wH g (hd 1) (HA1 1) (HF1 1) ++ (wH g (hd 2) (HA1 2) (HF1 2) ++ (wH g (hd 3) (HA1 3) (HF1 3) ++ (wH g (hd 4) (HA1 4) (HF1 4) ++ (wH g (hd 5) (HA1 5) (HF1 5) ++ (wH g (hd 6) (HA1 6) (HF1 6) ++ (wH g (hd 7) (HA1 7) (HF1 7) ++ (wH g (hd 8) (HA1 8) (HF1 8) ++ (wH g (hd 9) (HA1 9) (HF1 9) ++ ([])))))))))))))))) H := vaP_perm (pF2 (wTp g a0 a1 a2 a0t (adp 0) (adr 0) a0i (hd 0 0) (hd 1 0) im kf ++ (wC g a0t rgt yct fct ++ (wPa g adp Ap Fp ++ (wRe g adr Ar ++ (wHi g a0i a1i pf nxi kni ++ ([])))))) (wH g (hd 0) (HA1 0) (HF1 0)) (wH g (hd 1) (HA1 1) (HF1 1) ++ (wH g (hd 2) (HA1 2) (HF1 2) ++ (wH g (hd 3) (HA1 3) (HF1 3) ++ (wH g (hd 4) (HA1 4) (HF1 4) ++ (wH g (hd 5) (HA1 5) (HF1 5) ++ (wH g (hd 6) (HA1 6) (HF1 6) ++ (wH g (hd 7) (HA1 7) (HF1 7) ++ ([])))))))) (wH g (hd 8) (HA1 8) (HF1 8)) (wH g (hd 9) (HA1 9) (HF1 9) ++ ([]))).symm (by rw [eHA1, eHF1]; exact hP)
        have hD : va_D Z (wTp g a0 a1 a2 a0t (adp 0) (adr 0) a0i (hd 0 0) (hd 1 0) im kf ++ (wC g a0t rgt yct fct ++ (wPa g adp Ap Fp ++ (wRe g adr Ar ++ (wHi g a0i a1i pf nxi kni ++ (wH g (hd 0) (HA1 0) (HF1 0) ++ (wH g (hd 1) (HA1 1) (HF1 1) ++ (wH g (hd 2) (HA1 2) (HF1 2) ++ (wH g (hd 3) (HA1 3) (HF1 3) ++ (wH g (hd 4) (HA1 4) (HF1 4) ++ (wH g (hd 5) (HA1 5) (HF1 5) ++ (wH g (hd 6) (HA1 6) (HF1 6) ++ (wH g (hd 7) (HA1 7) (HF1 7) ++ (wH g (hd 8) (HA1 8) (HF1 8) ++ (wH g (hd 9) (HA1 9) (HF1 9) ++ ([])))))))))))))))) := vaD_perm (pF2 (wTp g a0 a1 a2 a0t (adp 0) (adr 0) a0i (hd 0 0) (hd 1 0) im kf ++ (wC g a0t rgt yct fct ++ (wPa g adp Ap Fp ++ (wRe g adr Ar ++ (wHi g a0i a1i pf nxi kni ++ ([])))))) (wH g (hd 0) (HA1 0) (HF1 0)) (wH g (hd 1) (HA1 1) (HF1 1) ++ (wH g (hd 2) (HA1 2) (HF1 2) ++ (wH g (hd 3) (HA1 3) (HF1 3) ++ (wH g (hd 4) (HA1 4) (HF1 4) ++ (wH g (hd 5) (HA1 5) (HF1 5) ++ (wH g (hd 6) (HA1 6) (HF1 6) ++ (wH g (hd 7) (HA1 7) (HF1 7) ++ ([])))))))) (wH g (hd 8) (HA1 8) (HF1 8)) (wH g (hd 9) (HA1 9) (HF1 9) ++ ([]))).symm (by rw [eHA1, eHF1]; exact hD)
        refine lv_aload_n hx hb dX6_back_34 rfl (lv_at hl 0 rfl) ?_
        refine va_get (D := g.1) (ci := 6) (v := .ref a0i) (C := RX6) (T := TX6) (N := 8) hx hb (dr_words hts d) (fun w h => List.mem_cons_of_mem _ (List.mem_append_left _ (List.mem_append_left _ (List.mem_append_left _ (List.mem_append_right _ h))))) (hown d) (hK d) hP 0 rfl rfl 2 (by decide) ((dr_words hts d) (.fieldLink RX6 22 "PauseRegions" "history" "LPauseRegions$History;") (List.mem_of_getElem? (i := 4) rfl)) (fun _ h9 => h9) rfl dX6_back_35 ?_
        obtain ⟨z2, hc3, hsem⟩ := bn_some hsem
        refine tcV (C := RX2) (As := []) (rest := []) hP hD hS hZ (pF1 (wTp g a0 a1 a2 a0t (adp 0) (adr 0) a0i (hd 0 0) (hd 1 0) im kf ++ (wC g a0t rgt yct fct ++ (wPa g adp Ap Fp ++ (wRe g adr Ar ++ ([]))))) (wHi g a0i a1i pf nxi kni ++ (wH g (hd 0) (HA1 0) (HF1 0) ++ (wH g (hd 1) (HA1 1) (HF1 1) ++ (wH g (hd 2) (HA1 2) (HF1 2) ++ (wH g (hd 3) (HA1 3) (HF1 3) ++ (wH g (hd 4) (HA1 4) (HF1 4) ++ (wH g (hd 5) (HA1 5) (HF1 5) ++ (wH g (hd 6) (HA1 6) (HF1 6) ++ (wH g (hd 7) (HA1 7) (HF1 7) ++ (wH g (hd 8) (HA1 8) (HF1 8) ++ (wH g (hd 9) (HA1 9) (HF1 9) ++ ([])))))))))))) ([])) ⟨hx, hb, hml, (hown d), (dr_words hts d)⟩ (hKK.drawn d) (cwV 0 (dr_words hts d) gX6_back_X2_forget rfl rfl rfl hdX2_forget ⟨Nat.le_of_ble_eq_true rfl, Nat.le_of_ble_eq_true rfl⟩) (kX2_forget (l := l) (g := g) (a0i := a0i) (a1i := a1i) (hd := hd) (pf := pf) (nxi := nxi) (kni := kni) (HA := HA1) (HF := HF1)  hc3) (va_recv (hK d) hP (ci := 2) (q0 := 12) rfl rfl) rfl hl.1 rfl (Nat.le_of_ble_eq_true rfl) dX6_back_38 ⟨Nat.zero_le _, Nat.zero_le _⟩ (fun H locs hP hD hS => ?_)
        have hP : va_P g.1 vwCl (wTp g a0 a1 a2 a0t (adp 0) (adr 0) a0i (hd 0 0) (hd 1 0) im kf ++ (wC g a0t rgt yct fct ++ (wPa g adp Ap Fp ++ (wRe g adr Ar ++ (wHi g a0i a1i pf z2.1 z2.2 ++ (wH g (hd 0) (HA1 0) (HF1 0) ++ (wH g (hd 1) (HA1 1) (HF1 1) ++ (wH g (hd 2) (HA1 2) (HF1 2) ++ (wH g (hd 3) (HA1 3) (HF1 3) ++ (wH g (hd 4) (HA1 4) (HF1 4) ++ (wH g (hd 5) (HA1 5) (HF1 5) ++ (wH g (hd 6) (HA1 6) (HF1 6) ++ (wH g (hd 7) (HA1 7) (HF1 7) ++ (wH g (hd 8) (HA1 8) (HF1 8) ++ (wH g (hd 9) (HA1 9) (HF1 9) ++ ([])))))))))))))))) H := vaP_perm (pF1 (wTp g a0 a1 a2 a0t (adp 0) (adr 0) a0i (hd 0 0) (hd 1 0) im kf ++ (wC g a0t rgt yct fct ++ (wPa g adp Ap Fp ++ (wRe g adr Ar ++ ([]))))) (wHi g a0i a1i pf z2.1 z2.2 ++ (wH g (hd 0) (HA1 0) (HF1 0) ++ (wH g (hd 1) (HA1 1) (HF1 1) ++ (wH g (hd 2) (HA1 2) (HF1 2) ++ (wH g (hd 3) (HA1 3) (HF1 3) ++ (wH g (hd 4) (HA1 4) (HF1 4) ++ (wH g (hd 5) (HA1 5) (HF1 5) ++ (wH g (hd 6) (HA1 6) (HF1 6) ++ (wH g (hd 7) (HA1 7) (HF1 7) ++ (wH g (hd 8) (HA1 8) (HF1 8) ++ (wH g (hd 9) (HA1 9) (HF1 9) ++ ([])))))))))))) ([])).symm (by exact hP)
        have hD : va_D Z (wTp g a0 a1 a2 a0t (adp 0) (adr 0) a0i (hd 0 0) (hd 1 0) im kf ++ (wC g a0t rgt yct fct ++ (wPa g adp Ap Fp ++ (wRe g adr Ar ++ (wHi g a0i a1i pf z2.1 z2.2 ++ (wH g (hd 0) (HA1 0) (HF1 0) ++ (wH g (hd 1) (HA1 1) (HF1 1) ++ (wH g (hd 2) (HA1 2) (HF1 2) ++ (wH g (hd 3) (HA1 3) (HF1 3) ++ (wH g (hd 4) (HA1 4) (HF1 4) ++ (wH g (hd 5) (HA1 5) (HF1 5) ++ (wH g (hd 6) (HA1 6) (HF1 6) ++ (wH g (hd 7) (HA1 7) (HF1 7) ++ (wH g (hd 8) (HA1 8) (HF1 8) ++ (wH g (hd 9) (HA1 9) (HF1 9) ++ ([])))))))))))))))) := vaD_perm (pF1 (wTp g a0 a1 a2 a0t (adp 0) (adr 0) a0i (hd 0 0) (hd 1 0) im kf ++ (wC g a0t rgt yct fct ++ (wPa g adp Ap Fp ++ (wRe g adr Ar ++ ([]))))) (wHi g a0i a1i pf z2.1 z2.2 ++ (wH g (hd 0) (HA1 0) (HF1 0) ++ (wH g (hd 1) (HA1 1) (HF1 1) ++ (wH g (hd 2) (HA1 2) (HF1 2) ++ (wH g (hd 3) (HA1 3) (HF1 3) ++ (wH g (hd 4) (HA1 4) (HF1 4) ++ (wH g (hd 5) (HA1 5) (HF1 5) ++ (wH g (hd 6) (HA1 6) (HF1 6) ++ (wH g (hd 7) (HA1 7) (HF1 7) ++ (wH g (hd 8) (HA1 8) (HF1 8) ++ (wH g (hd 9) (HA1 9) (HF1 9) ++ ([])))))))))))) ([])).symm (by exact hD)
        refine lv_aload_n hx hb dX6_back_41 rfl (lv_at hl 0 rfl) ?_
        refine va_get (D := g.1) (ci := 6) (v := .ref (hd 0 0)) (C := RX6) (T := TX6) (N := 8) hx hb (dr_words hts d) (fun w h => List.mem_cons_of_mem _ (List.mem_append_left _ (List.mem_append_left _ (List.mem_append_left _ (List.mem_append_right _ h))))) (hown d) (hK d) hP 0 rfl rfl 0 (by decide) ((dr_words hts d) (.fieldLink RX6 10 "PauseRegions" "heap" "LPauseRegions$Heap;") (List.mem_of_getElem? (i := 2) rfl)) (fun _ h9 => h9) rfl dX6_back_42 ?_
        obtain ⟨x2, hc4, hsem⟩ := bn_some hsem
        refine pcV (C := RX1) (As := []) (rest := []) ⟨hx, hb, hml, (hown d), (dr_words hts d)⟩ (hKK.drawn d) (cwV 0 (dr_words hts d) gX6_back_X1_thingCount rfl rfl rfl hdX1_thingCount ⟨Nat.le_of_ble_eq_true rfl, Nat.le_of_ble_eq_true rfl⟩) (kX1_thingCount (l := l) (g := g) (hP.sub (ws' := wH g (hd 0) (HA1 0) (HF1 0)) [14, 15, 16, 17, 18, 19, 20, 21, 22, 23, 24, 25, 26, 27, 28] rfl) hc4) (va_recv (hK d) hP (ci := 1) (q0 := 14) rfl rfl) rfl hl.1 rfl (Nat.le_of_ble_eq_true rfl) dX6_back_45 ⟨Nat.zero_le _, Nat.zero_le _⟩ ?_
        have eo := (Option.some.inj hsem).symm.symm
        refine W.endD hdr ?_
        subst eo
        exact W.iret (v := x2) hx hb hr (fun t ht hW => ⟨⟨_, HF1, rfl, ⟨rfl, haHF1⟩, ⟨by rw [ht]; exact hP, hD⟩⟩, hS.F ht⟩) hS.2.2 dX6_back_48
      rw [if_neg c3] at hsem
      by_cases c4 : p0 = 1
      · rw [if_pos c4] at hsem
        have ej : im p0.toNatClampNeg = some (hd 9 0) := by rw [c4]; exact him 1 (by decide)
        refine W.eq (g2 := F0 m 31 ls [.ref (hd 9 0), .ref (hd 0 0)]) (by rw [ej]; rfl) ?_
        obtain ⟨z3, hc5, hsem⟩ := bn_some hsem
        refine tdV (C := RX1) (As := [.ref (hd 9 0)]) (rest := []) hP hD hS hZ (pF2 (wTp g a0 a1 a2 a0t (adp 0) (adr 0) a0i (hd 0 0) (hd 1 0) im kf ++ (wC g a0t rgt yct fct ++ (wPa g adp Ap Fp ++ (wRe g adr Ar ++ (wHi g a0i a1i pf nxi kni ++ ([])))))) (wH g (hd 0) (HA 0) (HF 0)) (wH g (hd 1) (HA 1) (HF 1) ++ (wH g (hd 2) (HA 2) (HF 2) ++ (wH g (hd 3) (HA 3) (HF 3) ++ (wH g (hd 4) (HA 4) (HF 4) ++ (wH g (hd 5) (HA 5) (HF 5) ++ (wH g (hd 6) (HA 6) (HF 6) ++ (wH g (hd 7) (HA 7) (HF 7) ++ (wH g (hd 8) (HA 8) (HF 8) ++ ([]))))))))) (wH g (hd 9) (HA 9) (HF 9)) ([])) hdr ⟨hx, hb, hml, (hown d), (dr_words hts d)⟩ (hKK.drawn d) (cwV 1 (dr_words hts d) gX6_back_X1_becomeLike rfl rfl rfl hdX1_becomeLike ⟨Nat.le_of_ble_eq_true rfl, Nat.le_of_ble_eq_true rfl⟩) (kX1_becomeLike (l := l) (g := g) (ad := hd 0) (A := (HA 0)) (F := (HF 0)) (Fc := (HFc 0)) (adh := hd 9) (Ah := (HA 9)) (Fh := (HF 9)) (Fhc := (HFc 9)) (hALH 0) (hALH 9) hc5) (va_recv (hK d) hP (ci := 1) (q0 := 14) rfl rfl) rfl hl.1 rfl (Nat.le_of_ble_eq_true rfl) dX6_back_31 ⟨Nat.zero_le _, Nat.zero_le _⟩ (fun u3 H locs d hpo hP hD hS hdr => ?_)
        obtain ⟨HA2, eHA2, hsem⟩ := bd_some hsem
        obtain ⟨HF2, eHF2⟩ : ∃ z, z = upF HF 0 u3 := ⟨_, rfl⟩
        obtain ⟨HF2c, eHF2c, hsem⟩ := bd_some hsem
        have haHF2 : ALH HF2 HF2c := by rw [eHF2, eHF2c]; exact ALH.up hALH hpo
        have hP : va_P g.1 vwCl (wTp g a0 a1 a2 a0t (adp 0) (adr 0) a0i (hd 0 0) (hd 1 0) im kf ++ (wC g a0t rgt yct fct ++ (wPa g adp Ap Fp ++ (wRe g adr Ar ++ (wHi g a0i a1i pf nxi kni ++ (wH g (hd 0) (HA2 0) (HF2 0) ++ (wH g (hd 1) (HA2 1) (HF2 1) ++ (wH g (hd 2) (HA2 2) (HF2 2) ++ (wH g (hd 3) (HA2 3) (HF2 3) ++ (wH g (hd 4) (HA2 4) (HF2 4) ++ (wH g (hd 5) (HA2 5) (HF2 5) ++ (wH g (hd 6) (HA2 6) (HF2 6) ++ (wH g (hd 7) (HA2 7) (HF2 7) ++ (wH g (hd 8) (HA2 8) (HF2 8) ++ (wH g (hd 9) (HA2 9) (HF2 9) ++ ([])))))))))))))))) H := vaP_perm (pF2 (wTp g a0 a1 a2 a0t (adp 0) (adr 0) a0i (hd 0 0) (hd 1 0) im kf ++ (wC g a0t rgt yct fct ++ (wPa g adp Ap Fp ++ (wRe g adr Ar ++ (wHi g a0i a1i pf nxi kni ++ ([])))))) (wH g (hd 0) (HA2 0) (HF2 0)) (wH g (hd 1) (HA2 1) (HF2 1) ++ (wH g (hd 2) (HA2 2) (HF2 2) ++ (wH g (hd 3) (HA2 3) (HF2 3) ++ (wH g (hd 4) (HA2 4) (HF2 4) ++ (wH g (hd 5) (HA2 5) (HF2 5) ++ (wH g (hd 6) (HA2 6) (HF2 6) ++ (wH g (hd 7) (HA2 7) (HF2 7) ++ (wH g (hd 8) (HA2 8) (HF2 8) ++ ([]))))))))) (wH g (hd 9) (HA2 9) (HF2 9)) ([])).symm (by rw [eHA2, eHF2]; exact hP)
        have hD : va_D Z (wTp g a0 a1 a2 a0t (adp 0) (adr 0) a0i (hd 0 0) (hd 1 0) im kf ++ (wC g a0t rgt yct fct ++ (wPa g adp Ap Fp ++ (wRe g adr Ar ++ (wHi g a0i a1i pf nxi kni ++ (wH g (hd 0) (HA2 0) (HF2 0) ++ (wH g (hd 1) (HA2 1) (HF2 1) ++ (wH g (hd 2) (HA2 2) (HF2 2) ++ (wH g (hd 3) (HA2 3) (HF2 3) ++ (wH g (hd 4) (HA2 4) (HF2 4) ++ (wH g (hd 5) (HA2 5) (HF2 5) ++ (wH g (hd 6) (HA2 6) (HF2 6) ++ (wH g (hd 7) (HA2 7) (HF2 7) ++ (wH g (hd 8) (HA2 8) (HF2 8) ++ (wH g (hd 9) (HA2 9) (HF2 9) ++ ([])))))))))))))))) := vaD_perm (pF2 (wTp g a0 a1 a2 a0t (adp 0) (adr 0) a0i (hd 0 0) (hd 1 0) im kf ++ (wC g a0t rgt yct fct ++ (wPa g adp Ap Fp ++ (wRe g adr Ar ++ (wHi g a0i a1i pf nxi kni ++ ([])))))) (wH g (hd 0) (HA2 0) (HF2 0)) (wH g (hd 1) (HA2 1) (HF2 1) ++ (wH g (hd 2) (HA2 2) (HF2 2) ++ (wH g (hd 3) (HA2 3) (HF2 3) ++ (wH g (hd 4) (HA2 4) (HF2 4) ++ (wH g (hd 5) (HA2 5) (HF2 5) ++ (wH g (hd 6) (HA2 6) (HF2 6) ++ (wH g (hd 7) (HA2 7) (HF2 7) ++ (wH g (hd 8) (HA2 8) (HF2 8) ++ ([]))))))))) (wH g (hd 9) (HA2 9) (HF2 9)) ([])).symm (by rw [eHA2, eHF2]; exact hD)
        refine lv_aload_n hx hb dX6_back_34 rfl (lv_at hl 0 rfl) ?_
        refine va_get (D := g.1) (ci := 6) (v := .ref a0i) (C := RX6) (T := TX6) (N := 8) hx hb (dr_words hts d) (fun w h => List.mem_cons_of_mem _ (List.mem_append_left _ (List.mem_append_left _ (List.mem_append_left _ (List.mem_append_right _ h))))) (hown d) (hK d) hP 0 rfl rfl 2 (by decide) ((dr_words hts d) (.fieldLink RX6 22 "PauseRegions" "history" "LPauseRegions$History;") (List.mem_of_getElem? (i := 4) rfl)) (fun _ h9 => h9) rfl dX6_back_35 ?_
        obtain ⟨z4, hc6, hsem⟩ := bn_some hsem
        refine tcV (C := RX2) (As := []) (rest := []) hP hD hS hZ (pF1 (wTp g a0 a1 a2 a0t (adp 0) (adr 0) a0i (hd 0 0) (hd 1 0) im kf ++ (wC g a0t rgt yct fct ++ (wPa g adp Ap Fp ++ (wRe g adr Ar ++ ([]))))) (wHi g a0i a1i pf nxi kni ++ (wH g (hd 0) (HA2 0) (HF2 0) ++ (wH g (hd 1) (HA2 1) (HF2 1) ++ (wH g (hd 2) (HA2 2) (HF2 2) ++ (wH g (hd 3) (HA2 3) (HF2 3) ++ (wH g (hd 4) (HA2 4) (HF2 4) ++ (wH g (hd 5) (HA2 5) (HF2 5) ++ (wH g (hd 6) (HA2 6) (HF2 6) ++ (wH g (hd 7) (HA2 7) (HF2 7) ++ (wH g (hd 8) (HA2 8) (HF2 8) ++ (wH g (hd 9) (HA2 9) (HF2 9) ++ ([])))))))))))) ([])) ⟨hx, hb, hml, (hown d), (dr_words hts d)⟩ (hKK.drawn d) (cwV 0 (dr_words hts d) gX6_back_X2_forget rfl rfl rfl hdX2_forget ⟨Nat.le_of_ble_eq_true rfl, Nat.le_of_ble_eq_true rfl⟩) (kX2_forget (l := l) (g := g) (a0i := a0i) (a1i := a1i) (hd := hd) (pf := pf) (nxi := nxi) (kni := kni) (HA := HA2) (HF := HF2)  hc6) (va_recv (hK d) hP (ci := 2) (q0 := 12) rfl rfl) rfl hl.1 rfl (Nat.le_of_ble_eq_true rfl) dX6_back_38 ⟨Nat.zero_le _, Nat.zero_le _⟩ (fun H locs hP hD hS => ?_)
        have hP : va_P g.1 vwCl (wTp g a0 a1 a2 a0t (adp 0) (adr 0) a0i (hd 0 0) (hd 1 0) im kf ++ (wC g a0t rgt yct fct ++ (wPa g adp Ap Fp ++ (wRe g adr Ar ++ (wHi g a0i a1i pf z4.1 z4.2 ++ (wH g (hd 0) (HA2 0) (HF2 0) ++ (wH g (hd 1) (HA2 1) (HF2 1) ++ (wH g (hd 2) (HA2 2) (HF2 2) ++ (wH g (hd 3) (HA2 3) (HF2 3) ++ (wH g (hd 4) (HA2 4) (HF2 4) ++ (wH g (hd 5) (HA2 5) (HF2 5) ++ (wH g (hd 6) (HA2 6) (HF2 6) ++ (wH g (hd 7) (HA2 7) (HF2 7) ++ (wH g (hd 8) (HA2 8) (HF2 8) ++ (wH g (hd 9) (HA2 9) (HF2 9) ++ ([])))))))))))))))) H := vaP_perm (pF1 (wTp g a0 a1 a2 a0t (adp 0) (adr 0) a0i (hd 0 0) (hd 1 0) im kf ++ (wC g a0t rgt yct fct ++ (wPa g adp Ap Fp ++ (wRe g adr Ar ++ ([]))))) (wHi g a0i a1i pf z4.1 z4.2 ++ (wH g (hd 0) (HA2 0) (HF2 0) ++ (wH g (hd 1) (HA2 1) (HF2 1) ++ (wH g (hd 2) (HA2 2) (HF2 2) ++ (wH g (hd 3) (HA2 3) (HF2 3) ++ (wH g (hd 4) (HA2 4) (HF2 4) ++ (wH g (hd 5) (HA2 5) (HF2 5) ++ (wH g (hd 6) (HA2 6) (HF2 6) ++ (wH g (hd 7) (HA2 7) (HF2 7) ++ (wH g (hd 8) (HA2 8) (HF2 8) ++ (wH g (hd 9) (HA2 9) (HF2 9) ++ ([])))))))))))) ([])).symm (by exact hP)
        have hD : va_D Z (wTp g a0 a1 a2 a0t (adp 0) (adr 0) a0i (hd 0 0) (hd 1 0) im kf ++ (wC g a0t rgt yct fct ++ (wPa g adp Ap Fp ++ (wRe g adr Ar ++ (wHi g a0i a1i pf z4.1 z4.2 ++ (wH g (hd 0) (HA2 0) (HF2 0) ++ (wH g (hd 1) (HA2 1) (HF2 1) ++ (wH g (hd 2) (HA2 2) (HF2 2) ++ (wH g (hd 3) (HA2 3) (HF2 3) ++ (wH g (hd 4) (HA2 4) (HF2 4) ++ (wH g (hd 5) (HA2 5) (HF2 5) ++ (wH g (hd 6) (HA2 6) (HF2 6) ++ (wH g (hd 7) (HA2 7) (HF2 7) ++ (wH g (hd 8) (HA2 8) (HF2 8) ++ (wH g (hd 9) (HA2 9) (HF2 9) ++ ([])))))))))))))))) := vaD_perm (pF1 (wTp g a0 a1 a2 a0t (adp 0) (adr 0) a0i (hd 0 0) (hd 1 0) im kf ++ (wC g a0t rgt yct fct ++ (wPa g adp Ap Fp ++ (wRe g adr Ar ++ ([]))))) (wHi g a0i a1i pf z4.1 z4.2 ++ (wH g (hd 0) (HA2 0) (HF2 0) ++ (wH g (hd 1) (HA2 1) (HF2 1) ++ (wH g (hd 2) (HA2 2) (HF2 2) ++ (wH g (hd 3) (HA2 3) (HF2 3) ++ (wH g (hd 4) (HA2 4) (HF2 4) ++ (wH g (hd 5) (HA2 5) (HF2 5) ++ (wH g (hd 6) (HA2 6) (HF2 6) ++ (wH g (hd 7) (HA2 7) (HF2 7) ++ (wH g (hd 8) (HA2 8) (HF2 8) ++ (wH g (hd 9) (HA2 9) (HF2 9) ++ ([])))))))))))) ([])).symm (by exact hD)
        refine lv_aload_n hx hb dX6_back_41 rfl (lv_at hl 0 rfl) ?_
        refine va_get (D := g.1) (ci := 6) (v := .ref (hd 0 0)) (C := RX6) (T := TX6) (N := 8) hx hb (dr_words hts d) (fun w h => List.mem_cons_of_mem _ (List.mem_append_left _ (List.mem_append_left _ (List.mem_append_left _ (List.mem_append_right _ h))))) (hown d) (hK d) hP 0 rfl rfl 0 (by decide) ((dr_words hts d) (.fieldLink RX6 10 "PauseRegions" "heap" "LPauseRegions$Heap;") (List.mem_of_getElem? (i := 2) rfl)) (fun _ h9 => h9) rfl dX6_back_42 ?_
        obtain ⟨x3, hc7, hsem⟩ := bn_some hsem
        refine pcV (C := RX1) (As := []) (rest := []) ⟨hx, hb, hml, (hown d), (dr_words hts d)⟩ (hKK.drawn d) (cwV 0 (dr_words hts d) gX6_back_X1_thingCount rfl rfl rfl hdX1_thingCount ⟨Nat.le_of_ble_eq_true rfl, Nat.le_of_ble_eq_true rfl⟩) (kX1_thingCount (l := l) (g := g) (hP.sub (ws' := wH g (hd 0) (HA2 0) (HF2 0)) [14, 15, 16, 17, 18, 19, 20, 21, 22, 23, 24, 25, 26, 27, 28] rfl) hc7) (va_recv (hK d) hP (ci := 1) (q0 := 14) rfl rfl) rfl hl.1 rfl (Nat.le_of_ble_eq_true rfl) dX6_back_45 ⟨Nat.zero_le _, Nat.zero_le _⟩ ?_
        have eo := (Option.some.inj hsem).symm.symm
        refine W.endD hdr ?_
        subst eo
        exact W.iret (v := x3) hx hb hr (fun t ht hW => ⟨⟨_, HF2, rfl, ⟨rfl, haHF2⟩, ⟨by rw [ht]; exact hP, hD⟩⟩, hS.F ht⟩) hS.2.2 dX6_back_48
      rw [if_neg c4] at hsem
      cases hsem
    · rw [if_pos c2] at hsem
      refine lv_bipush (v := (-2)) hx hb dX6_back_18 (by decide) ?_
      have eo := (Option.some.inj hsem).symm.symm
      refine W.endD hdr ?_
      subst eo
      exact W.iret (v := (-2)) hx hb hr (fun t ht hW => ⟨⟨_, HF, rfl, ⟨rfl, hALH⟩, ⟨by rw [ht]; exact hP, hD⟩⟩, hS.F ht⟩) hS.2.2 dX6_back_20
  · rw [if_pos c1] at hsem
    refine lv_iconst (v := (-1)) hx hb dX6_back_7 (by decide) ?_
    have eo := (Option.some.inj hsem).symm.symm
    refine W.endD hdr ?_
    subst eo
    exact W.iret (v := (-1)) hx hb hr (fun t ht hW => ⟨⟨_, HF, rfl, ⟨rfl, hALH⟩, ⟨by rw [ht]; exact hP, hD⟩⟩, hS.F ht⟩) hS.2.2 dX6_back_8
def sX6_begins (nxi : Int32) (kni : Int32) (HA : Nat → IA) (HFc : Nat → FA) : Option (Int32 × Int32 × Int32 × (Nat → IA) × (Nat → FA)) :=
  if (((HA 0) 12 0)) = 0 then ((sX2_push nxi kni HA HFc).bind fun z1 => (sX1_beginMarking (z1.2.2.1 0)).bind fun z2 => bd (upH z1.2.2.1 0 (z2)) fun HA1 => some ((((HA1 0) 19 0), z1.1, z1.2.1, HA1, z1.2.2.2))) else (some (((-2), nxi, kni, HA, HFc)))
abbrev rmX6_begins : Room := { frames := 5, cells := 0, slots := 0, locals := 110 }
theorem hdX6_begins : yX6_begins.cls = RX6 ∧ yX6_begins.cls ≠ "java/lang/invoke/MethodHandle" ∧ yX6_begins.cls ≠ "java/lang/invoke/VarHandle" ∧ (parseMethodDescriptor yX6_begins.desc).map (fun d => d.parameters.length) = some 0 := by decide +kernel
set_option maxHeartbeats 8000000 in
set_option maxRecDepth 100000 in
theorem kX6_begins {l : Launch} {g : GG} {sz : Nat} {a0 a1 a2 : Nat} {im : Nat → Option Nat} {kf : Nat → Int32} {a0t : Nat} {rgt : Int32} {yct : Int32} {fct : UInt32} {adp : Nat → Nat} {Ap : IA} {Fp : FA} {adr : Nat → Nat} {Ar : IA} {a0i a1i : Nat} {pf : Nat → Option Nat} {nxi kni : Int32} {hd : Nat → Nat → Nat} {HA : Nat → IA} {HF : Nat → FA} (hpf : ∀ k, k < 6 → pf k = some (hd (2 + k) 0)) {fctc : UInt32} (hfct : alike32 fct fctc = true) {Fpc : FA} (hALp : AL Fp Fpc) {HFc : Nat → FA} (hALH : ALH HF HFc) {b : Int32 × Int32 × Int32 × (Nat → IA) × (Nat → FA)} (hsem : sX6_begins nxi kni HA HFc = some b) : MetDI l yX6_begins wsX6_begins rmX6_begins g [.ref a0] (wTp g a0 a1 a2 a0t (adp 0) (adr 0) a0i (hd 0 0) (hd 1 0) im kf ++ (wC g a0t rgt yct fct ++ (wPa g adp Ap Fp ++ (wRe g adr Ar ++ (wHi g a0i a1i pf nxi kni ++ (wH g (hd 0) (HA 0) (HF 0) ++ (wH g (hd 1) (HA 1) (HF 1) ++ (wH g (hd 2) (HA 2) (HF 2) ++ (wH g (hd 3) (HA 3) (HF 3) ++ (wH g (hd 4) (HA 4) (HF 4) ++ (wH g (hd 5) (HA 5) (HF 5) ++ (wH g (hd 6) (HA 6) (HF 6) ++ (wH g (hd 7) (HA 7) (HF 7) ++ (wH g (hd 8) (HA 8) (HF 8) ++ (wH g (hd 9) (HA 9) (HF 9) ++ ([])))))))))))))))) sz b.1 (φ := (Nat → FA)) (fun u => ALH u b.2.2.2.2) (fun u => wTp g a0 a1 a2 a0t (adp 0) (adr 0) a0i (hd 0 0) (hd 1 0) im kf ++ (wC g a0t rgt yct fct ++ (wPa g adp Ap Fp ++ (wRe g adr Ar ++ (wHi g a0i a1i pf b.2.1 b.2.2.1 ++ (wH g (hd 0) (b.2.2.2.1 0) (u 0) ++ (wH g (hd 1) (b.2.2.2.1 1) (u 1) ++ (wH g (hd 2) (b.2.2.2.1 2) (u 2) ++ (wH g (hd 3) (b.2.2.2.1 3) (u 3) ++ (wH g (hd 4) (b.2.2.2.1 4) (u 4) ++ (wH g (hd 5) (b.2.2.2.1 5) (u 5) ++ (wH g (hd 6) (b.2.2.2.1 6) (u 6) ++ (wH g (hd 7) (b.2.2.2.1 7) (u 7) ++ (wH g (hd 8) (b.2.2.2.1 8) (u 8) ++ (wH g (hd 9) (b.2.2.2.1 9) (u 9) ++ ([])))))))))))))))) := by
  refine MetD.ofW (cc := cX6_begins) (maxL := 1) (ret := (some .int)) (by decide) rfl ?_
  intro p e s m args below meth c s₁ B hml hv hd0
  obtain ⟨rfl, hsz, hP, hD0, hKK⟩ := hv
  subst hsz
  have hx := B.exec
  have hb := B.bytes
  have hr := B.returns
  have hts := atoms_spec (ws := wsX6_begins) B.pre
  have hown : ∀ d, (s.setDrawn d).vm.findClass RX6 = some m.cls := fun _ => findClass_of_methodNamed B.named
  have hlocks := B.notSynchronized
  have hK : ∀ d, va_K g.1 vwCl (KT g) (s.setDrawn d) := fun d => (hKK.drawn d).1
  have hD := hD0.self (sz := s.heap.size)
  generalize hZe : va_A (wTp g a0 a1 a2 a0t (adp 0) (adr 0) a0i (hd 0 0) (hd 1 0) im kf ++ (wC g a0t rgt yct fct ++ (wPa g adp Ap Fp ++ (wRe g adr Ar ++ (wHi g a0i a1i pf nxi kni ++ (wH g (hd 0) (HA 0) (HF 0) ++ (wH g (hd 1) (HA 1) (HF 1) ++ (wH g (hd 2) (HA 2) (HF 2) ++ (wH g (hd 3) (HA 3) (HF 3) ++ (wH g (hd 4) (HA 4) (HF 4) ++ (wH g (hd 5) (HA 5) (HF 5) ++ (wH g (hd 6) (HA 6) (HF 6) ++ (wH g (hd 7) (HA 7) (HF 7) ++ (wH g (hd 8) (HA 8) (HF 8) ++ (wH g (hd 9) (HA 9) (HF 9) ++ ([])))))))))))))))) s.heap.size = Z at hD ⊢
  have hZ : ∀ q : Nat, s.heap.size ≤ q → Z q := fun q h => by rw [← hZe]; exact Or.inr h
  have hS : va_S Z s.heap s.heap [] := va_S.rf
  have hP : va_P g.1 vwCl (wTp g a0 a1 a2 a0t (adp 0) (adr 0) a0i (hd 0 0) (hd 1 0) im kf ++ (wC g a0t rgt yct fct ++ (wPa g adp Ap Fp ++ (wRe g adr Ar ++ (wHi g a0i a1i pf nxi kni ++ (wH g (hd 0) (HA 0) (HF 0) ++ (wH g (hd 1) (HA 1) (HF 1) ++ (wH g (hd 2) (HA 2) (HF 2) ++ (wH g (hd 3) (HA 3) (HF 3) ++ (wH g (hd 4) (HA 4) (HF 4) ++ (wH g (hd 5) (HA 5) (HF 5) ++ (wH g (hd 6) (HA 6) (HF 6) ++ (wH g (hd 7) (HA 7) (HF 7) ++ (wH g (hd 8) (HA 8) (HF 8) ++ (wH g (hd 9) (HA 9) (HF 9) ++ ([])))))))))))))))) s.heap := hP
  have hD : va_D Z (wTp g a0 a1 a2 a0t (adp 0) (adr 0) a0i (hd 0 0) (hd 1 0) im kf ++ (wC g a0t rgt yct fct ++ (wPa g adp Ap Fp ++ (wRe g adr Ar ++ (wHi g a0i a1i pf nxi kni ++ (wH g (hd 0) (HA 0) (HF 0) ++ (wH g (hd 1) (HA 1) (HF 1) ++ (wH g (hd 2) (HA 2) (HF 2) ++ (wH g (hd 3) (HA 3) (HF 3) ++ (wH g (hd 4) (HA 4) (HF 4) ++ (wH g (hd 5) (HA 5) (HF 5) ++ (wH g (hd 6) (HA 6) (HF 6) ++ (wH g (hd 7) (HA 7) (HF 7) ++ (wH g (hd 8) (HA 8) (HF 8) ++ (wH g (hd 9) (HA 9) (HF 9) ++ ([])))))))))))))))) := hD
  obtain ⟨d, hdr, hdd⟩ : ∃ d, s.drawn.sameBut d lw_cs ∧ s.drawn = d := ⟨_, hd0, rfl⟩
  rw [hdd]
  have hl := lv_entry ([.ref a0]) (n := 1) (Nat.le_of_ble_eq_true rfl)
  rw [lg_entry_eq]
  generalize (lg_sl ([.ref a0]) ++ List.replicate (1 - (lg_sl ([.ref a0])).length) Slot.unset).toArray = ls at hl ⊢
  have hl : lv_has ls 1 [(0, .ref a0)] := hl
  unfold sX6_begins at hsem
  refine lv_aload_n hx hb dX6_begins_0 rfl (lv_at hl 0 rfl) ?_
  refine va_get (D := g.1) (ci := 6) (v := .ref (hd 0 0)) (C := RX6) (T := TX6) (N := 8) hx hb (dr_words hts d) (fun w h => List.mem_cons_of_mem _ (List.mem_append_left _ (List.mem_append_left _ (List.mem_append_left _ (List.mem_append_right _ h))))) (hown d) (hK d) hP 0 rfl rfl 0 (by decide) ((dr_words hts d) (.fieldLink RX6 10 "PauseRegions" "heap" "LPauseRegions$Heap;") (List.mem_of_getElem? (i := 1) rfl)) (fun _ h9 => h9) rfl dX6_begins_1 ?_
  refine va_get (D := g.1) (ci := 1) (v := .int (((HA 0) 12 0))) (C := RX1) (T := TX1) (N := 18) hx hb (dr_words hts d) (fun w h => List.mem_cons_of_mem _ (List.mem_append_left _ (List.mem_append_left _ (List.mem_append_right _ h)))) (hown d) (hK d) hP 14 rfl rfl 12 (by decide) ((dr_words hts d) (.fieldLink RX6 109 "PauseRegions$Heap" "marking" "Z") (List.mem_of_getElem? (i := 2) rfl)) (fun _ h9 => h9) rfl dX6_begins_4 ?_
  refine lv_if_eq (tgt := 13) hx hb dX6_begins_7 (by decide) (fun c1 => ?_) (fun c1 => ?_)
  · rw [if_pos c1] at hsem
    refine lv_aload_n hx hb dX6_begins_13 rfl (lv_at hl 0 rfl) ?_
    refine va_get (D := g.1) (ci := 6) (v := .ref a0i) (C := RX6) (T := TX6) (N := 8) hx hb (dr_words hts d) (fun w h => List.mem_cons_of_mem _ (List.mem_append_left _ (List.mem_append_left _ (List.mem_append_left _ (List.mem_append_right _ h))))) (hown d) (hK d) hP 0 rfl rfl 2 (by decide) ((dr_words hts d) (.fieldLink RX6 22 "PauseRegions" "history" "LPauseRegions$History;") (List.mem_of_getElem? (i := 3) rfl)) (fun _ h9 => h9) rfl dX6_begins_14 ?_
    refine lv_aload_n hx hb dX6_begins_17 rfl (lv_at hl 0 rfl) ?_
    refine va_get (D := g.1) (ci := 6) (v := .ref (hd 0 0)) (C := RX6) (T := TX6) (N := 8) hx hb (dr_words hts d) (fun w h => List.mem_cons_of_mem _ (List.mem_append_left _ (List.mem_append_left _ (List.mem_append_left _ (List.mem_append_right _ h))))) (hown d) (hK d) hP 0 rfl rfl 0 (by decide) ((dr_words hts d) (.fieldLink RX6 10 "PauseRegions" "heap" "LPauseRegions$Heap;") (List.mem_of_getElem? (i := 1) rfl)) (fun _ h9 => h9) rfl dX6_begins_18 ?_
    obtain ⟨z1, hc1, hsem⟩ := bn_some hsem
    refine tdV (C := RX2) (As := [.ref (hd 0 0)]) (rest := []) hP hD hS hZ (pF1 (wTp g a0 a1 a2 a0t (adp 0) (adr 0) a0i (hd 0 0) (hd 1 0) im kf ++ (wC g a0t rgt yct fct ++ (wPa g adp Ap Fp ++ (wRe g adr Ar ++ ([]))))) (wHi g a0i a1i pf nxi kni ++ (wH g (hd 0) (HA 0) (HF 0) ++ (wH g (hd 1) (HA 1) (HF 1) ++ (wH g (hd 2) (HA 2) (HF 2) ++ (wH g (hd 3) (HA 3) (HF 3) ++ (wH g (hd 4) (HA 4) (HF 4) ++ (wH g (hd 5) (HA 5) (HF 5) ++ (wH g (hd 6) (HA 6) (HF 6) ++ (wH g (hd 7) (HA 7) (HF 7) ++ (wH g (hd 8) (HA 8) (HF 8) ++ (wH g (hd 9) (HA 9) (HF 9) ++ ([])))))))))))) ([])) hdr ⟨hx, hb, hml, (hown d), (dr_words hts d)⟩ (hKK.drawn d) (cwV 1 (dr_words hts d) gX6_begins_X2_push rfl rfl rfl hdX2_push ⟨Nat.le_of_ble_eq_true rfl, Nat.le_of_ble_eq_true rfl⟩) (kX2_push (l := l) (g := g) (a0i := a0i) (a1i := a1i) (hd := hd) (pf := pf) (nxi := nxi) (kni := kni) (HA := HA) (HF := HF) (HFc := HFc) hpf hALH hc1) (va_recv (hK d) hP (ci := 2) (q0 := 12) rfl rfl) rfl hl.1 rfl (Nat.le_of_ble_eq_true rfl) dX6_begins_21 ⟨Nat.zero_le _, Nat.zero_le _⟩ (fun u1 H locs d hpo hP hD hS hdr => ?_)
    have hq1 := hpo
    have hP : va_P g.1 vwCl (wTp g a0 a1 a2 a0t (adp 0) (adr 0) a0i (hd 0 0) (hd 1 0) im kf ++ (wC g a0t rgt yct fct ++ (wPa g adp Ap Fp ++ (wRe g adr Ar ++ (wHi g a0i a1i pf z1.1 z1.2.1 ++ (wH g (hd 0) (z1.2.2.1 0) (u1 0) ++ (wH g (hd 1) (z1.2.2.1 1) (u1 1) ++ (wH g (hd 2) (z1.2.2.1 2) (u1 2) ++ (wH g (hd 3) (z1.2.2.1 3) (u1 3) ++ (wH g (hd 4) (z1.2.2.1 4) (u1 4) ++ (wH g (hd 5) (z1.2.2.1 5) (u1 5) ++ (wH g (hd 6) (z1.2.2.1 6) (u1 6) ++ (wH g (hd 7) (z1.2.2.1 7) (u1 7) ++ (wH g (hd 8) (z1.2.2.1 8) (u1 8) ++ (wH g (hd 9) (z1.2.2.1 9) (u1 9) ++ ([])))))))))))))))) H := vaP_perm (pF1 (wTp g a0 a1 a2 a0t (adp 0) (adr 0) a0i (hd 0 0) (hd 1 0) im kf ++ (wC g a0t rgt yct fct ++ (wPa g adp Ap Fp ++ (wRe g adr Ar ++ ([]))))) (wHi g a0i a1i pf z1.1 z1.2.1 ++ (wH g (hd 0) (z1.2.2.1 0) (u1 0) ++ (wH g (hd 1) (z1.2.2.1 1) (u1 1) ++ (wH g (hd 2) (z1.2.2.1 2) (u1 2) ++ (wH g (hd 3) (z1.2.2.1 3) (u1 3) ++ (wH g (hd 4) (z1.2.2.1 4) (u1 4) ++ (wH g (hd 5) (z1.2.2.1 5) (u1 5) ++ (wH g (hd 6) (z1.2.2.1 6) (u1 6) ++ (wH g (hd 7) (z1.2.2.1 7) (u1 7) ++ (wH g (hd 8) (z1.2.2.1 8) (u1 8) ++ (wH g (hd 9) (z1.2.2.1 9) (u1 9) ++ ([])))))))))))) ([])).symm (by exact hP)
    have hD : va_D Z (wTp g a0 a1 a2 a0t (adp 0) (adr 0) a0i (hd 0 0) (hd 1 0) im kf ++ (wC g a0t rgt yct fct ++ (wPa g adp Ap Fp ++ (wRe g adr Ar ++ (wHi g a0i a1i pf z1.1 z1.2.1 ++ (wH g (hd 0) (z1.2.2.1 0) (u1 0) ++ (wH g (hd 1) (z1.2.2.1 1) (u1 1) ++ (wH g (hd 2) (z1.2.2.1 2) (u1 2) ++ (wH g (hd 3) (z1.2.2.1 3) (u1 3) ++ (wH g (hd 4) (z1.2.2.1 4) (u1 4) ++ (wH g (hd 5) (z1.2.2.1 5) (u1 5) ++ (wH g (hd 6) (z1.2.2.1 6) (u1 6) ++ (wH g (hd 7) (z1.2.2.1 7) (u1 7) ++ (wH g (hd 8) (z1.2.2.1 8) (u1 8) ++ (wH g (hd 9) (z1.2.2.1 9) (u1 9) ++ ([])))))))))))))))) := vaD_perm (pF1 (wTp g a0 a1 a2 a0t (adp 0) (adr 0) a0i (hd 0 0) (hd 1 0) im kf ++ (wC g a0t rgt yct fct ++ (wPa g adp Ap Fp ++ (wRe g adr Ar ++ ([]))))) (wHi g a0i a1i pf z1.1 z1.2.1 ++ (wH g (hd 0) (z1.2.2.1 0) (u1 0) ++ (wH g (hd 1) (z1.2.2.1 1) (u1 1) ++ (wH g (hd 2) (z1.2.2.1 2) (u1 2) ++ (wH g (hd 3) (z1.2.2.1 3) (u1 3) ++ (wH g (hd 4) (z1.2.2.1 4) (u1 4) ++ (wH g (hd 5) (z1.2.2.1 5) (u1 5) ++ (wH g (hd 6) (z1.2.2.1 6) (u1 6) ++ (wH g (hd 7) (z1.2.2.1 7) (u1 7) ++ (wH g (hd 8) (z1.2.2.1 8) (u1 8) ++ (wH g (hd 9) (z1.2.2.1 9) (u1 9) ++ ([])))))))))))) ([])).symm (by exact hD)
    refine lv_aload_n hx hb dX6_begins_24 rfl (lv_at hl 0 rfl) ?_
    refine va_get (D := g.1) (ci := 6) (v := .ref (hd 0 0)) (C := RX6) (T := TX6) (N := 8) hx hb (dr_words hts d) (fun w h => List.mem_cons_of_mem _ (List.mem_append_left _ (List.mem_append_left _ (List.mem_append_left _ (List.mem_append_right _ h))))) (hown d) (hK d) hP 0 rfl rfl 0 (by decide) ((dr_words hts d) (.fieldLink RX6 10 "PauseRegions" "heap" "LPauseRegions$Heap;") (List.mem_of_getElem? (i := 1) rfl)) (fun _ h9 => h9) rfl dX6_begins_25 ?_
    obtain ⟨z2, hc2, hsem⟩ := bn_some hsem
    refine tcV (C := RX1) (As := []) (rest := []) hP hD hS hZ (pF1 (wTp g a0 a1 a2 a0t (adp 0) (adr 0) a0i (hd 0 0) (hd 1 0) im kf ++ (wC g a0t rgt yct fct ++ (wPa g adp Ap Fp ++ (wRe g adr Ar ++ (wHi g a0i a1i pf z1.1 z1.2.1 ++ ([])))))) (wH g (hd 0) (z1.2.2.1 0) (u1 0)) (wH g (hd 1) (z1.2.2.1 1) (u1 1) ++ (wH g (hd 2) (z1.2.2.1 2) (u1 2) ++ (wH g (hd 3) (z1.2.2.1 3) (u1 3) ++ (wH g (hd 4) (z1.2.2.1 4) (u1 4) ++ (wH g (hd 5) (z1.2.2.1 5) (u1 5) ++ (wH g (hd 6) (z1.2.2.1 6) (u1 6) ++ (wH g (hd 7) (z1.2.2.1 7) (u1 7) ++ (wH g (hd 8) (z1.2.2.1 8) (u1 8) ++ (wH g (hd 9) (z1.2.2.1 9) (u1 9) ++ ([]))))))))))) ⟨hx, hb, hml, (hown d), (dr_words hts d)⟩ (hKK.drawn d) (cwV 0 (dr_words hts d) gX6_begins_X1_beginMarking rfl rfl rfl hdX1_beginMarking ⟨Nat.le_of_ble_eq_true rfl, Nat.le_of_ble_eq_true rfl⟩) (kX1_beginMarking (l := l) (g := g) (ad := hd 0) (A := (z1.2.2.1 0)) (F := (u1 0))  hc2) (va_recv (hK d) hP (ci := 1) (q0 := 14) rfl rfl) rfl hl.1 rfl (Nat.le_of_ble_eq_true rfl) dX6_begins_28 ⟨Nat.zero_le _, Nat.zero_le _⟩ (fun H locs hP hD hS => ?_)
    obtain ⟨HA1, eHA1, hsem⟩ := bd_some hsem
    have hP : va_P g.1 vwCl (wTp g a0 a1 a2 a0t (adp 0) (adr 0) a0i (hd 0 0) (hd 1 0) im kf ++ (wC g a0t rgt yct fct ++ (wPa g adp Ap Fp ++ (wRe g adr Ar ++ (wHi g a0i a1i pf z1.1 z1.2.1 ++ (wH g (hd 0) (HA1 0) (u1 0) ++ (wH g (hd 1) (HA1 1) (u1 1) ++ (wH g (hd 2) (HA1 2) (u1 2) ++ (wH g (hd 3) (HA1 3) (u1 3) ++ (wH g (hd 4) (HA1 4) (u1 4) ++ (wH g (hd 5) (HA1 5) (u1 5) ++ (wH g (hd 6) (HA1 6) (u1 6) ++ (wH g (hd 7) (HA1 7) (u1 7) ++ (wH g (hd 8) (HA1 8) (u1 8) ++ (wH g (hd 9) (HA1 9) (u1 9) ++ ([])))))))))))))))) H := vaP_perm (pF1 (wTp g a0 a1 a2 a0t (adp 0) (adr 0) a0i (hd 0 0) (hd 1 0) im kf ++ (wC g a0t rgt yct fct ++ (wPa g adp Ap Fp ++ (wRe g adr Ar ++ (wHi g a0i a1i pf z1.1 z1.2.1 ++ ([])))))) (wH g (hd 0) (HA1 0) (u1 0)) (wH g (hd 1) (HA1 1) (u1 1) ++ (wH g (hd 2) (HA1 2) (u1 2) ++ (wH g (hd 3) (HA1 3) (u1 3) ++ (wH g (hd 4) (HA1 4) (u1 4) ++ (wH g (hd 5) (HA1 5) (u1 5) ++ (wH g (hd 6) (HA1 6) (u1 6) ++ (wH g (hd 7) (HA1 7) (u1 7) ++ (wH g (hd 8) (HA1 8) (u1 8) ++ (wH g (hd 9) (HA1 9) (u1 9) ++ ([]))))))))))).symm (by rw [eHA1]; exact hP)
    have hD : va_D Z (wTp g a0 a1 a2 a0t (adp 0) (adr 0) a0i (hd 0 0) (hd 1 0) im kf ++ (wC g a0t rgt yct fct ++ (wPa g adp Ap Fp ++ (wRe g adr Ar ++ (wHi g a0i a1i pf z1.1 z1.2.1 ++ (wH g (hd 0) (HA1 0) (u1 0) ++ (wH g (hd 1) (HA1 1) (u1 1) ++ (wH g (hd 2) (HA1 2) (u1 2) ++ (wH g (hd 3) (HA1 3) (u1 3) ++ (wH g (hd 4) (HA1 4) (u1 4) ++ (wH g (hd 5) (HA1 5) (u1 5) ++ (wH g (hd 6) (HA1 6) (u1 6) ++ (wH g (hd 7) (HA1 7) (u1 7) ++ (wH g (hd 8) (HA1 8) (u1 8) ++ (wH g (hd 9) (HA1 9) (u1 9) ++ ([])))))))))))))))) := vaD_perm (pF1 (wTp g a0 a1 a2 a0t (adp 0) (adr 0) a0i (hd 0 0) (hd 1 0) im kf ++ (wC g a0t rgt yct fct ++ (wPa g adp Ap Fp ++ (wRe g adr Ar ++ (wHi g a0i a1i pf z1.1 z1.2.1 ++ ([])))))) (wH g (hd 0) (HA1 0) (u1 0)) (wH g (hd 1) (HA1 1) (u1 1) ++ (wH g (hd 2) (HA1 2) (u1 2) ++ (wH g (hd 3) (HA1 3) (u1 3) ++ (wH g (hd 4) (HA1 4) (u1 4) ++ (wH g (hd 5) (HA1 5) (u1 5) ++ (wH g (hd 6) (HA1 6) (u1 6) ++ (wH g (hd 7) (HA1 7) (u1 7) ++ (wH g (hd 8) (HA1 8) (u1 8) ++ (wH g (hd 9) (HA1 9) (u1 9) ++ ([]))))))))))).symm (by rw [eHA1]; exact hD)
    refine lv_aload_n hx hb dX6_begins_31 rfl (lv_at hl 0 rfl) ?_
    refine va_get (D := g.1) (ci := 6) (v := .ref (hd 0 0)) (C := RX6) (T := TX6) (N := 8) hx hb (dr_words hts d) (fun w h => List.mem_cons_of_mem _ (List.mem_append_left _ (List.mem_append_left _ (List.mem_append_left _ (List.mem_append_right _ h))))) (hown d) (hK d) hP 0 rfl rfl 0 (by decide) ((dr_words hts d) (.fieldLink RX6 10 "PauseRegions" "heap" "LPauseRegions$Heap;") (List.mem_of_getElem? (i := 1) rfl)) (fun _ h9 => h9) rfl dX6_begins_32 ?_
    refine va_get (D := g.1) (ci := 1) (v := .ref (hd 0 13)) (C := RX1) (T := TX1) (N := 18) hx hb (dr_words hts d) (fun w h => List.mem_cons_of_mem _ (List.mem_append_left _ (List.mem_append_left _ (List.mem_append_right _ h)))) (hown d) (hK d) hP 14 rfl rfl 11 (by decide) ((dr_words hts d) (.fieldLink RX6 116 "PauseRegions$Heap" "greyThings" "LPauseRegions$Row;") (List.mem_of_getElem? (i := 4) rfl)) (fun _ h9 => h9) rfl dX6_begins_35 ?_
    refine va_get (D := g.1) (ci := 5) (v := .int (((HA1 0) 19 0))) (C := RX5) (T := TX5) (N := 2) hx hb (dr_words hts d) (fun w h => List.mem_cons_of_mem _ (List.mem_append_left _ (List.mem_append_right _ h))) (hown d) (hK d) hP 27 rfl rfl 1 (by decide) ((dr_words hts d) (.fieldLink RX6 100 "PauseRegions$Row" "length" "I") (List.mem_of_getElem? (i := 5) rfl)) (fun _ h9 => h9) rfl dX6_begins_38 ?_
    have eo := (Option.some.inj hsem).symm.symm
    refine W.endD hdr ?_
    subst eo
    exact W.iret (v := ((HA1 0) 19 0)) hx hb hr (fun t ht hW => ⟨⟨_, u1, rfl, ⟨rfl, hq1⟩, ⟨by rw [ht]; exact hP, hD⟩⟩, hS.F ht⟩) hS.2.2 dX6_begins_41
  · rw [if_neg c1] at hsem
    refine lv_bipush (v := (-2)) hx hb dX6_begins_10 (by decide) ?_
    have eo := (Option.some.inj hsem).symm.symm
    refine W.endD hdr ?_
    subst eo
    exact W.iret (v := (-2)) hx hb hr (fun t ht hW => ⟨⟨_, HF, rfl, ⟨rfl, hALH⟩, ⟨by rw [ht]; exact hP, hD⟩⟩, hS.F ht⟩) hS.2.2 dX6_begins_12
def sX6_chooses (rgt : Int32) (yct : Int32) (fctc : UInt32) (HA : Nat → IA) (HFc : Nat → FA) (p0 : Int32) : Option (Int32 × Int32 × Int32 × UInt32) :=
  (sX6_isGoal p0).bind fun x1 => if x1 = 0 then (some (((-1), rgt, yct, fctc))) else ((sX0_choose rgt yct fctc (HA 0) (HFc 0) p0).bind fun z1 => some (z1.1, z1.1, z1.2.1, z1.2.2))
abbrev rmX6_chooses : Room := { frames := 4, cells := 0, slots := 0, locals := 94 }
theorem hdX6_chooses : yX6_chooses.cls = RX6 ∧ yX6_chooses.cls ≠ "java/lang/invoke/MethodHandle" ∧ yX6_chooses.cls ≠ "java/lang/invoke/VarHandle" ∧ (parseMethodDescriptor yX6_chooses.desc).map (fun d => d.parameters.length) = some 1 := by decide +kernel
set_option maxHeartbeats 8000000 in
set_option maxRecDepth 100000 in
theorem kX6_chooses {l : Launch} {g : GG} {sz : Nat} {a0 a1 a2 : Nat} {im : Nat → Option Nat} {kf : Nat → Int32} {a0t : Nat} {rgt : Int32} {yct : Int32} {fct : UInt32} {adp : Nat → Nat} {Ap : IA} {Fp : FA} {adr : Nat → Nat} {Ar : IA} {a0i a1i : Nat} {pf : Nat → Option Nat} {nxi kni : Int32} {hd : Nat → Nat → Nat} {HA : Nat → IA} {HF : Nat → FA} {p0 : Int32} {fctc : UInt32} (hfct : alike32 fct fctc = true) {Fpc : FA} (hALp : AL Fp Fpc) {HFc : Nat → FA} (hALH : ALH HF HFc) {b : Int32 × Int32 × Int32 × UInt32} (hsem : sX6_chooses rgt yct fctc HA HFc p0 = some b) : MetDI l yX6_chooses wsX6_chooses rmX6_chooses g [.ref a0, .int p0] (wTp g a0 a1 a2 a0t (adp 0) (adr 0) a0i (hd 0 0) (hd 1 0) im kf ++ (wC g a0t rgt yct fct ++ (wPa g adp Ap Fp ++ (wRe g adr Ar ++ (wHi g a0i a1i pf nxi kni ++ (wH g (hd 0) (HA 0) (HF 0) ++ (wH g (hd 1) (HA 1) (HF 1) ++ (wH g (hd 2) (HA 2) (HF 2) ++ (wH g (hd 3) (HA 3) (HF 3) ++ (wH g (hd 4) (HA 4) (HF 4) ++ (wH g (hd 5) (HA 5) (HF 5) ++ (wH g (hd 6) (HA 6) (HF 6) ++ (wH g (hd 7) (HA 7) (HF 7) ++ (wH g (hd 8) (HA 8) (HF 8) ++ (wH g (hd 9) (HA 9) (HF 9) ++ ([])))))))))))))))) sz b.1 (φ := UInt32) (fun u => alike32 u b.2.2.2 = true) (fun u => wTp g a0 a1 a2 a0t (adp 0) (adr 0) a0i (hd 0 0) (hd 1 0) im kf ++ (wC g a0t b.2.1 b.2.2.1 u ++ (wPa g adp Ap Fp ++ (wRe g adr Ar ++ (wHi g a0i a1i pf nxi kni ++ (wH g (hd 0) (HA 0) (HF 0) ++ (wH g (hd 1) (HA 1) (HF 1) ++ (wH g (hd 2) (HA 2) (HF 2) ++ (wH g (hd 3) (HA 3) (HF 3) ++ (wH g (hd 4) (HA 4) (HF 4) ++ (wH g (hd 5) (HA 5) (HF 5) ++ (wH g (hd 6) (HA 6) (HF 6) ++ (wH g (hd 7) (HA 7) (HF 7) ++ (wH g (hd 8) (HA 8) (HF 8) ++ (wH g (hd 9) (HA 9) (HF 9) ++ ([])))))))))))))))) := by
  refine MetD.ofW (cc := cX6_chooses) (maxL := 2) (ret := (some .int)) (by decide) rfl ?_
  intro p e s m args below meth c s₁ B hml hv hd0
  obtain ⟨rfl, hsz, hP, hD0, hKK⟩ := hv
  subst hsz
  have hx := B.exec
  have hb := B.bytes
  have hr := B.returns
  have hts := atoms_spec (ws := wsX6_chooses) B.pre
  have hown : ∀ d, (s.setDrawn d).vm.findClass RX6 = some m.cls := fun _ => findClass_of_methodNamed B.named
  have hlocks := B.notSynchronized
  have hK : ∀ d, va_K g.1 vwCl (KT g) (s.setDrawn d) := fun d => (hKK.drawn d).1
  have hD := hD0.self (sz := s.heap.size)
  generalize hZe : va_A (wTp g a0 a1 a2 a0t (adp 0) (adr 0) a0i (hd 0 0) (hd 1 0) im kf ++ (wC g a0t rgt yct fct ++ (wPa g adp Ap Fp ++ (wRe g adr Ar ++ (wHi g a0i a1i pf nxi kni ++ (wH g (hd 0) (HA 0) (HF 0) ++ (wH g (hd 1) (HA 1) (HF 1) ++ (wH g (hd 2) (HA 2) (HF 2) ++ (wH g (hd 3) (HA 3) (HF 3) ++ (wH g (hd 4) (HA 4) (HF 4) ++ (wH g (hd 5) (HA 5) (HF 5) ++ (wH g (hd 6) (HA 6) (HF 6) ++ (wH g (hd 7) (HA 7) (HF 7) ++ (wH g (hd 8) (HA 8) (HF 8) ++ (wH g (hd 9) (HA 9) (HF 9) ++ ([])))))))))))))))) s.heap.size = Z at hD ⊢
  have hZ : ∀ q : Nat, s.heap.size ≤ q → Z q := fun q h => by rw [← hZe]; exact Or.inr h
  have hS : va_S Z s.heap s.heap [] := va_S.rf
  have hP : va_P g.1 vwCl (wTp g a0 a1 a2 a0t (adp 0) (adr 0) a0i (hd 0 0) (hd 1 0) im kf ++ (wC g a0t rgt yct fct ++ (wPa g adp Ap Fp ++ (wRe g adr Ar ++ (wHi g a0i a1i pf nxi kni ++ (wH g (hd 0) (HA 0) (HF 0) ++ (wH g (hd 1) (HA 1) (HF 1) ++ (wH g (hd 2) (HA 2) (HF 2) ++ (wH g (hd 3) (HA 3) (HF 3) ++ (wH g (hd 4) (HA 4) (HF 4) ++ (wH g (hd 5) (HA 5) (HF 5) ++ (wH g (hd 6) (HA 6) (HF 6) ++ (wH g (hd 7) (HA 7) (HF 7) ++ (wH g (hd 8) (HA 8) (HF 8) ++ (wH g (hd 9) (HA 9) (HF 9) ++ ([])))))))))))))))) s.heap := hP
  have hD : va_D Z (wTp g a0 a1 a2 a0t (adp 0) (adr 0) a0i (hd 0 0) (hd 1 0) im kf ++ (wC g a0t rgt yct fct ++ (wPa g adp Ap Fp ++ (wRe g adr Ar ++ (wHi g a0i a1i pf nxi kni ++ (wH g (hd 0) (HA 0) (HF 0) ++ (wH g (hd 1) (HA 1) (HF 1) ++ (wH g (hd 2) (HA 2) (HF 2) ++ (wH g (hd 3) (HA 3) (HF 3) ++ (wH g (hd 4) (HA 4) (HF 4) ++ (wH g (hd 5) (HA 5) (HF 5) ++ (wH g (hd 6) (HA 6) (HF 6) ++ (wH g (hd 7) (HA 7) (HF 7) ++ (wH g (hd 8) (HA 8) (HF 8) ++ (wH g (hd 9) (HA 9) (HF 9) ++ ([])))))))))))))))) := hD
  obtain ⟨d, hdr, hdd⟩ : ∃ d, s.drawn.sameBut d lw_cs ∧ s.drawn = d := ⟨_, hd0, rfl⟩
  rw [hdd]
  have hl := lv_entry ([.ref a0, .int p0]) (n := 2) (Nat.le_of_ble_eq_true rfl)
  rw [lg_entry_eq]
  generalize (lg_sl ([.ref a0, .int p0]) ++ List.replicate (2 - (lg_sl ([.ref a0, .int p0])).length) Slot.unset).toArray = ls at hl ⊢
  have hl : lv_has ls 2 [(0, .ref a0), (1, .int p0)] := hl
  unfold sX6_chooses at hsem
  refine lv_iload_n hx hb dX6_chooses_0 rfl (lv_at hl 1 rfl) ?_
  obtain ⟨x1, hc1, hsem⟩ := bn_some hsem
  refine pcS (As := [.int p0]) (rest := []) ⟨hx, hb, hml, (hown d), (dr_words hts d)⟩ (hKK.drawn d) (va_cwS 1 (dr_words hts d) gX6_chooses_X6_isGoal rfl rfl rfl hdX6_isGoal ⟨Nat.le_of_ble_eq_true rfl, Nat.le_of_ble_eq_true rfl⟩) (kX6_isGoal (l := l) (g := g) hc1) rfl hl.1 rfl (Nat.le_of_ble_eq_true rfl) dX6_chooses_1 ⟨Nat.zero_le _, Nat.zero_le _⟩ ?_
  refine lv_if_ne (tgt := 9) hx hb dX6_chooses_4 (by decide) (fun c1 => ?_) (fun c1 => ?_)
  · rw [if_neg c1] at hsem
    refine lv_aload_n hx hb dX6_chooses_9 rfl (lv_at hl 0 rfl) ?_
    refine va_get (D := g.1) (ci := 6) (v := .ref a0t) (C := RX6) (T := TX6) (N := 8) hx hb (dr_words hts d) (fun w h => List.mem_cons_of_mem _ (List.mem_append_left _ (List.mem_append_left _ (List.mem_append_right _ h)))) (hown d) (hK d) hP 0 rfl rfl 5 (by decide) ((dr_words hts d) (.fieldLink RX6 37 "PauseRegions" "choice" "LPauseRegions$Choice;") (List.mem_of_getElem? (i := 1) rfl)) (fun _ h9 => h9) rfl dX6_chooses_10 ?_
    refine lv_aload_n hx hb dX6_chooses_13 rfl (lv_at hl 0 rfl) ?_
    refine va_get (D := g.1) (ci := 6) (v := .ref (hd 0 0)) (C := RX6) (T := TX6) (N := 8) hx hb (dr_words hts d) (fun w h => List.mem_cons_of_mem _ (List.mem_append_left _ (List.mem_append_left _ (List.mem_append_right _ h)))) (hown d) (hK d) hP 0 rfl rfl 0 (by decide) ((dr_words hts d) (.fieldLink RX6 10 "PauseRegions" "heap" "LPauseRegions$Heap;") (List.mem_of_getElem? (i := 2) rfl)) (fun _ h9 => h9) rfl dX6_chooses_14 ?_
    refine lv_iload_n hx hb dX6_chooses_17 rfl (lv_at hl 1 rfl) ?_
    obtain ⟨z1, hc2, hsem⟩ := bn_some hsem
    refine tdV (C := RX0) (As := [.ref (hd 0 0), .int p0]) (rest := []) hP hD hS hZ (pF2 (wTp g a0 a1 a2 a0t (adp 0) (adr 0) a0i (hd 0 0) (hd 1 0) im kf ++ ([])) (wC g a0t rgt yct fct) (wPa g adp Ap Fp ++ (wRe g adr Ar ++ (wHi g a0i a1i pf nxi kni ++ ([])))) (wH g (hd 0) (HA 0) (HF 0)) (wH g (hd 1) (HA 1) (HF 1) ++ (wH g (hd 2) (HA 2) (HF 2) ++ (wH g (hd 3) (HA 3) (HF 3) ++ (wH g (hd 4) (HA 4) (HF 4) ++ (wH g (hd 5) (HA 5) (HF 5) ++ (wH g (hd 6) (HA 6) (HF 6) ++ (wH g (hd 7) (HA 7) (HF 7) ++ (wH g (hd 8) (HA 8) (HF 8) ++ (wH g (hd 9) (HA 9) (HF 9) ++ ([]))))))))))) hdr ⟨hx, hb, hml, (hown d), (dr_words hts d)⟩ (hKK.drawn d) (cwV 2 (dr_words hts d) gX6_chooses_X0_choose rfl rfl rfl hdX0_choose ⟨Nat.le_of_ble_eq_true rfl, Nat.le_of_ble_eq_true rfl⟩) (kX0_choose (l := l) (g := g) (a0 := a0t) (rg := rgt) (yc := yct) (fc := fct) (fcc := fctc) (adh := hd 0) (Ah := (HA 0)) (Fh := (HF 0)) (Fhc := (HFc 0)) hfct (hALH 0) hc2) (va_recv (hK d) hP (ci := 0) (q0 := 3) rfl rfl) rfl hl.1 rfl (Nat.le_of_ble_eq_true rfl) dX6_chooses_18 ⟨Nat.zero_le _, Nat.zero_le _⟩ (fun u1 H locs d hpo hP hD hS hdr => ?_)
    have hq1 := hpo
    have hP : va_P g.1 vwCl (wTp g a0 a1 a2 a0t (adp 0) (adr 0) a0i (hd 0 0) (hd 1 0) im kf ++ (wC g a0t z1.1 z1.2.1 u1 ++ (wPa g adp Ap Fp ++ (wRe g adr Ar ++ (wHi g a0i a1i pf nxi kni ++ (wH g (hd 0) (HA 0) (HF 0) ++ (wH g (hd 1) (HA 1) (HF 1) ++ (wH g (hd 2) (HA 2) (HF 2) ++ (wH g (hd 3) (HA 3) (HF 3) ++ (wH g (hd 4) (HA 4) (HF 4) ++ (wH g (hd 5) (HA 5) (HF 5) ++ (wH g (hd 6) (HA 6) (HF 6) ++ (wH g (hd 7) (HA 7) (HF 7) ++ (wH g (hd 8) (HA 8) (HF 8) ++ (wH g (hd 9) (HA 9) (HF 9) ++ ([])))))))))))))))) H := vaP_perm (pF2 (wTp g a0 a1 a2 a0t (adp 0) (adr 0) a0i (hd 0 0) (hd 1 0) im kf ++ ([])) (wC g a0t z1.1 z1.2.1 u1) (wPa g adp Ap Fp ++ (wRe g adr Ar ++ (wHi g a0i a1i pf nxi kni ++ ([])))) (wH g (hd 0) (HA 0) (HF 0)) (wH g (hd 1) (HA 1) (HF 1) ++ (wH g (hd 2) (HA 2) (HF 2) ++ (wH g (hd 3) (HA 3) (HF 3) ++ (wH g (hd 4) (HA 4) (HF 4) ++ (wH g (hd 5) (HA 5) (HF 5) ++ (wH g (hd 6) (HA 6) (HF 6) ++ (wH g (hd 7) (HA 7) (HF 7) ++ (wH g (hd 8) (HA 8) (HF 8) ++ (wH g (hd 9) (HA 9) (HF 9) ++ ([]))))))))))).symm (by exact hP)
    have hD : va_D Z (wTp g a0 a1 a2 a0t (adp 0) (adr 0) a0i (hd 0 0) (hd 1 0) im kf ++ (wC g a0t z1.1 z1.2.1 u1 ++ (wPa g adp Ap Fp ++ (wRe g adr Ar ++ (wHi g a0i a1i pf nxi kni ++ (wH g (hd 0) (HA 0) (HF 0) ++ (wH g (hd 1) (HA 1) (HF 1) ++ (wH g (hd 2) (HA 2) (HF 2) ++ (wH g (hd 3) (HA 3) (HF 3) ++ (wH g (hd 4) (HA 4) (HF 4) ++ (wH g (hd 5) (HA 5) (HF 5) ++ (wH g (hd 6) (HA 6) (HF 6) ++ (wH g (hd 7) (HA 7) (HF 7) ++ (wH g (hd 8) (HA 8) (HF 8) ++ (wH g (hd 9) (HA 9) (HF 9) ++ ([])))))))))))))))) := vaD_perm (pF2 (wTp g a0 a1 a2 a0t (adp 0) (adr 0) a0i (hd 0 0) (hd 1 0) im kf ++ ([])) (wC g a0t z1.1 z1.2.1 u1) (wPa g adp Ap Fp ++ (wRe g adr Ar ++ (wHi g a0i a1i pf nxi kni ++ ([])))) (wH g (hd 0) (HA 0) (HF 0)) (wH g (hd 1) (HA 1) (HF 1) ++ (wH g (hd 2) (HA 2) (HF 2) ++ (wH g (hd 3) (HA 3) (HF 3) ++ (wH g (hd 4) (HA 4) (HF 4) ++ (wH g (hd 5) (HA 5) (HF 5) ++ (wH g (hd 6) (HA 6) (HF 6) ++ (wH g (hd 7) (HA 7) (HF 7) ++ (wH g (hd 8) (HA 8) (HF 8) ++ (wH g (hd 9) (HA 9) (HF 9) ++ ([]))))))))))).symm (by exact hD)
    refine lv_aload_n hx hb dX6_chooses_21 rfl (lv_at hl 0 rfl) ?_
    refine va_get (D := g.1) (ci := 6) (v := .ref a0t) (C := RX6) (T := TX6) (N := 8) hx hb (dr_words hts d) (fun w h => List.mem_cons_of_mem _ (List.mem_append_left _ (List.mem_append_left _ (List.mem_append_right _ h)))) (hown d) (hK d) hP 0 rfl rfl 5 (by decide) ((dr_words hts d) (.fieldLink RX6 37 "PauseRegions" "choice" "LPauseRegions$Choice;") (List.mem_of_getElem? (i := 1) rfl)) (fun _ h9 => h9) rfl dX6_chooses_22 ?_
    refine va_get (D := g.1) (ci := 0) (v := .int z1.1) (C := RX0) (T := TX0) (N := 3) hx hb (dr_words hts d) (fun w h => List.mem_cons_of_mem _ (List.mem_append_left _ (List.mem_append_right _ h))) (hown d) (hK d) hP 3 rfl rfl 0 (by decide) ((dr_words hts d) (.fieldLink RX6 192 "PauseRegions$Choice" "regions" "I") (List.mem_of_getElem? (i := 3) rfl)) (fun _ h9 => h9) rfl dX6_chooses_25 ?_
    have eo := (Option.some.inj hsem).symm.symm
    refine W.endD hdr ?_
    subst eo
    exact W.iret (v := z1.1) hx hb hr (fun t ht hW => ⟨⟨_, u1, rfl, ⟨rfl, hq1⟩, ⟨by rw [ht]; exact hP, hD⟩⟩, hS.F ht⟩) hS.2.2 dX6_chooses_28
  · rw [if_pos c1] at hsem
    refine lv_iconst (v := (-1)) hx hb dX6_chooses_7 (by decide) ?_
    have eo := (Option.some.inj hsem).symm.symm
    refine W.endD hdr ?_
    subst eo
    exact W.iret (v := (-1)) hx hb hr (fun t ht hW => ⟨⟨_, fct, rfl, ⟨rfl, hfct⟩, ⟨by rw [ht]; exact hP, hD⟩⟩, hS.F ht⟩) hS.2.2 dX6_chooses_8
def sX6_count (kni : Int32) (HA : Nat → IA) (p0 : Int32) : Option (Int32) :=
  if p0 = 0 then ((sX1_thingCount (HA 0)).bind fun x1 => some x1) else (if p0 = 1 then ((sX1_regionsOfKind (HA 0) 0).bind fun x2 => some x2) else (if p0 = 2 then ((sX1_regionsOfKind (HA 0) 1).bind fun x3 => some x3) else (if p0 = 3 then (some (((HA 0) 18 0))) else (if p0 = 4 then (some (((HA 0) 19 0))) else (if p0 = 5 then (if (((HA 0) 12 0)) = 0 then (some 0) else (some 1)) else (if p0 = 6 then (some (((HA 0) 16 0))) else (if p0 = 7 then (some (((HA 0) 17 0))) else (if p0 = 8 then (some kni) else (some (-1))))))))))
abbrev rmX6_count : Room := { frames := 2, cells := 0, slots := 0, locals := 43 }
theorem hdX6_count : yX6_count.cls = RX6 ∧ yX6_count.cls ≠ "java/lang/invoke/MethodHandle" ∧ yX6_count.cls ≠ "java/lang/invoke/VarHandle" ∧ (parseMethodDescriptor yX6_count.desc).map (fun d => d.parameters.length) = some 1 := by decide +kernel
set_option maxHeartbeats 8000000 in
set_option maxRecDepth 100000 in
theorem kX6_count {l : Launch} {g : GG} {sz : Nat} {a0 a1 a2 : Nat} {im : Nat → Option Nat} {kf : Nat → Int32} {a0t : Nat} {rgt : Int32} {yct : Int32} {fct : UInt32} {adp : Nat → Nat} {Ap : IA} {Fp : FA} {adr : Nat → Nat} {Ar : IA} {a0i a1i : Nat} {pf : Nat → Option Nat} {nxi kni : Int32} {hd : Nat → Nat → Nat} {HA : Nat → IA} {HF : Nat → FA} {p0 : Int32} {b : Int32} (hsem : sX6_count kni HA p0 = some b) : MetI l yX6_count wsX6_count rmX6_count g [.ref a0, .int p0] (wTp g a0 a1 a2 a0t (adp 0) (adr 0) a0i (hd 0 0) (hd 1 0) im kf ++ (wC g a0t rgt yct fct ++ (wPa g adp Ap Fp ++ (wRe g adr Ar ++ (wHi g a0i a1i pf nxi kni ++ (wH g (hd 0) (HA 0) (HF 0) ++ (wH g (hd 1) (HA 1) (HF 1) ++ (wH g (hd 2) (HA 2) (HF 2) ++ (wH g (hd 3) (HA 3) (HF 3) ++ (wH g (hd 4) (HA 4) (HF 4) ++ (wH g (hd 5) (HA 5) (HF 5) ++ (wH g (hd 6) (HA 6) (HF 6) ++ (wH g (hd 7) (HA 7) (HF 7) ++ (wH g (hd 8) (HA 8) (HF 8) ++ (wH g (hd 9) (HA 9) (HF 9) ++ ([])))))))))))))))) sz b (wTp g a0 a1 a2 a0t (adp 0) (adr 0) a0i (hd 0 0) (hd 1 0) im kf ++ (wC g a0t rgt yct fct ++ (wPa g adp Ap Fp ++ (wRe g adr Ar ++ (wHi g a0i a1i pf nxi kni ++ (wH g (hd 0) (HA 0) (HF 0) ++ (wH g (hd 1) (HA 1) (HF 1) ++ (wH g (hd 2) (HA 2) (HF 2) ++ (wH g (hd 3) (HA 3) (HF 3) ++ (wH g (hd 4) (HA 4) (HF 4) ++ (wH g (hd 5) (HA 5) (HF 5) ++ (wH g (hd 6) (HA 6) (HF 6) ++ (wH g (hd 7) (HA 7) (HF 7) ++ (wH g (hd 8) (HA 8) (HF 8) ++ (wH g (hd 9) (HA 9) (HF 9) ++ ([])))))))))))))))) := by
  refine Met.ofW (cc := cX6_count) (maxL := 2) (ret := (some .int)) (by decide) rfl ?_
  intro p e s m args below meth c s₁ B hml hv
  obtain ⟨rfl, hsz, hP, hD0, hKK⟩ := hv
  subst hsz
  have hx := B.exec
  have hb := B.bytes
  have hr := B.returns
  have hts := atoms_spec (ws := wsX6_count) B.pre
  have hown : s.vm.findClass RX6 = some m.cls := findClass_of_methodNamed B.named
  have hlocks := B.notSynchronized
  have hK := hKK.1
  have hD := hD0.self (sz := s.heap.size)
  generalize hZe : va_A (wTp g a0 a1 a2 a0t (adp 0) (adr 0) a0i (hd 0 0) (hd 1 0) im kf ++ (wC g a0t rgt yct fct ++ (wPa g adp Ap Fp ++ (wRe g adr Ar ++ (wHi g a0i a1i pf nxi kni ++ (wH g (hd 0) (HA 0) (HF 0) ++ (wH g (hd 1) (HA 1) (HF 1) ++ (wH g (hd 2) (HA 2) (HF 2) ++ (wH g (hd 3) (HA 3) (HF 3) ++ (wH g (hd 4) (HA 4) (HF 4) ++ (wH g (hd 5) (HA 5) (HF 5) ++ (wH g (hd 6) (HA 6) (HF 6) ++ (wH g (hd 7) (HA 7) (HF 7) ++ (wH g (hd 8) (HA 8) (HF 8) ++ (wH g (hd 9) (HA 9) (HF 9) ++ ([])))))))))))))))) s.heap.size = Z at hD ⊢
  have hZ : ∀ q : Nat, s.heap.size ≤ q → Z q := fun q h => by rw [← hZe]; exact Or.inr h
  have hS : va_S Z s.heap s.heap [] := va_S.rf
  have hP : va_P g.1 vwCl (wTp g a0 a1 a2 a0t (adp 0) (adr 0) a0i (hd 0 0) (hd 1 0) im kf ++ (wC g a0t rgt yct fct ++ (wPa g adp Ap Fp ++ (wRe g adr Ar ++ (wHi g a0i a1i pf nxi kni ++ (wH g (hd 0) (HA 0) (HF 0) ++ (wH g (hd 1) (HA 1) (HF 1) ++ (wH g (hd 2) (HA 2) (HF 2) ++ (wH g (hd 3) (HA 3) (HF 3) ++ (wH g (hd 4) (HA 4) (HF 4) ++ (wH g (hd 5) (HA 5) (HF 5) ++ (wH g (hd 6) (HA 6) (HF 6) ++ (wH g (hd 7) (HA 7) (HF 7) ++ (wH g (hd 8) (HA 8) (HF 8) ++ (wH g (hd 9) (HA 9) (HF 9) ++ ([])))))))))))))))) s.heap := hP
  have hD : va_D Z (wTp g a0 a1 a2 a0t (adp 0) (adr 0) a0i (hd 0 0) (hd 1 0) im kf ++ (wC g a0t rgt yct fct ++ (wPa g adp Ap Fp ++ (wRe g adr Ar ++ (wHi g a0i a1i pf nxi kni ++ (wH g (hd 0) (HA 0) (HF 0) ++ (wH g (hd 1) (HA 1) (HF 1) ++ (wH g (hd 2) (HA 2) (HF 2) ++ (wH g (hd 3) (HA 3) (HF 3) ++ (wH g (hd 4) (HA 4) (HF 4) ++ (wH g (hd 5) (HA 5) (HF 5) ++ (wH g (hd 6) (HA 6) (HF 6) ++ (wH g (hd 7) (HA 7) (HF 7) ++ (wH g (hd 8) (HA 8) (HF 8) ++ (wH g (hd 9) (HA 9) (HF 9) ++ ([])))))))))))))))) := hD
  have hl := lv_entry ([.ref a0, .int p0]) (n := 2) (Nat.le_of_ble_eq_true rfl)
  rw [lg_entry_eq]
  generalize (lg_sl ([.ref a0, .int p0]) ++ List.replicate (2 - (lg_sl ([.ref a0, .int p0])).length) Slot.unset).toArray = ls at hl ⊢
  have hl : lv_has ls 2 [(0, .ref a0), (1, .int p0)] := hl
  unfold sX6_count at hsem
  refine lv_iload_n hx hb dX6_count_0 rfl (lv_at hl 1 rfl) ?_
  by_cases c1 : p0 = 0
  · rw [if_pos c1] at hsem
    refine lv_tableIn (off := 51) (tgt := 52) hx hb dX6_count_1 (by rw [c1]; decide) (by rw [c1]; decide) (by rw [c1]; rfl) (by decide) ?_
    refine lv_aload_n hx hb dX6_count_52 rfl (lv_at hl 0 rfl) ?_
    refine va_get (D := g.1) (ci := 6) (v := .ref (hd 0 0)) (C := RX6) (T := TX6) (N := 8) hx hb hts (fun w h => List.mem_cons_of_mem _ (List.mem_append_left _ (List.mem_append_left _ (List.mem_append_left _ (List.mem_append_right _ h))))) hown hK hP 0 rfl rfl 0 (by decide) (hts (.fieldLink RX6 10 "PauseRegions" "heap" "LPauseRegions$Heap;") (List.mem_of_getElem? (i := 1) rfl)) (fun _ h9 => h9) rfl dX6_count_53 ?_
    obtain ⟨x1, hc1, hsem⟩ := bn_some hsem
    refine pcV (C := RX1) (As := []) (rest := []) ⟨hx, hb, hml, hown, hts⟩ hKK (cwV 0 hts gX6_count_X1_thingCount rfl rfl rfl hdX1_thingCount ⟨Nat.le_of_ble_eq_true rfl, Nat.le_of_ble_eq_true rfl⟩) (kX1_thingCount (l := l) (g := g) (hP.sub (ws' := wH g (hd 0) (HA 0) (HF 0)) [14, 15, 16, 17, 18, 19, 20, 21, 22, 23, 24, 25, 26, 27, 28] rfl) hc1) (va_recv hK hP (ci := 1) (q0 := 14) rfl rfl) rfl hl.1 rfl (Nat.le_of_ble_eq_true rfl) dX6_count_56 ⟨Nat.zero_le _, Nat.zero_le _⟩ ?_
    have eo := (Option.some.inj hsem).symm.symm
    subst eo
    exact W.iret (v := x1) hx hb hr (fun t ht hW => ⟨⟨_, (), rfl, rfl, ⟨by rw [ht]; exact hP, hD⟩⟩, hS.F ht⟩) hS.2.2 dX6_count_59
  rw [if_neg c1] at hsem
  by_cases c2 : p0 = 1
  · rw [if_pos c2] at hsem
    refine lv_tableIn (off := 59) (tgt := 60) hx hb dX6_count_1 (by rw [c2]; decide) (by rw [c2]; decide) (by rw [c2]; rfl) (by decide) ?_
    refine lv_aload_n hx hb dX6_count_60 rfl (lv_at hl 0 rfl) ?_
    refine va_get (D := g.1) (ci := 6) (v := .ref (hd 0 0)) (C := RX6) (T := TX6) (N := 8) hx hb hts (fun w h => List.mem_cons_of_mem _ (List.mem_append_left _ (List.mem_append_left _ (List.mem_append_left _ (List.mem_append_right _ h))))) hown hK hP 0 rfl rfl 0 (by decide) (hts (.fieldLink RX6 10 "PauseRegions" "heap" "LPauseRegions$Heap;") (List.mem_of_getElem? (i := 1) rfl)) (fun _ h9 => h9) rfl dX6_count_61 ?_
    refine lv_iconst (v := 0) hx hb dX6_count_64 (by decide) ?_
    obtain ⟨x2, hc2, hsem⟩ := bn_some hsem
    refine pcV (C := RX1) (As := [.int 0]) (rest := []) ⟨hx, hb, hml, hown, hts⟩ hKK (cwV 1 hts gX6_count_X1_regionsOfKind rfl rfl rfl hdX1_regionsOfKind ⟨Nat.le_of_ble_eq_true rfl, Nat.le_of_ble_eq_true rfl⟩) (kX1_regionsOfKind (l := l) (g := g) (hP.sub (ws' := wH g (hd 0) (HA 0) (HF 0)) [14, 15, 16, 17, 18, 19, 20, 21, 22, 23, 24, 25, 26, 27, 28] rfl) hc2) (va_recv hK hP (ci := 1) (q0 := 14) rfl rfl) rfl hl.1 rfl (Nat.le_of_ble_eq_true rfl) dX6_count_65 ⟨Nat.zero_le _, Nat.zero_le _⟩ ?_
    have eo := (Option.some.inj hsem).symm.symm
    subst eo
    exact W.iret (v := x2) hx hb hr (fun t ht hW => ⟨⟨_, (), rfl, rfl, ⟨by rw [ht]; exact hP, hD⟩⟩, hS.F ht⟩) hS.2.2 dX6_count_68
  rw [if_neg c2] at hsem
  by_cases c3 : p0 = 2
  · rw [if_pos c3] at hsem
    refine lv_tableIn (off := 68) (tgt := 69) hx hb dX6_count_1 (by rw [c3]; decide) (by rw [c3]; decide) (by rw [c3]; rfl) (by decide) ?_
    refine lv_aload_n hx hb dX6_count_69 rfl (lv_at hl 0 rfl) ?_
    refine va_get (D := g.1) (ci := 6) (v := .ref (hd 0 0)) (C := RX6) (T := TX6) (N := 8) hx hb hts (fun w h => List.mem_cons_of_mem _ (List.mem_append_left _ (List.mem_append_left _ (List.mem_append_left _ (List.mem_append_right _ h))))) hown hK hP 0 rfl rfl 0 (by decide) (hts (.fieldLink RX6 10 "PauseRegions" "heap" "LPauseRegions$Heap;") (List.mem_of_getElem? (i := 1) rfl)) (fun _ h9 => h9) rfl dX6_count_70 ?_
    refine lv_iconst (v := 1) hx hb dX6_count_73 (by decide) ?_
    obtain ⟨x3, hc3, hsem⟩ := bn_some hsem
    refine pcV (C := RX1) (As := [.int 1]) (rest := []) ⟨hx, hb, hml, hown, hts⟩ hKK (cwV 1 hts gX6_count_X1_regionsOfKind rfl rfl rfl hdX1_regionsOfKind ⟨Nat.le_of_ble_eq_true rfl, Nat.le_of_ble_eq_true rfl⟩) (kX1_regionsOfKind (l := l) (g := g) (hP.sub (ws' := wH g (hd 0) (HA 0) (HF 0)) [14, 15, 16, 17, 18, 19, 20, 21, 22, 23, 24, 25, 26, 27, 28] rfl) hc3) (va_recv hK hP (ci := 1) (q0 := 14) rfl rfl) rfl hl.1 rfl (Nat.le_of_ble_eq_true rfl) dX6_count_74 ⟨Nat.zero_le _, Nat.zero_le _⟩ ?_
    have eo := (Option.some.inj hsem).symm.symm
    subst eo
    exact W.iret (v := x3) hx hb hr (fun t ht hW => ⟨⟨_, (), rfl, rfl, ⟨by rw [ht]; exact hP, hD⟩⟩, hS.F ht⟩) hS.2.2 dX6_count_77
  rw [if_neg c3] at hsem
  by_cases c4 : p0 = 3
  · rw [if_pos c4] at hsem
    refine lv_tableIn (off := 77) (tgt := 78) hx hb dX6_count_1 (by rw [c4]; decide) (by rw [c4]; decide) (by rw [c4]; rfl) (by decide) ?_
    refine lv_aload_n hx hb dX6_count_78 rfl (lv_at hl 0 rfl) ?_
    refine va_get (D := g.1) (ci := 6) (v := .ref (hd 0 0)) (C := RX6) (T := TX6) (N := 8) hx hb hts (fun w h => List.mem_cons_of_mem _ (List.mem_append_left _ (List.mem_append_left _ (List.mem_append_left _ (List.mem_append_right _ h))))) hown hK hP 0 rfl rfl 0 (by decide) (hts (.fieldLink RX6 10 "PauseRegions" "heap" "LPauseRegions$Heap;") (List.mem_of_getElem? (i := 1) rfl)) (fun _ h9 => h9) rfl dX6_count_79 ?_
    refine va_get (D := g.1) (ci := 1) (v := .ref (hd 0 11)) (C := RX1) (T := TX1) (N := 18) hx hb hts (fun w h => List.mem_cons_of_mem _ (List.mem_append_left _ (List.mem_append_left _ (List.mem_append_right _ h)))) hown hK hP 14 rfl rfl 10 (by decide) (hts (.fieldLink RX6 96 "PauseRegions$Heap" "dirtyCards" "LPauseRegions$Row;") (List.mem_of_getElem? (i := 2) rfl)) (fun _ h9 => h9) rfl dX6_count_82 ?_
    refine va_get (D := g.1) (ci := 5) (v := .int (((HA 0) 18 0))) (C := RX5) (T := TX5) (N := 2) hx hb hts (fun w h => List.mem_cons_of_mem _ (List.mem_append_left _ (List.mem_append_right _ h))) hown hK hP 25 rfl rfl 1 (by decide) (hts (.fieldLink RX6 100 "PauseRegions$Row" "length" "I") (List.mem_of_getElem? (i := 3) rfl)) (fun _ h9 => h9) rfl dX6_count_85 ?_
    have eo := (Option.some.inj hsem).symm.symm
    subst eo
    exact W.iret (v := ((HA 0) 18 0)) hx hb hr (fun t ht hW => ⟨⟨_, (), rfl, rfl, ⟨by rw [ht]; exact hP, hD⟩⟩, hS.F ht⟩) hS.2.2 dX6_count_88
  rw [if_neg c4] at hsem
  by_cases c5 : p0 = 4
  · rw [if_pos c5] at hsem
    refine lv_tableIn (off := 88) (tgt := 89) hx hb dX6_count_1 (by rw [c5]; decide) (by rw [c5]; decide) (by rw [c5]; rfl) (by decide) ?_
    refine lv_aload_n hx hb dX6_count_89 rfl (lv_at hl 0 rfl) ?_
    refine va_get (D := g.1) (ci := 6) (v := .ref (hd 0 0)) (C := RX6) (T := TX6) (N := 8) hx hb hts (fun w h => List.mem_cons_of_mem _ (List.mem_append_left _ (List.mem_append_left _ (List.mem_append_left _ (List.mem_append_right _ h))))) hown hK hP 0 rfl rfl 0 (by decide) (hts (.fieldLink RX6 10 "PauseRegions" "heap" "LPauseRegions$Heap;") (List.mem_of_getElem? (i := 1) rfl)) (fun _ h9 => h9) rfl dX6_count_90 ?_
    refine va_get (D := g.1) (ci := 1) (v := .ref (hd 0 13)) (C := RX1) (T := TX1) (N := 18) hx hb hts (fun w h => List.mem_cons_of_mem _ (List.mem_append_left _ (List.mem_append_left _ (List.mem_append_right _ h)))) hown hK hP 14 rfl rfl 11 (by decide) (hts (.fieldLink RX6 116 "PauseRegions$Heap" "greyThings" "LPauseRegions$Row;") (List.mem_of_getElem? (i := 4) rfl)) (fun _ h9 => h9) rfl dX6_count_93 ?_
    refine va_get (D := g.1) (ci := 5) (v := .int (((HA 0) 19 0))) (C := RX5) (T := TX5) (N := 2) hx hb hts (fun w h => List.mem_cons_of_mem _ (List.mem_append_left _ (List.mem_append_right _ h))) hown hK hP 27 rfl rfl 1 (by decide) (hts (.fieldLink RX6 100 "PauseRegions$Row" "length" "I") (List.mem_of_getElem? (i := 3) rfl)) (fun _ h9 => h9) rfl dX6_count_96 ?_
    have eo := (Option.some.inj hsem).symm.symm
    subst eo
    exact W.iret (v := ((HA 0) 19 0)) hx hb hr (fun t ht hW => ⟨⟨_, (), rfl, rfl, ⟨by rw [ht]; exact hP, hD⟩⟩, hS.F ht⟩) hS.2.2 dX6_count_99
  rw [if_neg c5] at hsem
  by_cases c6 : p0 = 5
  · rw [if_pos c6] at hsem
    refine lv_tableIn (off := 99) (tgt := 100) hx hb dX6_count_1 (by rw [c6]; decide) (by rw [c6]; decide) (by rw [c6]; rfl) (by decide) ?_
    refine lv_aload_n hx hb dX6_count_100 rfl (lv_at hl 0 rfl) ?_
    refine va_get (D := g.1) (ci := 6) (v := .ref (hd 0 0)) (C := RX6) (T := TX6) (N := 8) hx hb hts (fun w h => List.mem_cons_of_mem _ (List.mem_append_left _ (List.mem_append_left _ (List.mem_append_left _ (List.mem_append_right _ h))))) hown hK hP 0 rfl rfl 0 (by decide) (hts (.fieldLink RX6 10 "PauseRegions" "heap" "LPauseRegions$Heap;") (List.mem_of_getElem? (i := 1) rfl)) (fun _ h9 => h9) rfl dX6_count_101 ?_
    refine va_get (D := g.1) (ci := 1) (v := .int (((HA 0) 12 0))) (C := RX1) (T := TX1) (N := 18) hx hb hts (fun w h => List.mem_cons_of_mem _ (List.mem_append_left _ (List.mem_append_left _ (List.mem_append_right _ h)))) hown hK hP 14 rfl rfl 12 (by decide) (hts (.fieldLink RX6 109 "PauseRegions$Heap" "marking" "Z") (List.mem_of_getElem? (i := 5) rfl)) (fun _ h9 => h9) rfl dX6_count_104 ?_
    refine lv_if_eq (tgt := 114) hx hb dX6_count_107 (by decide) (fun c7 => ?_) (fun c7 => ?_)
    · rw [if_pos c7] at hsem
      refine lv_iconst (v := 0) hx hb dX6_count_114 (by decide) ?_
      have eo := (Option.some.inj hsem).symm.symm
      subst eo
      exact W.iret (v := 0) hx hb hr (fun t ht hW => ⟨⟨_, (), rfl, rfl, ⟨by rw [ht]; exact hP, hD⟩⟩, hS.F ht⟩) hS.2.2 dX6_count_115
    · rw [if_neg c7] at hsem
      refine lv_iconst (v := 1) hx hb dX6_count_110 (by decide) ?_
      refine lv_goto (tgt := 115) hx hb dX6_count_111 (by decide) ?_
      have eo := (Option.some.inj hsem).symm.symm
      subst eo
      exact W.iret (v := 1) hx hb hr (fun t ht hW => ⟨⟨_, (), rfl, rfl, ⟨by rw [ht]; exact hP, hD⟩⟩, hS.F ht⟩) hS.2.2 dX6_count_115
  rw [if_neg c6] at hsem
  by_cases c8 : p0 = 6
  · rw [if_pos c8] at hsem
    refine lv_tableIn (off := 115) (tgt := 116) hx hb dX6_count_1 (by rw [c8]; decide) (by rw [c8]; decide) (by rw [c8]; rfl) (by decide) ?_
    refine lv_aload_n hx hb dX6_count_116 rfl (lv_at hl 0 rfl) ?_
    refine va_get (D := g.1) (ci := 6) (v := .ref (hd 0 0)) (C := RX6) (T := TX6) (N := 8) hx hb hts (fun w h => List.mem_cons_of_mem _ (List.mem_append_left _ (List.mem_append_left _ (List.mem_append_left _ (List.mem_append_right _ h))))) hown hK hP 0 rfl rfl 0 (by decide) (hts (.fieldLink RX6 10 "PauseRegions" "heap" "LPauseRegions$Heap;") (List.mem_of_getElem? (i := 1) rfl)) (fun _ h9 => h9) rfl dX6_count_117 ?_
    refine va_get (D := g.1) (ci := 1) (v := .int (((HA 0) 16 0))) (C := RX1) (T := TX1) (N := 18) hx hb hts (fun w h => List.mem_cons_of_mem _ (List.mem_append_left _ (List.mem_append_left _ (List.mem_append_right _ h)))) hown hK hP 14 rfl rfl 16 (by decide) (hts (.fieldLink RX6 233 "PauseRegions$Heap" "pauseCount" "I") (List.mem_of_getElem? (i := 6) rfl)) (fun _ h9 => h9) rfl dX6_count_120 ?_
    have eo := (Option.some.inj hsem).symm.symm
    subst eo
    exact W.iret (v := ((HA 0) 16 0)) hx hb hr (fun t ht hW => ⟨⟨_, (), rfl, rfl, ⟨by rw [ht]; exact hP, hD⟩⟩, hS.F ht⟩) hS.2.2 dX6_count_123
  rw [if_neg c8] at hsem
  by_cases c9 : p0 = 7
  · rw [if_pos c9] at hsem
    refine lv_tableIn (off := 123) (tgt := 124) hx hb dX6_count_1 (by rw [c9]; decide) (by rw [c9]; decide) (by rw [c9]; rfl) (by decide) ?_
    refine lv_aload_n hx hb dX6_count_124 rfl (lv_at hl 0 rfl) ?_
    refine va_get (D := g.1) (ci := 6) (v := .ref (hd 0 0)) (C := RX6) (T := TX6) (N := 8) hx hb hts (fun w h => List.mem_cons_of_mem _ (List.mem_append_left _ (List.mem_append_left _ (List.mem_append_left _ (List.mem_append_right _ h))))) hown hK hP 0 rfl rfl 0 (by decide) (hts (.fieldLink RX6 10 "PauseRegions" "heap" "LPauseRegions$Heap;") (List.mem_of_getElem? (i := 1) rfl)) (fun _ h9 => h9) rfl dX6_count_125 ?_
    refine va_get (D := g.1) (ci := 1) (v := .int (((HA 0) 17 0))) (C := RX1) (T := TX1) (N := 18) hx hb hts (fun w h => List.mem_cons_of_mem _ (List.mem_append_left _ (List.mem_append_left _ (List.mem_append_right _ h)))) hown hK hP 14 rfl rfl 17 (by decide) (hts (.fieldLink RX6 236 "PauseRegions$Heap" "lastCost" "I") (List.mem_of_getElem? (i := 7) rfl)) (fun _ h9 => h9) rfl dX6_count_128 ?_
    have eo := (Option.some.inj hsem).symm.symm
    subst eo
    exact W.iret (v := ((HA 0) 17 0)) hx hb hr (fun t ht hW => ⟨⟨_, (), rfl, rfl, ⟨by rw [ht]; exact hP, hD⟩⟩, hS.F ht⟩) hS.2.2 dX6_count_131
  rw [if_neg c9] at hsem
  by_cases c10 : p0 = 8
  · rw [if_pos c10] at hsem
    refine lv_tableIn (off := 131) (tgt := 132) hx hb dX6_count_1 (by rw [c10]; decide) (by rw [c10]; decide) (by rw [c10]; rfl) (by decide) ?_
    refine lv_aload_n hx hb dX6_count_132 rfl (lv_at hl 0 rfl) ?_
    refine va_get (D := g.1) (ci := 6) (v := .ref a0i) (C := RX6) (T := TX6) (N := 8) hx hb hts (fun w h => List.mem_cons_of_mem _ (List.mem_append_left _ (List.mem_append_left _ (List.mem_append_left _ (List.mem_append_right _ h))))) hown hK hP 0 rfl rfl 2 (by decide) (hts (.fieldLink RX6 22 "PauseRegions" "history" "LPauseRegions$History;") (List.mem_of_getElem? (i := 8) rfl)) (fun _ h9 => h9) rfl dX6_count_133 ?_
    refine va_get (D := g.1) (ci := 2) (v := .int kni) (C := RX2) (T := TX2) (N := 3) hx hb hts (fun w h => List.mem_cons_of_mem _ (List.mem_append_right _ h)) hown hK hP 12 rfl rfl 2 (by decide) (hts (.fieldLink RX6 129 "PauseRegions$History" "known" "I") (List.mem_of_getElem? (i := 9) rfl)) (fun _ h9 => h9) rfl dX6_count_136 ?_
    have eo := (Option.some.inj hsem).symm.symm
    subst eo
    exact W.iret (v := kni) hx hb hr (fun t ht hW => ⟨⟨_, (), rfl, rfl, ⟨by rw [ht]; exact hP, hD⟩⟩, hS.F ht⟩) hS.2.2 dX6_count_139
  rw [if_neg c10] at hsem
  refine lv_tableOut (tgt := 140) hx hb dX6_count_1 (sw_out 8 rfl (fun n hn => by
    match n, hn with
    | 0, _ => exact sw_ne c1 rfl
    | 1, _ => exact sw_ne c2 rfl
    | 2, _ => exact sw_ne c3 rfl
    | 3, _ => exact sw_ne c4 rfl
    | 4, _ => exact sw_ne c5 rfl
    | 5, _ => exact sw_ne c6 rfl
    | 6, _ => exact sw_ne c8 rfl
    | 7, _ => exact sw_ne c9 rfl
    | 8, _ => exact sw_ne c10 rfl
    | n + 9, h => omega)) (by decide) ?_
  refine lv_iconst (v := (-1)) hx hb dX6_count_140 (by decide) ?_
  have eo := (Option.some.inj hsem).symm.symm
  subst eo
  exact W.iret (v := (-1)) hx hb hr (fun t ht hW => ⟨⟨_, (), rfl, rfl, ⟨by rw [ht]; exact hP, hD⟩⟩, hS.F ht⟩) hS.2.2 dX6_count_141
def sX6_dirty (HA : Nat → IA) (p0 : Int32) : Option (Int32) :=
  if 0 ≤ p0 then ((sX5_itemAt ((HA 0) 10) ((HA 0) 18 0) p0).bind fun x1 => some x1) else (some (-1))
abbrev rmX6_dirty : Room := { frames := 1, cells := 0, slots := 0, locals := 21 }
theorem hdX6_dirty : yX6_dirty.cls = RX6 ∧ yX6_dirty.cls ≠ "java/lang/invoke/MethodHandle" ∧ yX6_dirty.cls ≠ "java/lang/invoke/VarHandle" ∧ (parseMethodDescriptor yX6_dirty.desc).map (fun d => d.parameters.length) = some 1 := by decide +kernel
set_option maxHeartbeats 8000000 in
set_option maxRecDepth 100000 in
theorem kX6_dirty {l : Launch} {g : GG} {sz : Nat} {a0 a1 a2 : Nat} {im : Nat → Option Nat} {kf : Nat → Int32} {a0t : Nat} {rgt : Int32} {yct : Int32} {fct : UInt32} {adp : Nat → Nat} {Ap : IA} {Fp : FA} {adr : Nat → Nat} {Ar : IA} {a0i a1i : Nat} {pf : Nat → Option Nat} {nxi kni : Int32} {hd : Nat → Nat → Nat} {HA : Nat → IA} {HF : Nat → FA} {p0 : Int32} {b : Int32} (hsem : sX6_dirty HA p0 = some b) : MetI l yX6_dirty wsX6_dirty rmX6_dirty g [.ref a0, .int p0] (wTp g a0 a1 a2 a0t (adp 0) (adr 0) a0i (hd 0 0) (hd 1 0) im kf ++ (wC g a0t rgt yct fct ++ (wPa g adp Ap Fp ++ (wRe g adr Ar ++ (wHi g a0i a1i pf nxi kni ++ (wH g (hd 0) (HA 0) (HF 0) ++ (wH g (hd 1) (HA 1) (HF 1) ++ (wH g (hd 2) (HA 2) (HF 2) ++ (wH g (hd 3) (HA 3) (HF 3) ++ (wH g (hd 4) (HA 4) (HF 4) ++ (wH g (hd 5) (HA 5) (HF 5) ++ (wH g (hd 6) (HA 6) (HF 6) ++ (wH g (hd 7) (HA 7) (HF 7) ++ (wH g (hd 8) (HA 8) (HF 8) ++ (wH g (hd 9) (HA 9) (HF 9) ++ ([])))))))))))))))) sz b (wTp g a0 a1 a2 a0t (adp 0) (adr 0) a0i (hd 0 0) (hd 1 0) im kf ++ (wC g a0t rgt yct fct ++ (wPa g adp Ap Fp ++ (wRe g adr Ar ++ (wHi g a0i a1i pf nxi kni ++ (wH g (hd 0) (HA 0) (HF 0) ++ (wH g (hd 1) (HA 1) (HF 1) ++ (wH g (hd 2) (HA 2) (HF 2) ++ (wH g (hd 3) (HA 3) (HF 3) ++ (wH g (hd 4) (HA 4) (HF 4) ++ (wH g (hd 5) (HA 5) (HF 5) ++ (wH g (hd 6) (HA 6) (HF 6) ++ (wH g (hd 7) (HA 7) (HF 7) ++ (wH g (hd 8) (HA 8) (HF 8) ++ (wH g (hd 9) (HA 9) (HF 9) ++ ([])))))))))))))))) := by
  refine Met.ofW (cc := cX6_dirty) (maxL := 2) (ret := (some .int)) (by decide) rfl ?_
  intro p e s m args below meth c s₁ B hml hv
  obtain ⟨rfl, hsz, hP, hD0, hKK⟩ := hv
  subst hsz
  have hx := B.exec
  have hb := B.bytes
  have hr := B.returns
  have hts := atoms_spec (ws := wsX6_dirty) B.pre
  have hown : s.vm.findClass RX6 = some m.cls := findClass_of_methodNamed B.named
  have hlocks := B.notSynchronized
  have hK := hKK.1
  have hD := hD0.self (sz := s.heap.size)
  generalize hZe : va_A (wTp g a0 a1 a2 a0t (adp 0) (adr 0) a0i (hd 0 0) (hd 1 0) im kf ++ (wC g a0t rgt yct fct ++ (wPa g adp Ap Fp ++ (wRe g adr Ar ++ (wHi g a0i a1i pf nxi kni ++ (wH g (hd 0) (HA 0) (HF 0) ++ (wH g (hd 1) (HA 1) (HF 1) ++ (wH g (hd 2) (HA 2) (HF 2) ++ (wH g (hd 3) (HA 3) (HF 3) ++ (wH g (hd 4) (HA 4) (HF 4) ++ (wH g (hd 5) (HA 5) (HF 5) ++ (wH g (hd 6) (HA 6) (HF 6) ++ (wH g (hd 7) (HA 7) (HF 7) ++ (wH g (hd 8) (HA 8) (HF 8) ++ (wH g (hd 9) (HA 9) (HF 9) ++ ([])))))))))))))))) s.heap.size = Z at hD ⊢
  have hZ : ∀ q : Nat, s.heap.size ≤ q → Z q := fun q h => by rw [← hZe]; exact Or.inr h
  have hS : va_S Z s.heap s.heap [] := va_S.rf
  have hP : va_P g.1 vwCl (wTp g a0 a1 a2 a0t (adp 0) (adr 0) a0i (hd 0 0) (hd 1 0) im kf ++ (wC g a0t rgt yct fct ++ (wPa g adp Ap Fp ++ (wRe g adr Ar ++ (wHi g a0i a1i pf nxi kni ++ (wH g (hd 0) (HA 0) (HF 0) ++ (wH g (hd 1) (HA 1) (HF 1) ++ (wH g (hd 2) (HA 2) (HF 2) ++ (wH g (hd 3) (HA 3) (HF 3) ++ (wH g (hd 4) (HA 4) (HF 4) ++ (wH g (hd 5) (HA 5) (HF 5) ++ (wH g (hd 6) (HA 6) (HF 6) ++ (wH g (hd 7) (HA 7) (HF 7) ++ (wH g (hd 8) (HA 8) (HF 8) ++ (wH g (hd 9) (HA 9) (HF 9) ++ ([])))))))))))))))) s.heap := hP
  have hD : va_D Z (wTp g a0 a1 a2 a0t (adp 0) (adr 0) a0i (hd 0 0) (hd 1 0) im kf ++ (wC g a0t rgt yct fct ++ (wPa g adp Ap Fp ++ (wRe g adr Ar ++ (wHi g a0i a1i pf nxi kni ++ (wH g (hd 0) (HA 0) (HF 0) ++ (wH g (hd 1) (HA 1) (HF 1) ++ (wH g (hd 2) (HA 2) (HF 2) ++ (wH g (hd 3) (HA 3) (HF 3) ++ (wH g (hd 4) (HA 4) (HF 4) ++ (wH g (hd 5) (HA 5) (HF 5) ++ (wH g (hd 6) (HA 6) (HF 6) ++ (wH g (hd 7) (HA 7) (HF 7) ++ (wH g (hd 8) (HA 8) (HF 8) ++ (wH g (hd 9) (HA 9) (HF 9) ++ ([])))))))))))))))) := hD
  have hl := lv_entry ([.ref a0, .int p0]) (n := 2) (Nat.le_of_ble_eq_true rfl)
  rw [lg_entry_eq]
  generalize (lg_sl ([.ref a0, .int p0]) ++ List.replicate (2 - (lg_sl ([.ref a0, .int p0])).length) Slot.unset).toArray = ls at hl ⊢
  have hl : lv_has ls 2 [(0, .ref a0), (1, .int p0)] := hl
  unfold sX6_dirty at hsem
  refine lv_iload_n hx hb dX6_dirty_0 rfl (lv_at hl 1 rfl) ?_
  refine lv_if_ge (tgt := 8) hx hb dX6_dirty_1 (by decide) (fun c1 => ?_) (fun c1 => ?_)
  · rw [if_pos c1] at hsem
    refine lv_aload_n hx hb dX6_dirty_8 rfl (lv_at hl 0 rfl) ?_
    refine va_get (D := g.1) (ci := 6) (v := .ref (hd 0 0)) (C := RX6) (T := TX6) (N := 8) hx hb hts (fun w h => List.mem_cons_of_mem _ (List.mem_append_left _ (List.mem_append_left _ (List.mem_append_right _ h)))) hown hK hP 0 rfl rfl 0 (by decide) (hts (.fieldLink RX6 10 "PauseRegions" "heap" "LPauseRegions$Heap;") (List.mem_of_getElem? (i := 1) rfl)) (fun _ h9 => h9) rfl dX6_dirty_9 ?_
    refine va_get (D := g.1) (ci := 1) (v := .ref (hd 0 11)) (C := RX1) (T := TX1) (N := 18) hx hb hts (fun w h => List.mem_cons_of_mem _ (List.mem_append_left _ (List.mem_append_right _ h))) hown hK hP 14 rfl rfl 10 (by decide) (hts (.fieldLink RX6 96 "PauseRegions$Heap" "dirtyCards" "LPauseRegions$Row;") (List.mem_of_getElem? (i := 2) rfl)) (fun _ h9 => h9) rfl dX6_dirty_12 ?_
    refine lv_iload_n hx hb dX6_dirty_15 rfl (lv_at hl 1 rfl) ?_
    obtain ⟨x1, hc1, hsem⟩ := bn_some hsem
    refine pcV (C := RX5) (As := [.int p0]) (rest := []) ⟨hx, hb, hml, hown, hts⟩ hKK (cwV 1 hts gX6_dirty_X5_itemAt rfl rfl rfl hdX5_itemAt ⟨Nat.le_of_ble_eq_true rfl, Nat.le_of_ble_eq_true rfl⟩) (kX5_itemAt (l := l) (g := g) (hP.sub (ws' := wRow g (hd 0 11) (hd 0 12) ((HA 0) 10) ((HA 0) 18 0)) [25, 26] rfl) hc1) (va_recv hK hP (ci := 5) (q0 := 25) rfl rfl) rfl hl.1 rfl (Nat.le_of_ble_eq_true rfl) dX6_dirty_16 ⟨Nat.zero_le _, Nat.zero_le _⟩ ?_
    have eo := (Option.some.inj hsem).symm.symm
    subst eo
    exact W.iret (v := x1) hx hb hr (fun t ht hW => ⟨⟨_, (), rfl, rfl, ⟨by rw [ht]; exact hP, hD⟩⟩, hS.F ht⟩) hS.2.2 dX6_dirty_19
  · rw [if_neg c1] at hsem
    refine lv_iconst (v := (-1)) hx hb dX6_dirty_4 (by decide) ?_
    refine lv_goto (tgt := 19) hx hb dX6_dirty_5 (by decide) ?_
    have eo := (Option.some.inj hsem).symm.symm
    subst eo
    exact W.iret (v := (-1)) hx hb hr (fun t ht hW => ⟨⟨_, (), rfl, rfl, ⟨by rw [ht]; exact hP, hD⟩⟩, hS.F ht⟩) hS.2.2 dX6_dirty_19
def sX6_foretold (rgt : Int32) (yct : Int32) (fctc : UInt32) (HA : Nat → IA) (HFc : Nat → FA) (p0 : Int32) : Option (Int32 × Int32 × Int32 × UInt32) :=
  (sX6_isGoal p0).bind fun x1 => if x1 = 0 then (some (((-1), rgt, yct, fctc))) else ((sX0_choose rgt yct fctc (HA 0) (HFc 0) p0).bind fun z1 => some ((FP.f2i (FP.fmul 1120403456 z1.2.2), z1.1, z1.2.1, z1.2.2)))
abbrev rmX6_foretold : Room := { frames := 4, cells := 0, slots := 0, locals := 94 }
theorem hdX6_foretold : yX6_foretold.cls = RX6 ∧ yX6_foretold.cls ≠ "java/lang/invoke/MethodHandle" ∧ yX6_foretold.cls ≠ "java/lang/invoke/VarHandle" ∧ (parseMethodDescriptor yX6_foretold.desc).map (fun d => d.parameters.length) = some 1 := by decide +kernel
set_option maxHeartbeats 8000000 in
set_option maxRecDepth 100000 in
theorem kX6_foretold {l : Launch} {g : GG} {sz : Nat} {a0 a1 a2 : Nat} {im : Nat → Option Nat} {kf : Nat → Int32} {a0t : Nat} {rgt : Int32} {yct : Int32} {fct : UInt32} {adp : Nat → Nat} {Ap : IA} {Fp : FA} {adr : Nat → Nat} {Ar : IA} {a0i a1i : Nat} {pf : Nat → Option Nat} {nxi kni : Int32} {hd : Nat → Nat → Nat} {HA : Nat → IA} {HF : Nat → FA} {p0 : Int32} {fctc : UInt32} (hfct : alike32 fct fctc = true) {Fpc : FA} (hALp : AL Fp Fpc) {HFc : Nat → FA} (hALH : ALH HF HFc) {b : Int32 × Int32 × Int32 × UInt32} (hsem : sX6_foretold rgt yct fctc HA HFc p0 = some b) : MetDI l yX6_foretold wsX6_foretold rmX6_foretold g [.ref a0, .int p0] (wTp g a0 a1 a2 a0t (adp 0) (adr 0) a0i (hd 0 0) (hd 1 0) im kf ++ (wC g a0t rgt yct fct ++ (wPa g adp Ap Fp ++ (wRe g adr Ar ++ (wHi g a0i a1i pf nxi kni ++ (wH g (hd 0) (HA 0) (HF 0) ++ (wH g (hd 1) (HA 1) (HF 1) ++ (wH g (hd 2) (HA 2) (HF 2) ++ (wH g (hd 3) (HA 3) (HF 3) ++ (wH g (hd 4) (HA 4) (HF 4) ++ (wH g (hd 5) (HA 5) (HF 5) ++ (wH g (hd 6) (HA 6) (HF 6) ++ (wH g (hd 7) (HA 7) (HF 7) ++ (wH g (hd 8) (HA 8) (HF 8) ++ (wH g (hd 9) (HA 9) (HF 9) ++ ([])))))))))))))))) sz b.1 (φ := UInt32) (fun u => alike32 u b.2.2.2 = true) (fun u => wTp g a0 a1 a2 a0t (adp 0) (adr 0) a0i (hd 0 0) (hd 1 0) im kf ++ (wC g a0t b.2.1 b.2.2.1 u ++ (wPa g adp Ap Fp ++ (wRe g adr Ar ++ (wHi g a0i a1i pf nxi kni ++ (wH g (hd 0) (HA 0) (HF 0) ++ (wH g (hd 1) (HA 1) (HF 1) ++ (wH g (hd 2) (HA 2) (HF 2) ++ (wH g (hd 3) (HA 3) (HF 3) ++ (wH g (hd 4) (HA 4) (HF 4) ++ (wH g (hd 5) (HA 5) (HF 5) ++ (wH g (hd 6) (HA 6) (HF 6) ++ (wH g (hd 7) (HA 7) (HF 7) ++ (wH g (hd 8) (HA 8) (HF 8) ++ (wH g (hd 9) (HA 9) (HF 9) ++ ([])))))))))))))))) := by
  refine MetD.ofW (cc := cX6_foretold) (maxL := 2) (ret := (some .int)) (by decide) rfl ?_
  intro p e s m args below meth c s₁ B hml hv hd0
  obtain ⟨rfl, hsz, hP, hD0, hKK⟩ := hv
  subst hsz
  have hx := B.exec
  have hb := B.bytes
  have hr := B.returns
  have hts := atoms_spec (ws := wsX6_foretold) B.pre
  have hown : ∀ d, (s.setDrawn d).vm.findClass RX6 = some m.cls := fun _ => findClass_of_methodNamed B.named
  have hlocks := B.notSynchronized
  have hK : ∀ d, va_K g.1 vwCl (KT g) (s.setDrawn d) := fun d => (hKK.drawn d).1
  have hD := hD0.self (sz := s.heap.size)
  generalize hZe : va_A (wTp g a0 a1 a2 a0t (adp 0) (adr 0) a0i (hd 0 0) (hd 1 0) im kf ++ (wC g a0t rgt yct fct ++ (wPa g adp Ap Fp ++ (wRe g adr Ar ++ (wHi g a0i a1i pf nxi kni ++ (wH g (hd 0) (HA 0) (HF 0) ++ (wH g (hd 1) (HA 1) (HF 1) ++ (wH g (hd 2) (HA 2) (HF 2) ++ (wH g (hd 3) (HA 3) (HF 3) ++ (wH g (hd 4) (HA 4) (HF 4) ++ (wH g (hd 5) (HA 5) (HF 5) ++ (wH g (hd 6) (HA 6) (HF 6) ++ (wH g (hd 7) (HA 7) (HF 7) ++ (wH g (hd 8) (HA 8) (HF 8) ++ (wH g (hd 9) (HA 9) (HF 9) ++ ([])))))))))))))))) s.heap.size = Z at hD ⊢
  have hZ : ∀ q : Nat, s.heap.size ≤ q → Z q := fun q h => by rw [← hZe]; exact Or.inr h
  have hS : va_S Z s.heap s.heap [] := va_S.rf
  have hP : va_P g.1 vwCl (wTp g a0 a1 a2 a0t (adp 0) (adr 0) a0i (hd 0 0) (hd 1 0) im kf ++ (wC g a0t rgt yct fct ++ (wPa g adp Ap Fp ++ (wRe g adr Ar ++ (wHi g a0i a1i pf nxi kni ++ (wH g (hd 0) (HA 0) (HF 0) ++ (wH g (hd 1) (HA 1) (HF 1) ++ (wH g (hd 2) (HA 2) (HF 2) ++ (wH g (hd 3) (HA 3) (HF 3) ++ (wH g (hd 4) (HA 4) (HF 4) ++ (wH g (hd 5) (HA 5) (HF 5) ++ (wH g (hd 6) (HA 6) (HF 6) ++ (wH g (hd 7) (HA 7) (HF 7) ++ (wH g (hd 8) (HA 8) (HF 8) ++ (wH g (hd 9) (HA 9) (HF 9) ++ ([])))))))))))))))) s.heap := hP
  have hD : va_D Z (wTp g a0 a1 a2 a0t (adp 0) (adr 0) a0i (hd 0 0) (hd 1 0) im kf ++ (wC g a0t rgt yct fct ++ (wPa g adp Ap Fp ++ (wRe g adr Ar ++ (wHi g a0i a1i pf nxi kni ++ (wH g (hd 0) (HA 0) (HF 0) ++ (wH g (hd 1) (HA 1) (HF 1) ++ (wH g (hd 2) (HA 2) (HF 2) ++ (wH g (hd 3) (HA 3) (HF 3) ++ (wH g (hd 4) (HA 4) (HF 4) ++ (wH g (hd 5) (HA 5) (HF 5) ++ (wH g (hd 6) (HA 6) (HF 6) ++ (wH g (hd 7) (HA 7) (HF 7) ++ (wH g (hd 8) (HA 8) (HF 8) ++ (wH g (hd 9) (HA 9) (HF 9) ++ ([])))))))))))))))) := hD
  obtain ⟨d, hdr, hdd⟩ : ∃ d, s.drawn.sameBut d lw_cs ∧ s.drawn = d := ⟨_, hd0, rfl⟩
  rw [hdd]
  have hl := lv_entry ([.ref a0, .int p0]) (n := 2) (Nat.le_of_ble_eq_true rfl)
  rw [lg_entry_eq]
  generalize (lg_sl ([.ref a0, .int p0]) ++ List.replicate (2 - (lg_sl ([.ref a0, .int p0])).length) Slot.unset).toArray = ls at hl ⊢
  have hl : lv_has ls 2 [(0, .ref a0), (1, .int p0)] := hl
  unfold sX6_foretold at hsem
  refine lv_iload_n hx hb dX6_foretold_0 rfl (lv_at hl 1 rfl) ?_
  obtain ⟨x1, hc1, hsem⟩ := bn_some hsem
  refine pcS (As := [.int p0]) (rest := []) ⟨hx, hb, hml, (hown d), (dr_words hts d)⟩ (hKK.drawn d) (va_cwS 1 (dr_words hts d) gX6_foretold_X6_isGoal rfl rfl rfl hdX6_isGoal ⟨Nat.le_of_ble_eq_true rfl, Nat.le_of_ble_eq_true rfl⟩) (kX6_isGoal (l := l) (g := g) hc1) rfl hl.1 rfl (Nat.le_of_ble_eq_true rfl) dX6_foretold_1 ⟨Nat.zero_le _, Nat.zero_le _⟩ ?_
  refine lv_if_ne (tgt := 9) hx hb dX6_foretold_4 (by decide) (fun c1 => ?_) (fun c1 => ?_)
  · rw [if_neg c1] at hsem
    refine lv_aload_n hx hb dX6_foretold_9 rfl (lv_at hl 0 rfl) ?_
    refine va_get (D := g.1) (ci := 6) (v := .ref a0t) (C := RX6) (T := TX6) (N := 8) hx hb (dr_words hts d) (fun w h => List.mem_cons_of_mem _ (List.mem_append_left _ (List.mem_append_left _ (List.mem_append_right _ h)))) (hown d) (hK d) hP 0 rfl rfl 5 (by decide) ((dr_words hts d) (.fieldLink RX6 37 "PauseRegions" "choice" "LPauseRegions$Choice;") (List.mem_of_getElem? (i := 1) rfl)) (fun _ h9 => h9) rfl dX6_foretold_10 ?_
    refine lv_aload_n hx hb dX6_foretold_13 rfl (lv_at hl 0 rfl) ?_
    refine va_get (D := g.1) (ci := 6) (v := .ref (hd 0 0)) (C := RX6) (T := TX6) (N := 8) hx hb (dr_words hts d) (fun w h => List.mem_cons_of_mem _ (List.mem_append_left _ (List.mem_append_left _ (List.mem_append_right _ h)))) (hown d) (hK d) hP 0 rfl rfl 0 (by decide) ((dr_words hts d) (.fieldLink RX6 10 "PauseRegions" "heap" "LPauseRegions$Heap;") (List.mem_of_getElem? (i := 2) rfl)) (fun _ h9 => h9) rfl dX6_foretold_14 ?_
    refine lv_iload_n hx hb dX6_foretold_17 rfl (lv_at hl 1 rfl) ?_
    obtain ⟨z1, hc2, hsem⟩ := bn_some hsem
    refine tdV (C := RX0) (As := [.ref (hd 0 0), .int p0]) (rest := []) hP hD hS hZ (pF2 (wTp g a0 a1 a2 a0t (adp 0) (adr 0) a0i (hd 0 0) (hd 1 0) im kf ++ ([])) (wC g a0t rgt yct fct) (wPa g adp Ap Fp ++ (wRe g adr Ar ++ (wHi g a0i a1i pf nxi kni ++ ([])))) (wH g (hd 0) (HA 0) (HF 0)) (wH g (hd 1) (HA 1) (HF 1) ++ (wH g (hd 2) (HA 2) (HF 2) ++ (wH g (hd 3) (HA 3) (HF 3) ++ (wH g (hd 4) (HA 4) (HF 4) ++ (wH g (hd 5) (HA 5) (HF 5) ++ (wH g (hd 6) (HA 6) (HF 6) ++ (wH g (hd 7) (HA 7) (HF 7) ++ (wH g (hd 8) (HA 8) (HF 8) ++ (wH g (hd 9) (HA 9) (HF 9) ++ ([]))))))))))) hdr ⟨hx, hb, hml, (hown d), (dr_words hts d)⟩ (hKK.drawn d) (cwV 2 (dr_words hts d) gX6_foretold_X0_choose rfl rfl rfl hdX0_choose ⟨Nat.le_of_ble_eq_true rfl, Nat.le_of_ble_eq_true rfl⟩) (kX0_choose (l := l) (g := g) (a0 := a0t) (rg := rgt) (yc := yct) (fc := fct) (fcc := fctc) (adh := hd 0) (Ah := (HA 0)) (Fh := (HF 0)) (Fhc := (HFc 0)) hfct (hALH 0) hc2) (va_recv (hK d) hP (ci := 0) (q0 := 3) rfl rfl) rfl hl.1 rfl (Nat.le_of_ble_eq_true rfl) dX6_foretold_18 ⟨Nat.zero_le _, Nat.zero_le _⟩ (fun u1 H locs d hpo hP hD hS hdr => ?_)
    have hq1 := hpo
    have hP : va_P g.1 vwCl (wTp g a0 a1 a2 a0t (adp 0) (adr 0) a0i (hd 0 0) (hd 1 0) im kf ++ (wC g a0t z1.1 z1.2.1 u1 ++ (wPa g adp Ap Fp ++ (wRe g adr Ar ++ (wHi g a0i a1i pf nxi kni ++ (wH g (hd 0) (HA 0) (HF 0) ++ (wH g (hd 1) (HA 1) (HF 1) ++ (wH g (hd 2) (HA 2) (HF 2) ++ (wH g (hd 3) (HA 3) (HF 3) ++ (wH g (hd 4) (HA 4) (HF 4) ++ (wH g (hd 5) (HA 5) (HF 5) ++ (wH g (hd 6) (HA 6) (HF 6) ++ (wH g (hd 7) (HA 7) (HF 7) ++ (wH g (hd 8) (HA 8) (HF 8) ++ (wH g (hd 9) (HA 9) (HF 9) ++ ([])))))))))))))))) H := vaP_perm (pF2 (wTp g a0 a1 a2 a0t (adp 0) (adr 0) a0i (hd 0 0) (hd 1 0) im kf ++ ([])) (wC g a0t z1.1 z1.2.1 u1) (wPa g adp Ap Fp ++ (wRe g adr Ar ++ (wHi g a0i a1i pf nxi kni ++ ([])))) (wH g (hd 0) (HA 0) (HF 0)) (wH g (hd 1) (HA 1) (HF 1) ++ (wH g (hd 2) (HA 2) (HF 2) ++ (wH g (hd 3) (HA 3) (HF 3) ++ (wH g (hd 4) (HA 4) (HF 4) ++ (wH g (hd 5) (HA 5) (HF 5) ++ (wH g (hd 6) (HA 6) (HF 6) ++ (wH g (hd 7) (HA 7) (HF 7) ++ (wH g (hd 8) (HA 8) (HF 8) ++ (wH g (hd 9) (HA 9) (HF 9) ++ ([]))))))))))).symm (by exact hP)
    have hD : va_D Z (wTp g a0 a1 a2 a0t (adp 0) (adr 0) a0i (hd 0 0) (hd 1 0) im kf ++ (wC g a0t z1.1 z1.2.1 u1 ++ (wPa g adp Ap Fp ++ (wRe g adr Ar ++ (wHi g a0i a1i pf nxi kni ++ (wH g (hd 0) (HA 0) (HF 0) ++ (wH g (hd 1) (HA 1) (HF 1) ++ (wH g (hd 2) (HA 2) (HF 2) ++ (wH g (hd 3) (HA 3) (HF 3) ++ (wH g (hd 4) (HA 4) (HF 4) ++ (wH g (hd 5) (HA 5) (HF 5) ++ (wH g (hd 6) (HA 6) (HF 6) ++ (wH g (hd 7) (HA 7) (HF 7) ++ (wH g (hd 8) (HA 8) (HF 8) ++ (wH g (hd 9) (HA 9) (HF 9) ++ ([])))))))))))))))) := vaD_perm (pF2 (wTp g a0 a1 a2 a0t (adp 0) (adr 0) a0i (hd 0 0) (hd 1 0) im kf ++ ([])) (wC g a0t z1.1 z1.2.1 u1) (wPa g adp Ap Fp ++ (wRe g adr Ar ++ (wHi g a0i a1i pf nxi kni ++ ([])))) (wH g (hd 0) (HA 0) (HF 0)) (wH g (hd 1) (HA 1) (HF 1) ++ (wH g (hd 2) (HA 2) (HF 2) ++ (wH g (hd 3) (HA 3) (HF 3) ++ (wH g (hd 4) (HA 4) (HF 4) ++ (wH g (hd 5) (HA 5) (HF 5) ++ (wH g (hd 6) (HA 6) (HF 6) ++ (wH g (hd 7) (HA 7) (HF 7) ++ (wH g (hd 8) (HA 8) (HF 8) ++ (wH g (hd 9) (HA 9) (HF 9) ++ ([]))))))))))).symm (by exact hD)
    refine lv_ldcf hx hb (hown d) ((dr_words hts d) (.constantFloat RX6 180 (1120403456)) (List.mem_of_getElem? (i := 3) rfl)) dX6_foretold_21 ?_
    refine lv_aload_n hx hb dX6_foretold_23 rfl (lv_at hl 0 rfl) ?_
    refine va_get (D := g.1) (ci := 6) (v := .ref a0t) (C := RX6) (T := TX6) (N := 8) hx hb (dr_words hts d) (fun w h => List.mem_cons_of_mem _ (List.mem_append_left _ (List.mem_append_left _ (List.mem_append_right _ h)))) (hown d) (hK d) hP 0 rfl rfl 5 (by decide) ((dr_words hts d) (.fieldLink RX6 37 "PauseRegions" "choice" "LPauseRegions$Choice;") (List.mem_of_getElem? (i := 1) rfl)) (fun _ h9 => h9) rfl dX6_foretold_24 ?_
    refine va_get (D := g.1) (ci := 0) (v := .float u1) (C := RX0) (T := TX0) (N := 3) hx hb (dr_words hts d) (fun w h => List.mem_cons_of_mem _ (List.mem_append_left _ (List.mem_append_right _ h))) (hown d) (hK d) hP 3 rfl rfl 2 (by decide) ((dr_words hts d) (.fieldLink RX6 195 "PauseRegions$Choice" "forecast" "F") (List.mem_of_getElem? (i := 4) rfl)) (fun _ h9 => h9) rfl dX6_foretold_27 ?_
    refine lv_fmul_any hdr lw_bits hx hb dX6_foretold_30 (fun y1 d hal hdr => ?_)
    have ay1 := al_fmul hal (al_refl _) hq1
    refine lv_f2i hx hb dX6_foretold_31 ?_
    rw [al_f2i ay1]
    have eo := (Option.some.inj hsem).symm.symm
    refine W.endD hdr ?_
    subst eo
    exact W.iret (v := FP.f2i (FP.fmul 1120403456 z1.2.2)) hx hb hr (fun t ht hW => ⟨⟨_, u1, rfl, ⟨rfl, hq1⟩, ⟨by rw [ht]; exact hP, hD⟩⟩, hS.F ht⟩) hS.2.2 dX6_foretold_32
  · rw [if_pos c1] at hsem
    refine lv_iconst (v := (-1)) hx hb dX6_foretold_7 (by decide) ?_
    have eo := (Option.some.inj hsem).symm.symm
    refine W.endD hdr ?_
    subst eo
    exact W.iret (v := (-1)) hx hb hr (fun t ht hW => ⟨⟨_, fct, rfl, ⟨rfl, hfct⟩, ⟨by rw [ht]; exact hP, hD⟩⟩, hS.F ht⟩) hS.2.2 dX6_foretold_8
def sX6_grey (HA : Nat → IA) (p0 : Int32) : Option (Int32) :=
  if 0 ≤ p0 then ((sX5_itemAt ((HA 0) 11) ((HA 0) 19 0) p0).bind fun x1 => some x1) else (some (-1))
abbrev rmX6_grey : Room := { frames := 1, cells := 0, slots := 0, locals := 21 }
theorem hdX6_grey : yX6_grey.cls = RX6 ∧ yX6_grey.cls ≠ "java/lang/invoke/MethodHandle" ∧ yX6_grey.cls ≠ "java/lang/invoke/VarHandle" ∧ (parseMethodDescriptor yX6_grey.desc).map (fun d => d.parameters.length) = some 1 := by decide +kernel
set_option maxHeartbeats 8000000 in
set_option maxRecDepth 100000 in
theorem kX6_grey {l : Launch} {g : GG} {sz : Nat} {a0 a1 a2 : Nat} {im : Nat → Option Nat} {kf : Nat → Int32} {a0t : Nat} {rgt : Int32} {yct : Int32} {fct : UInt32} {adp : Nat → Nat} {Ap : IA} {Fp : FA} {adr : Nat → Nat} {Ar : IA} {a0i a1i : Nat} {pf : Nat → Option Nat} {nxi kni : Int32} {hd : Nat → Nat → Nat} {HA : Nat → IA} {HF : Nat → FA} {p0 : Int32} {b : Int32} (hsem : sX6_grey HA p0 = some b) : MetI l yX6_grey wsX6_grey rmX6_grey g [.ref a0, .int p0] (wTp g a0 a1 a2 a0t (adp 0) (adr 0) a0i (hd 0 0) (hd 1 0) im kf ++ (wC g a0t rgt yct fct ++ (wPa g adp Ap Fp ++ (wRe g adr Ar ++ (wHi g a0i a1i pf nxi kni ++ (wH g (hd 0) (HA 0) (HF 0) ++ (wH g (hd 1) (HA 1) (HF 1) ++ (wH g (hd 2) (HA 2) (HF 2) ++ (wH g (hd 3) (HA 3) (HF 3) ++ (wH g (hd 4) (HA 4) (HF 4) ++ (wH g (hd 5) (HA 5) (HF 5) ++ (wH g (hd 6) (HA 6) (HF 6) ++ (wH g (hd 7) (HA 7) (HF 7) ++ (wH g (hd 8) (HA 8) (HF 8) ++ (wH g (hd 9) (HA 9) (HF 9) ++ ([])))))))))))))))) sz b (wTp g a0 a1 a2 a0t (adp 0) (adr 0) a0i (hd 0 0) (hd 1 0) im kf ++ (wC g a0t rgt yct fct ++ (wPa g adp Ap Fp ++ (wRe g adr Ar ++ (wHi g a0i a1i pf nxi kni ++ (wH g (hd 0) (HA 0) (HF 0) ++ (wH g (hd 1) (HA 1) (HF 1) ++ (wH g (hd 2) (HA 2) (HF 2) ++ (wH g (hd 3) (HA 3) (HF 3) ++ (wH g (hd 4) (HA 4) (HF 4) ++ (wH g (hd 5) (HA 5) (HF 5) ++ (wH g (hd 6) (HA 6) (HF 6) ++ (wH g (hd 7) (HA 7) (HF 7) ++ (wH g (hd 8) (HA 8) (HF 8) ++ (wH g (hd 9) (HA 9) (HF 9) ++ ([])))))))))))))))) := by
  refine Met.ofW (cc := cX6_grey) (maxL := 2) (ret := (some .int)) (by decide) rfl ?_
  intro p e s m args below meth c s₁ B hml hv
  obtain ⟨rfl, hsz, hP, hD0, hKK⟩ := hv
  subst hsz
  have hx := B.exec
  have hb := B.bytes
  have hr := B.returns
  have hts := atoms_spec (ws := wsX6_grey) B.pre
  have hown : s.vm.findClass RX6 = some m.cls := findClass_of_methodNamed B.named
  have hlocks := B.notSynchronized
  have hK := hKK.1
  have hD := hD0.self (sz := s.heap.size)
  generalize hZe : va_A (wTp g a0 a1 a2 a0t (adp 0) (adr 0) a0i (hd 0 0) (hd 1 0) im kf ++ (wC g a0t rgt yct fct ++ (wPa g adp Ap Fp ++ (wRe g adr Ar ++ (wHi g a0i a1i pf nxi kni ++ (wH g (hd 0) (HA 0) (HF 0) ++ (wH g (hd 1) (HA 1) (HF 1) ++ (wH g (hd 2) (HA 2) (HF 2) ++ (wH g (hd 3) (HA 3) (HF 3) ++ (wH g (hd 4) (HA 4) (HF 4) ++ (wH g (hd 5) (HA 5) (HF 5) ++ (wH g (hd 6) (HA 6) (HF 6) ++ (wH g (hd 7) (HA 7) (HF 7) ++ (wH g (hd 8) (HA 8) (HF 8) ++ (wH g (hd 9) (HA 9) (HF 9) ++ ([])))))))))))))))) s.heap.size = Z at hD ⊢
  have hZ : ∀ q : Nat, s.heap.size ≤ q → Z q := fun q h => by rw [← hZe]; exact Or.inr h
  have hS : va_S Z s.heap s.heap [] := va_S.rf
  have hP : va_P g.1 vwCl (wTp g a0 a1 a2 a0t (adp 0) (adr 0) a0i (hd 0 0) (hd 1 0) im kf ++ (wC g a0t rgt yct fct ++ (wPa g adp Ap Fp ++ (wRe g adr Ar ++ (wHi g a0i a1i pf nxi kni ++ (wH g (hd 0) (HA 0) (HF 0) ++ (wH g (hd 1) (HA 1) (HF 1) ++ (wH g (hd 2) (HA 2) (HF 2) ++ (wH g (hd 3) (HA 3) (HF 3) ++ (wH g (hd 4) (HA 4) (HF 4) ++ (wH g (hd 5) (HA 5) (HF 5) ++ (wH g (hd 6) (HA 6) (HF 6) ++ (wH g (hd 7) (HA 7) (HF 7) ++ (wH g (hd 8) (HA 8) (HF 8) ++ (wH g (hd 9) (HA 9) (HF 9) ++ ([])))))))))))))))) s.heap := hP
  have hD : va_D Z (wTp g a0 a1 a2 a0t (adp 0) (adr 0) a0i (hd 0 0) (hd 1 0) im kf ++ (wC g a0t rgt yct fct ++ (wPa g adp Ap Fp ++ (wRe g adr Ar ++ (wHi g a0i a1i pf nxi kni ++ (wH g (hd 0) (HA 0) (HF 0) ++ (wH g (hd 1) (HA 1) (HF 1) ++ (wH g (hd 2) (HA 2) (HF 2) ++ (wH g (hd 3) (HA 3) (HF 3) ++ (wH g (hd 4) (HA 4) (HF 4) ++ (wH g (hd 5) (HA 5) (HF 5) ++ (wH g (hd 6) (HA 6) (HF 6) ++ (wH g (hd 7) (HA 7) (HF 7) ++ (wH g (hd 8) (HA 8) (HF 8) ++ (wH g (hd 9) (HA 9) (HF 9) ++ ([])))))))))))))))) := hD
  have hl := lv_entry ([.ref a0, .int p0]) (n := 2) (Nat.le_of_ble_eq_true rfl)
  rw [lg_entry_eq]
  generalize (lg_sl ([.ref a0, .int p0]) ++ List.replicate (2 - (lg_sl ([.ref a0, .int p0])).length) Slot.unset).toArray = ls at hl ⊢
  have hl : lv_has ls 2 [(0, .ref a0), (1, .int p0)] := hl
  unfold sX6_grey at hsem
  refine lv_iload_n hx hb dX6_grey_0 rfl (lv_at hl 1 rfl) ?_
  refine lv_if_ge (tgt := 8) hx hb dX6_grey_1 (by decide) (fun c1 => ?_) (fun c1 => ?_)
  · rw [if_pos c1] at hsem
    refine lv_aload_n hx hb dX6_grey_8 rfl (lv_at hl 0 rfl) ?_
    refine va_get (D := g.1) (ci := 6) (v := .ref (hd 0 0)) (C := RX6) (T := TX6) (N := 8) hx hb hts (fun w h => List.mem_cons_of_mem _ (List.mem_append_left _ (List.mem_append_left _ (List.mem_append_right _ h)))) hown hK hP 0 rfl rfl 0 (by decide) (hts (.fieldLink RX6 10 "PauseRegions" "heap" "LPauseRegions$Heap;") (List.mem_of_getElem? (i := 1) rfl)) (fun _ h9 => h9) rfl dX6_grey_9 ?_
    refine va_get (D := g.1) (ci := 1) (v := .ref (hd 0 13)) (C := RX1) (T := TX1) (N := 18) hx hb hts (fun w h => List.mem_cons_of_mem _ (List.mem_append_left _ (List.mem_append_right _ h))) hown hK hP 14 rfl rfl 11 (by decide) (hts (.fieldLink RX6 116 "PauseRegions$Heap" "greyThings" "LPauseRegions$Row;") (List.mem_of_getElem? (i := 2) rfl)) (fun _ h9 => h9) rfl dX6_grey_12 ?_
    refine lv_iload_n hx hb dX6_grey_15 rfl (lv_at hl 1 rfl) ?_
    obtain ⟨x1, hc1, hsem⟩ := bn_some hsem
    refine pcV (C := RX5) (As := [.int p0]) (rest := []) ⟨hx, hb, hml, hown, hts⟩ hKK (cwV 1 hts gX6_grey_X5_itemAt rfl rfl rfl hdX5_itemAt ⟨Nat.le_of_ble_eq_true rfl, Nat.le_of_ble_eq_true rfl⟩) (kX5_itemAt (l := l) (g := g) (hP.sub (ws' := wRow g (hd 0 13) (hd 0 14) ((HA 0) 11) ((HA 0) 19 0)) [27, 28] rfl) hc1) (va_recv hK hP (ci := 5) (q0 := 27) rfl rfl) rfl hl.1 rfl (Nat.le_of_ble_eq_true rfl) dX6_grey_16 ⟨Nat.zero_le _, Nat.zero_le _⟩ ?_
    have eo := (Option.some.inj hsem).symm.symm
    subst eo
    exact W.iret (v := x1) hx hb hr (fun t ht hW => ⟨⟨_, (), rfl, rfl, ⟨by rw [ht]; exact hP, hD⟩⟩, hS.F ht⟩) hS.2.2 dX6_grey_19
  · rw [if_neg c1] at hsem
    refine lv_iconst (v := (-1)) hx hb dX6_grey_4 (by decide) ?_
    refine lv_goto (tgt := 19) hx hb dX6_grey_5 (by decide) ?_
    have eo := (Option.some.inj hsem).symm.symm
    subst eo
    exact W.iret (v := (-1)) hx hb hr (fun t ht hW => ⟨⟨_, (), rfl, rfl, ⟨by rw [ht]; exact hP, hD⟩⟩, hS.F ht⟩) hS.2.2 dX6_grey_19
