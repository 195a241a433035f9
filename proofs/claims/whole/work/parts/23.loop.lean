set_option maxHeartbeats 8000000 in
set_option maxRecDepth 100000 in
theorem law_loop {Rl : ((Nat → Int32) × Int32 × Int32 × UInt32 × IA × FA × IA × Int32 × Int32 × (Nat → IA) × (Nat → FA)) → IA → FA → Prop} (h_makes : OP_makes Rl) (h_writes : OP_writes Rl) (h_takes : OP_takes Rl) (h_sets : OP_sets Rl) (h_refines : OP_refines Rl) (h_begins : OP_begins Rl) (h_steps : OP_steps Rl) (h_pauses : OP_pauses Rl) (h_undo : OP_undo Rl) (h_root : OP_root Rl) (h_thing : OP_thing Rl) (h_region : OP_region Rl) (h_remembers : OP_remembers Rl) (h_dirty : OP_dirty Rl) (h_grey : OP_grey Rl) (h_learnt : OP_learnt Rl) (h_chooses : OP_chooses Rl) (h_foretold : OP_foretold Rl) (h_would : OP_would Rl) (h_rubbish : OP_rubbish Rl) (h_way : OP_way Rl) (h_keep : OP_keep Rl) (h_back : OP_back Rl) (h_count : OP_count Rl) {p : Program} {e : Env} {s : State} {m : MethodId} {below : List Frame} {meth : Method} {c : Code} (l : Launch) {b L : Nat} {xs : Nat → Int32} (hL : L ≤ 2048) (C0 : lw_At p s m meth c b L xs) {g : GG} (hKK : KK g s) {a0 a1 a2 a0t a0i a1i : Nat} {adp adq mad : Nat → Nat} {hd : Nat → Nat → Nat} {im pf : Nat → Option Nat} (hpf : ∀ k, k < 6 → pf k = some (hd (2 + k) 0)) (him : ∀ k, k < 2 → im k = some (hd (8 + k) 0)) : ∀ (n i : Nat) (x3 : Int32), i ≤ L + 3 → L + 4 - i < n → x3 = nI i → ∀ (kf : Nat → Int32) (rgt : Int32) (yct : Int32) (fctc : UInt32) (Ap : IA) (Fpc : FA) (Ar : IA) (nxi : Int32) (kni : Int32) (HA : Nat → IA) (HFc : Nat → FA) (M : IA) (MFc : FA) (fct : UInt32) (Fp : FA) (HF : Nat → FA) (MF : FA), Rl (kf, rgt, yct, fctc, Ap, Fpc, Ar, nxi, kni, HA, HFc) M MFc → alike32 fct fctc = true → AL Fp Fpc → ALH HF HFc → AL MF MFc → ∀ (d : Drawn) (H : Heap) (locs : List Loc) (ls : Array Slot), s.drawn.sameBut d lw_cs → va_P g.1 vwCl (wTp g a0 a1 a2 a0t (adp 0) (adq 0) a0i (hd 0 0) (hd 1 0) im kf ++ (wC g a0t rgt yct fct ++ (wPa g adp Ap Fp ++ (wRe g adq Ar ++ (wHi g a0i a1i pf nxi kni ++ (wH g (hd 0) (HA 0) (HF 0) ++ (wH g (hd 1) (HA 1) (HF 1) ++ (wH g (hd 2) (HA 2) (HF 2) ++ (wH g (hd 3) (HA 3) (HF 3) ++ (wH g (hd 4) (HA 4) (HF 4) ++ (wH g (hd 5) (HA 5) (HF 5) ++ (wH g (hd 6) (HA 6) (HF 6) ++ (wH g (hd 7) (HA 7) (HF 7) ++ (wH g (hd 8) (HA 8) (HF 8) ++ (wH g (hd 9) (HA 9) (HF 9) ++ ([]))))))))))))))) ++ (wM g mad M MF ++ [])) H → va_D (fun q : Nat => s.heap.size ≤ q) (wTp g a0 a1 a2 a0t (adp 0) (adq 0) a0i (hd 0 0) (hd 1 0) im kf ++ (wC g a0t rgt yct fct ++ (wPa g adp Ap Fp ++ (wRe g adq Ar ++ (wHi g a0i a1i pf nxi kni ++ (wH g (hd 0) (HA 0) (HF 0) ++ (wH g (hd 1) (HA 1) (HF 1) ++ (wH g (hd 2) (HA 2) (HF 2) ++ (wH g (hd 3) (HA 3) (HF 3) ++ (wH g (hd 4) (HA 4) (HF 4) ++ (wH g (hd 5) (HA 5) (HF 5) ++ (wH g (hd 6) (HA 6) (HF 6) ++ (wH g (hd 7) (HA 7) (HF 7) ++ (wH g (hd 8) (HA 8) (HF 8) ++ (wH g (hd 9) (HA 9) (HF 9) ++ ([]))))))))))))))) ++ (wM g mad M MF ++ [])) → va_S (fun q : Nat => s.heap.size ≤ q) s.heap H locs → lv_has ls 4 [(0, .ref b), (1, .ref a0), (2, .ref (mad 0)), (3, .int x3)] → W p l e room_1 (s.setDrawn d) m #[Value.ref b] below meth c H locs 181 6611 (lw_Z below #[Value.ref b] s) (F0 m 18 ls []) := by
  intro n
  induction n with
  | zero => intro i x3 h1 h2; omega
  | succ n ih =>
    intro i x3 hi0 hn ex3
    obtain ⟨hx, hb, hr, hml, hown0, hts0, hX, hbl, hlocks, hgv⟩ := id C0
    have hts := fun w h => hts0 w (wsL_law_in w h)
    have hZ : ∀ q : Nat, s.heap.size ≤ q → (fun q : Nat => s.heap.size ≤ q) q := fun _ h => h
    have hbA : ¬ (fun q : Nat => s.heap.size ≤ q) b := Nat.not_le.mpr hbl
    have hown : ∀ d, (s.setDrawn d).vm.findClass RL = some m.cls := fun _ => hown0
    have hK : ∀ d, va_K g.1 vwCl (KT g) (s.setDrawn d) := fun d => (hKK.drawn d).1
    have hXd : ∀ d, va_X b L xs (s.setDrawn d) s.heap := fun d => va_X.moved (u := s) (U := s.setDrawn d) (Vm.Alike.refl s.vm) hX
    intro kf rgt yct fctc Ap Fpc Ar nxi kni HA HFc M MFc fct Fp HF MF hRl hfct hALp hALH hALM d H locs ls hdr hP hD hS hl
    refine lv_iload_n hx hb dL_law_18 rfl (lv_at hl 3 rfl) ?_
    refine lv_aload_n hx hb dL_law_19 rfl (lv_at hl 0 rfl) ?_
    refine va_slen hx hb (hXd d) hbl hbA hS dL_law_20 ?_
    refine lv_iconst (v := 4) hx hb dL_law_21 (by decide) ?_
    refine lv_isub hx hb dL_law_22 ?_
    refine lv_icmp_gt (tgt := 782) hx hb dL_law_23 (by decide) (fun c0 => ?_) (fun c0 => ?_)
    · refine lv_iconst (v := 1) hx hb dL_law_782 (by decide) ?_
      refine va_forget (fun q hq => hS.2.2 q hq) ?_
      refine W.widen (k := 600000) (n := 7302250) (Nat.le_of_ble_eq_true rfl) (Nat.le_of_ble_eq_true rfl) ?_
      exact lw_ret hdr hx hb hr hlocks dL_law_783
    · have hi : i + 4 ≤ L := law_more hL hi0 (by rw [ex3] at c0; exact c0)
      refine lv_aload_n hx hb dL_law_26 rfl (lv_at hl 0 rfl) ?_
      refine lv_iload_n hx hb dL_law_27 rfl (lv_at hl 3 rfl) ?_
      refine va_sld hx hb (hXd d) hbl hbA hS (show vp_in x3 L by rw [ex3]; exact vp_in_nI (by omega) (by omega)) dL_law_28 ?_
      refine lv_bipush (v := 31) hx hb dL_law_29 (by decide) ?_
      refine lv_iand hx hb dL_law_31 ?_
      refine lv_topi (fun w ew => ?_)
      have hnext : ∀ (kf : Nat → Int32) (rgt : Int32) (yct : Int32) (fctc : UInt32) (Ap : IA) (Fpc : FA) (Ar : IA) (nxi : Int32) (kni : Int32) (HA : Nat → IA) (HFc : Nat → FA) (M : IA) (MFc : FA) (fct : UInt32) (Fp : FA) (HF : Nat → FA) (MF : FA), Rl (kf, rgt, yct, fctc, Ap, Fpc, Ar, nxi, kni, HA, HFc) M MFc → alike32 fct fctc = true → AL Fp Fpc → ALH HF HFc → AL MF MFc → ∀ (d : Drawn) (H : Heap) (locs : List Loc) (ls : Array Slot), s.drawn.sameBut d lw_cs → va_P g.1 vwCl (wTp g a0 a1 a2 a0t (adp 0) (adq 0) a0i (hd 0 0) (hd 1 0) im kf ++ (wC g a0t rgt yct fct ++ (wPa g adp Ap Fp ++ (wRe g adq Ar ++ (wHi g a0i a1i pf nxi kni ++ (wH g (hd 0) (HA 0) (HF 0) ++ (wH g (hd 1) (HA 1) (HF 1) ++ (wH g (hd 2) (HA 2) (HF 2) ++ (wH g (hd 3) (HA 3) (HF 3) ++ (wH g (hd 4) (HA 4) (HF 4) ++ (wH g (hd 5) (HA 5) (HF 5) ++ (wH g (hd 6) (HA 6) (HF 6) ++ (wH g (hd 7) (HA 7) (HF 7) ++ (wH g (hd 8) (HA 8) (HF 8) ++ (wH g (hd 9) (HA 9) (HF 9) ++ ([]))))))))))))))) ++ (wM g mad M MF ++ [])) H → va_D (fun q : Nat => s.heap.size ≤ q) (wTp g a0 a1 a2 a0t (adp 0) (adq 0) a0i (hd 0 0) (hd 1 0) im kf ++ (wC g a0t rgt yct fct ++ (wPa g adp Ap Fp ++ (wRe g adq Ar ++ (wHi g a0i a1i pf nxi kni ++ (wH g (hd 0) (HA 0) (HF 0) ++ (wH g (hd 1) (HA 1) (HF 1) ++ (wH g (hd 2) (HA 2) (HF 2) ++ (wH g (hd 3) (HA 3) (HF 3) ++ (wH g (hd 4) (HA 4) (HF 4) ++ (wH g (hd 5) (HA 5) (HF 5) ++ (wH g (hd 6) (HA 6) (HF 6) ++ (wH g (hd 7) (HA 7) (HF 7) ++ (wH g (hd 8) (HA 8) (HF 8) ++ (wH g (hd 9) (HA 9) (HF 9) ++ ([]))))))))))))))) ++ (wM g mad M MF ++ [])) → va_S (fun q : Nat => s.heap.size ≤ q) s.heap H locs → lv_has ls 4 [(0, .ref b), (1, .ref a0), (2, .ref (mad 0)), (3, .int x3)] → W p l e room_1 (s.setDrawn d) m #[Value.ref b] below meth c H locs 181 6611 (lw_Z below #[Value.ref b] s) (F0 m 776 ls []) := by
        intro kf rgt yct fctc Ap Fpc Ar nxi kni HA HFc M MFc fct Fp HF MF hRl hfct hALp hALH hALM d H locs ls hdr hP hD hS hl
        refine lv_iinc (v := x3 + 4) (lv' := [(3, .int (x3 + 4)), (0, .ref b), (1, .ref a0), (2, .ref (mad 0))]) hx hb dL_law_776 hl (k := 3) rfl rfl (by decide) rfl (fun ls hl => ?_)
        refine lv_goto (tgt := 18) hx hb dL_law_779 (by decide) ?_
        exact ih (i + 4) (x3 + 4) (by omega) (by omega) (by rw [ex3]; exact nI_add i 4) kf rgt yct fctc Ap Fpc Ar nxi kni HA HFc M MFc fct Fp HF MF hRl hfct hALp hALH hALM d H locs ls hdr hP hD hS (lv_sub hl [1, 2, 3, 0] rfl)
      by_cases cc0 : w = 0
      · refine lv_tableIn (off := 112) (tgt := 144) hx hb dL_law_32 (by rw [cc0]; decide) (by rw [cc0]; decide) (by rw [cc0]; rfl) (by decide) ?_
        exact law_makes h_makes l hL C0 hKK hpf him ex3 hi hnext kf rgt yct fctc Ap Fpc Ar nxi kni HA HFc M MFc fct Fp HF MF hRl hfct hALp hALH hALM d H locs ls hdr hP hD hS hl
      by_cases cc1 : w = 1
      · refine lv_tableIn (off := 145) (tgt := 177) hx hb dL_law_32 (by rw [cc1]; decide) (by rw [cc1]; decide) (by rw [cc1]; rfl) (by decide) ?_
        exact law_writes h_writes l hL C0 hKK hpf him ex3 hi hnext kf rgt yct fctc Ap Fpc Ar nxi kni HA HFc M MFc fct Fp HF MF hRl hfct hALp hALH hALM d H locs ls hdr hP hD hS hl
      by_cases cc2 : w = 2
      · refine lv_tableIn (off := 188) (tgt := 220) hx hb dL_law_32 (by rw [cc2]; decide) (by rw [cc2]; decide) (by rw [cc2]; rfl) (by decide) ?_
        exact law_takes h_takes l hL C0 hKK hpf him ex3 hi hnext kf rgt yct fctc Ap Fpc Ar nxi kni HA HFc M MFc fct Fp HF MF hRl hfct hALp hALH hALM d H locs ls hdr hP hD hS hl
      by_cases cc3 : w = 3
      · refine lv_tableIn (off := 231) (tgt := 263) hx hb dL_law_32 (by rw [cc3]; decide) (by rw [cc3]; decide) (by rw [cc3]; rfl) (by decide) ?_
        exact law_sets h_sets l hL C0 hKK hpf him ex3 hi hnext kf rgt yct fctc Ap Fpc Ar nxi kni HA HFc M MFc fct Fp HF MF hRl hfct hALp hALH hALM d H locs ls hdr hP hD hS hl
      by_cases cc4 : w = 4
      · refine lv_tableIn (off := 264) (tgt := 296) hx hb dL_law_32 (by rw [cc4]; decide) (by rw [cc4]; decide) (by rw [cc4]; rfl) (by decide) ?_
        exact law_refines h_refines l hL C0 hKK hpf him ex3 hi hnext kf rgt yct fctc Ap Fpc Ar nxi kni HA HFc M MFc fct Fp HF MF hRl hfct hALp hALH hALM d H locs ls hdr hP hD hS hl
      by_cases cc5 : w = 5
      · refine lv_tableIn (off := 287) (tgt := 319) hx hb dL_law_32 (by rw [cc5]; decide) (by rw [cc5]; decide) (by rw [cc5]; rfl) (by decide) ?_
        exact law_begins h_begins l hL C0 hKK hpf him ex3 hi hnext kf rgt yct fctc Ap Fpc Ar nxi kni HA HFc M MFc fct Fp HF MF hRl hfct hALp hALH hALM d H locs ls hdr hP hD hS hl
      by_cases cc6 : w = 6
      · refine lv_tableIn (off := 300) (tgt := 332) hx hb dL_law_32 (by rw [cc6]; decide) (by rw [cc6]; decide) (by rw [cc6]; rfl) (by decide) ?_
        exact law_steps h_steps l hL C0 hKK hpf him ex3 hi hnext kf rgt yct fctc Ap Fpc Ar nxi kni HA HFc M MFc fct Fp HF MF hRl hfct hALp hALH hALM d H locs ls hdr hP hD hS hl
      by_cases cc7 : w = 7
      · refine lv_tableIn (off := 323) (tgt := 355) hx hb dL_law_32 (by rw [cc7]; decide) (by rw [cc7]; decide) (by rw [cc7]; rfl) (by decide) ?_
        exact law_pauses h_pauses l hL C0 hKK hpf him ex3 hi hnext kf rgt yct fctc Ap Fpc Ar nxi kni HA HFc M MFc fct Fp HF MF hRl hfct hALp hALH hALM d H locs ls hdr hP hD hS hl
      by_cases cc8 : w = 8
      · refine lv_tableIn (off := 346) (tgt := 378) hx hb dL_law_32 (by rw [cc8]; decide) (by rw [cc8]; decide) (by rw [cc8]; rfl) (by decide) ?_
        exact law_undo h_undo l hL C0 hKK hpf him ex3 hi hnext kf rgt yct fctc Ap Fpc Ar nxi kni HA HFc M MFc fct Fp HF MF hRl hfct hALp hALH hALM d H locs ls hdr hP hD hS hl
      by_cases cc9 : w = 9
      · refine lv_tableIn (off := 359) (tgt := 391) hx hb dL_law_32 (by rw [cc9]; decide) (by rw [cc9]; decide) (by rw [cc9]; rfl) (by decide) ?_
        exact law_root h_root l hL C0 hKK hpf him ex3 hi hnext kf rgt yct fctc Ap Fpc Ar nxi kni HA HFc M MFc fct Fp HF MF hRl hfct hALp hALH hALM d H locs ls hdr hP hD hS hl
      by_cases cc10 : w = 10
      · refine lv_tableIn (off := 382) (tgt := 414) hx hb dL_law_32 (by rw [cc10]; decide) (by rw [cc10]; decide) (by rw [cc10]; rfl) (by decide) ?_
        exact law_thing h_thing l hL C0 hKK hpf him ex3 hi hnext kf rgt yct fctc Ap Fpc Ar nxi kni HA HFc M MFc fct Fp HF MF hRl hfct hALp hALH hALM d H locs ls hdr hP hD hS hl
      by_cases cc11 : w = 11
      · refine lv_tableIn (off := 415) (tgt := 447) hx hb dL_law_32 (by rw [cc11]; decide) (by rw [cc11]; decide) (by rw [cc11]; rfl) (by decide) ?_
        exact law_region h_region l hL C0 hKK hpf him ex3 hi hnext kf rgt yct fctc Ap Fpc Ar nxi kni HA HFc M MFc fct Fp HF MF hRl hfct hALp hALH hALM d H locs ls hdr hP hD hS hl
      by_cases cc12 : w = 12
      · refine lv_tableIn (off := 448) (tgt := 480) hx hb dL_law_32 (by rw [cc12]; decide) (by rw [cc12]; decide) (by rw [cc12]; rfl) (by decide) ?_
        exact law_remembers h_remembers l hL C0 hKK hpf him ex3 hi hnext kf rgt yct fctc Ap Fpc Ar nxi kni HA HFc M MFc fct Fp HF MF hRl hfct hALp hALH hALM d H locs ls hdr hP hD hS hl
      by_cases cc13 : w = 13
      · refine lv_tableIn (off := 481) (tgt := 513) hx hb dL_law_32 (by rw [cc13]; decide) (by rw [cc13]; decide) (by rw [cc13]; rfl) (by decide) ?_
        exact law_dirty h_dirty l hL C0 hKK hpf him ex3 hi hnext kf rgt yct fctc Ap Fpc Ar nxi kni HA HFc M MFc fct Fp HF MF hRl hfct hALp hALH hALM d H locs ls hdr hP hD hS hl
      by_cases cc14 : w = 14
      · refine lv_tableIn (off := 504) (tgt := 536) hx hb dL_law_32 (by rw [cc14]; decide) (by rw [cc14]; decide) (by rw [cc14]; rfl) (by decide) ?_
        exact law_grey h_grey l hL C0 hKK hpf him ex3 hi hnext kf rgt yct fctc Ap Fpc Ar nxi kni HA HFc M MFc fct Fp HF MF hRl hfct hALp hALH hALM d H locs ls hdr hP hD hS hl
      by_cases cc15 : w = 15
      · refine lv_tableIn (off := 527) (tgt := 559) hx hb dL_law_32 (by rw [cc15]; decide) (by rw [cc15]; decide) (by rw [cc15]; rfl) (by decide) ?_
        exact law_learnt h_learnt l hL C0 hKK hpf him ex3 hi hnext kf rgt yct fctc Ap Fpc Ar nxi kni HA HFc M MFc fct Fp HF MF hRl hfct hALp hALH hALM d H locs ls hdr hP hD hS hl
      by_cases cc16 : w = 16
      · refine lv_tableIn (off := 550) (tgt := 582) hx hb dL_law_32 (by rw [cc16]; decide) (by rw [cc16]; decide) (by rw [cc16]; rfl) (by decide) ?_
        exact law_chooses h_chooses l hL C0 hKK hpf him ex3 hi hnext kf rgt yct fctc Ap Fpc Ar nxi kni HA HFc M MFc fct Fp HF MF hRl hfct hALp hALH hALM d H locs ls hdr hP hD hS hl
      by_cases cc17 : w = 17
      · refine lv_tableIn (off := 573) (tgt := 605) hx hb dL_law_32 (by rw [cc17]; decide) (by rw [cc17]; decide) (by rw [cc17]; rfl) (by decide) ?_
        exact law_foretold h_foretold l hL C0 hKK hpf him ex3 hi hnext kf rgt yct fctc Ap Fpc Ar nxi kni HA HFc M MFc fct Fp HF MF hRl hfct hALp hALH hALM d H locs ls hdr hP hD hS hl
      by_cases cc18 : w = 18
      · refine lv_tableIn (off := 596) (tgt := 628) hx hb dL_law_32 (by rw [cc18]; decide) (by rw [cc18]; decide) (by rw [cc18]; rfl) (by decide) ?_
        exact law_would h_would l hL C0 hKK hpf him ex3 hi hnext kf rgt yct fctc Ap Fpc Ar nxi kni HA HFc M MFc fct Fp HF MF hRl hfct hALp hALH hALM d H locs ls hdr hP hD hS hl
      by_cases cc19 : w = 19
      · refine lv_tableIn (off := 619) (tgt := 651) hx hb dL_law_32 (by rw [cc19]; decide) (by rw [cc19]; decide) (by rw [cc19]; rfl) (by decide) ?_
        exact law_rubbish h_rubbish l hL C0 hKK hpf him ex3 hi hnext kf rgt yct fctc Ap Fpc Ar nxi kni HA HFc M MFc fct Fp HF MF hRl hfct hALp hALH hALM d H locs ls hdr hP hD hS hl
      by_cases cc20 : w = 20
      · refine lv_tableIn (off := 642) (tgt := 674) hx hb dL_law_32 (by rw [cc20]; decide) (by rw [cc20]; decide) (by rw [cc20]; rfl) (by decide) ?_
        exact law_way h_way l hL C0 hKK hpf him ex3 hi hnext kf rgt yct fctc Ap Fpc Ar nxi kni HA HFc M MFc fct Fp HF MF hRl hfct hALp hALH hALM d H locs ls hdr hP hD hS hl
      by_cases cc21 : w = 21
      · refine lv_tableIn (off := 675) (tgt := 707) hx hb dL_law_32 (by rw [cc21]; decide) (by rw [cc21]; decide) (by rw [cc21]; rfl) (by decide) ?_
        exact law_keep h_keep l hL C0 hKK hpf him ex3 hi hnext kf rgt yct fctc Ap Fpc Ar nxi kni HA HFc M MFc fct Fp HF MF hRl hfct hALp hALH hALM d H locs ls hdr hP hD hS hl
      by_cases cc22 : w = 22
      · refine lv_tableIn (off := 698) (tgt := 730) hx hb dL_law_32 (by rw [cc22]; decide) (by rw [cc22]; decide) (by rw [cc22]; rfl) (by decide) ?_
        exact law_back h_back l hL C0 hKK hpf him ex3 hi hnext kf rgt yct fctc Ap Fpc Ar nxi kni HA HFc M MFc fct Fp HF MF hRl hfct hALp hALH hALM d H locs ls hdr hP hD hS hl
      by_cases cc23 : w = 23
      · refine lv_tableIn (off := 721) (tgt := 753) hx hb dL_law_32 (by rw [cc23]; decide) (by rw [cc23]; decide) (by rw [cc23]; rfl) (by decide) ?_
        exact law_count h_count l hL C0 hKK hpf him ex3 hi hnext kf rgt yct fctc Ap Fpc Ar nxi kni HA HFc M MFc fct Fp HF MF hRl hfct hALp hALH hALM d H locs ls hdr hP hD hS hl
      refine lv_tableOut (tgt := 776) hx hb dL_law_32 (sw_out 23 rfl (fun n hn => by
        match n, hn with
        | 0, _ => exact sw_ne cc0 rfl
        | 1, _ => exact sw_ne cc1 rfl
        | 2, _ => exact sw_ne cc2 rfl
        | 3, _ => exact sw_ne cc3 rfl
        | 4, _ => exact sw_ne cc4 rfl
        | 5, _ => exact sw_ne cc5 rfl
        | 6, _ => exact sw_ne cc6 rfl
        | 7, _ => exact sw_ne cc7 rfl
        | 8, _ => exact sw_ne cc8 rfl
        | 9, _ => exact sw_ne cc9 rfl
        | 10, _ => exact sw_ne cc10 rfl
        | 11, _ => exact sw_ne cc11 rfl
        | 12, _ => exact sw_ne cc12 rfl
        | 13, _ => exact sw_ne cc13 rfl
        | 14, _ => exact sw_ne cc14 rfl
        | 15, _ => exact sw_ne cc15 rfl
        | 16, _ => exact sw_ne cc16 rfl
        | 17, _ => exact sw_ne cc17 rfl
        | 18, _ => exact sw_ne cc18 rfl
        | 19, _ => exact sw_ne cc19 rfl
        | 20, _ => exact sw_ne cc20 rfl
        | 21, _ => exact sw_ne cc21 rfl
        | 22, _ => exact sw_ne cc22 rfl
        | 23, _ => exact sw_ne cc23 rfl
        | n + 24, h => omega)) (by decide) ?_
      exact hnext kf rgt yct fctc Ap Fpc Ar nxi kni HA HFc M MFc fct Fp HF MF hRl hfct hALp hALH hALM d H locs ls hdr hP hD hS hl
