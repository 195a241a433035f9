/-! ===== 69 what a pause would cost; a field is written ===== -/
theorem op_would : OP_would Rl := by
  intro kf rgt yct fctc Ap Fpc Ar nxi kni HA HFc M MFc p0 h
  unfold sX6_would sX7_would
  obtain ⟨hN, hH, hI⟩ := rl_open h
  rw [bd_eq]
  rcases goal_cases p0 with ⟨a, b⟩ | ⟨a, b⟩
  · rw [a, b, bind_s, bind_s, if_pos rfl, if_pos rfl]
    exact ⟨_, _, rfl, rfl, rfl, rl_sc h⟩
  · obtain ⟨B, C, eB, s, hA, hM, hInv, h14, h15⟩ := hN.like (HA 1) (HFc 1)
    obtain ⟨N, eN, f1, f2, _⟩ := copy_loop (step := sX7_would_L16) (src := 1) (dst := 9) (u := 0) (off := 0) (by decide) (sc M 0 0) (fun i N hi hN' => by
      unfold sX7_would_L16
      dsimp +instances only
      rw [if_neg (show ¬ (296 : Int32) ≤ nI i from nI_ge (b := 296) hi (by omega)), ck_nI hi (by omega), ck_nI hi (by omega), nI_clamp (by omega), nI_1, Nat.zero_add]
      rfl) (fun N => by
      unfold sX7_would_L16
      dsimp +instances only
      rw [if_pos (show (296 : Int32) ≤ nI 296 by decide)])
    have nk : ∀ q, q ≠ 0 → q ≠ 9 → N q = M q := fun q x y => by rw [f1 q y, sc_row_ne _ _ x]
    obtain ⟨F2, eF2⟩ : ∃ F2, F2 = wrF (wrF MFc 10 (Int32.toNatClampNeg 0) (MFc 2 (Int32.toNatClampNeg 0))) 10 (Int32.toNatClampNeg 1) (wrF MFc 10 (Int32.toNatClampNeg 0) (MFc 2 (Int32.toNatClampNeg 0)) 2 (Int32.toNatClampNeg 1)) := ⟨_, rfl⟩
    have g2 : ∀ k, k ≠ 10 → F2 k = MFc k := fun k hk => by rw [eF2, wrF_ne _ _ _ hk, wrF_ne _ _ _ hk]
    have g100 : F2 10 0 = MFc 2 0 := by rw [eF2, wrF_at, if_neg (by decide), wrF_at, if_pos (by decide)]; rfl
    have g101 : F2 10 1 = MFc 2 1 := by rw [eF2, wrF_at, if_pos (by decide), wrF_ne _ _ _ (by decide)]; rfl
    obtain ⟨c, s', Q', B2, Fp', Fh', K, F', r1, r2, _, _, _, _, _, r8, r9⟩ := pause_both (A := B) (M := N) hA (by rw [nk 1 (by decide) (by decide)]; exact hM) hInv (Fh := C) (F := F2) (by rw [g2 2 (by decide)]; exact h14) (by rw [g2 2 (by decide)]; exact h15) p0 Ap Fpc
    obtain ⟨L, eL, l1, l2, _⟩ := copy_loop (step := sX7_would_L73) (src := 9) (dst := 1) (u := 0) (off := 0) (by decide) K (fun i N hi hN' => by
      unfold sX7_would_L73
      dsimp +instances only
      rw [if_neg (show ¬ (296 : Int32) ≤ nI i from nI_ge (b := 296) hi (by omega)), ck_nI hi (by omega), ck_nI hi (by omega), nI_clamp (by omega), nI_1, Nat.zero_add]
      rfl) (fun N => by
      unfold sX7_would_L73
      dsimp +instances only
      rw [if_pos (show (296 : Int32) ≤ nI 296 by decide)])
    rw [a, b, bind_s, bind_s, if_neg (show ¬ (1 : Int32) = 0 by decide), if_neg (show ¬ (1 : Int32) = 0 by decide), eB, bind_s, bd_eq, bd_eq, eN, bind_s, bd_eq, bd_eq, ← eF2, show upH HA 1 (B, C).1 1 = B from rfl, show upF HFc 1 (B, C).2 1 = C from rfl, r1, r2, bind_s, bind_s, bd_eq, bd_eq]
    dsimp only
    rw [eL, bind_s, bd_eq, bd_eq]
    have lk : ∀ q, q ≠ 0 → q ≠ 1 → q ≠ 9 → q ≠ 11 → q ≠ 13 → q < 14 → L q = M q := fun q x y z u v w => by rw [l1 q y, r8 q y u v (Or.inl w), nk q x z]
    have hR : Rl (kf, rgt, yct, fctc, Q', Fp', Ar, nxi, kni, upH (upH HA 1 B) 1 B2, upF (upF HFc 1 C) 1 Fh') L (wrF (wrF F' 2 (Int32.toNatClampNeg 0) (F' 10 (Int32.toNatClampNeg 0))) 2 (Int32.toNatClampNeg 1) (wrF F' 2 (Int32.toNatClampNeg 0) (F' 10 (Int32.toNatClampNeg 0)) 10 (Int32.toNatClampNeg 1))) := by
      refine ⟨?_, hist_same hH (fun q h1 _ => ⟨by show upH (upH HA 1 B) 1 B2 q = _; rw [upH_at, if_neg (by omega), upH_at, if_neg (by omega)], by show upF (upF HFc 1 C) 1 Fh' q = _; rw [upF_at, if_neg (by omega), upF_at, if_neg (by omega)]⟩) (lk 3 (by decide) (by decide) (by decide) (by decide) (by decide) (by decide)) (lk 5 (by decide) (by decide) (by decide) (by decide) (by decide) (by decide)) (by rw [wrF_ne _ _ _ (by decide), wrF_ne _ _ _ (by decide), r9 4 (by decide) (by decide), g2 4 (by decide)]), img_same hI (fun q h1 _ => ⟨by show upH (upH HA 1 B) 1 B2 q = _; rw [upH_at, if_neg (by omega), upH_at, if_neg (by omega)], by show upF (upF HFc 1 C) 1 Fh' q = _; rw [upF_at, if_neg (by omega), upF_at, if_neg (by omega)]⟩) (lk 6 (by decide) (by decide) (by decide) (by decide) (by decide) (by decide)) (lk 8 (by decide) (by decide) (by decide) (by decide) (by decide) (by decide)) (by rw [wrF_ne _ _ _ (by decide), wrF_ne _ _ _ (by decide), r9 7 (by decide) (by decide), g2 7 (by decide)])⟩
      show Cq (HA 0) (HFc 0) (L 1) (wrF (wrF F' 2 0 (F' 10 0)) 2 1 (wrF F' 2 0 (F' 10 0) 10 1) 2 0) (wrF (wrF F' 2 0 (F' 10 0)) 2 1 (wrF F' 2 0 (F' 10 0) 10 1) 2 1)
      rw [wrF_at, if_neg (by decide), wrF_at, if_pos rfl, wrF_at, if_pos rfl, wrF_ne _ _ _ (show 10 ≠ 2 by decide), r9 10 (by decide) (by decide), g100, g101]
      refine hN.copy (fun i hi => ?_)
      have h1 := l2 i hi
      have h2 := f2 i hi
      rw [Nat.zero_add] at h1 h2
      rw [h1, r8 9 (by decide) (by decide) (by decide) (by decide), h2, sc_row_ne _ _ (by decide)]
    exact ⟨_, _, rfl, rfl, rfl, hR⟩
/-! a field is written -/
def wt (t : Nat) (v : Int32) (s : HS) : Int32 × HS := if v = -5 then (0, s) else if s.1 5 v.toNatClampNeg = s.1 5 t then (0, s) else if s.1 0 (pP s.1 t) = 1 then (0, s) else (if nI (cdo s.1 t) ∈ s.2.1 then 0 else 1, (s.1, addD (cdo s.1 t) s.2.1, s.2.2))
theorem c_wt {A : IA} {s : HS} (h : CR A s) (w : Wf s) {t : Nat} (ht : t < 32) {v : Int32} (hv : Nl v) : ∃ B, (if v = (-5) then (some ((0 : Int32), A)) else (ck v 32 (ck (nI t) 32 (if ((A 5) v.toNatClampNeg) = ((A 5) (nI t).toNatClampNeg) then (some (0, A)) else (ck (nI t) 32 (ck ((A 5) (nI t).toNatClampNeg) 10 (if ((A 0) ((A 5) (nI t).toNatClampNeg).toNatClampNeg) = 1 then (some (0, A)) else ((sX1_cardOfThing A (nI t)).bind fun x2 => (sX5_append (A 10) (A 18 0) x2).bind fun z1 => bd (sc (setR A 10 z1.2.1) 18 z1.2.2) fun A2 => ckb z1.1 (some (z1.1, A2)))))))))) = some ((wt t v s).1, B) ∧ CR B (wt t v s).2 := by
  unfold wt
  by_cases h5 : v = -5
  · rw [if_pos h5, if_pos h5]; exact ⟨A, rfl, h⟩
  · obtain ⟨u, hu, rfl⟩ := hv.resolve_left h5
    have hp := w.pl ht
    have hcu : (nI u).toNatClampNeg = u := nI_clamp (by omega)
    have hct : (nI t).toNatClampNeg = t := nI_clamp (by omega)
    rw [if_neg h5, if_neg h5, ck_nI hu (by omega), ck_nI ht (by omega), hcu, hct, h.1 5 u (w_th hu (by omega) (by omega) (by omega)), h.1 5 t (w_th ht (by omega) (by omega) (by omega)), ck_nI ht (by omega), hp.1, ck_nI hp.2 (by omega), nI_clamp (by have := hp.2; omega), h.1 0 _ (w_rg hp.2 (by omega)), c_card h w ht, bind_s]
    by_cases h1 : s.1 5 u = nI (pP s.1 t)
    · rw [if_pos h1, if_pos h1]; exact ⟨A, rfl, h⟩
    · rw [if_neg h1, if_neg h1]
      by_cases h2 : s.1 0 (pP s.1 t) = 1
      · rw [if_pos h2, if_pos h2]; exact ⟨A, rfl, h⟩
      · rw [if_neg h2, if_neg h2]
        obtain ⟨z, ez, hz, e0⟩ := c_app h w (cdo_lt w ht)
        rw [ez, bind_s, bd_eq, e0, ckb_ite0]
        exact ⟨_, rfl, hz⟩
theorem m_wt {M : IA} {s : HS} (h : MR (M 1) s) (w : Wf s) {t : Nat} (ht : t < 32) {v : Int32} (hv : Nl v) (G : FA) : ∃ N, (if v = (-5) then (some ((0 : Int32), M, G)) else ((sX7_ofThing M v 1).bind fun x6 => (sX7_ofThing M (nI t) 1).bind fun x7 => if x6 = x7 then (some (0, M, G)) else ((sX7_kindOf M (nI t)).bind fun x8 => if x8 = 1 then (some (0, M, G)) else ((sX7_cardOf M (nI t)).bind fun x9 => (sX7_isDirty M x9).bind fun x10 => if x10 = 0 then ((sX7_cardOf M (nI t)).bind fun x11 => (sX7_becomesDirty M x11).bind fun z2 => some (1, z2, G)) else (some (0, M, G)))))) = some ((wt t v s).1, N, G) ∧ MR (N 1) (wt t v s).2 ∧ Fr M N := by
  unfold wt
  by_cases h5 : v = -5
  · rw [if_pos h5, if_pos h5]; exact ⟨M, rfl, h, Fr.refl M⟩
  · obtain ⟨u, hu, rfl⟩ := hv.resolve_left h5
    have hp := w.pl ht
    have hcu : (nI u).toNatClampNeg = u := nI_clamp (by omega)
    unfold sX7_kindOf
    rw [if_neg h5, if_neg h5, m_pl h hu, bind_s, m_pl h ht, bind_s, bind_s, hcu, hp.1, m_kd h hp.2, bind_s, bind_s, m_card h w ht, bind_s, bind_s, isDirty_spec h.2.1.1 h.2.1.2, bind_s, ite10]
    by_cases h1 : s.1 5 u = nI (pP s.1 t)
    · rw [if_pos h1, if_pos h1]; exact ⟨M, rfl, h, Fr.refl M⟩
    · rw [if_neg h1, if_neg h1]
      by_cases h2 : s.1 0 (pP s.1 t) = 1
      · rw [if_pos h2, if_pos h2]; exact ⟨M, rfl, h, Fr.refl M⟩
      · rw [if_neg h2, if_neg h2]
        obtain ⟨N, eN, hN, fN⟩ := m_app h w (cdo_lt w ht)
        by_cases hm : nI (cdo s.1 t) ∈ s.2.1
        · rw [if_pos hm, if_pos hm, show addD (cdo s.1 t) s.2.1 = s.2.1 from by unfold addD; rw [if_pos hm]]
          exact ⟨M, rfl, h, Fr.refl M⟩
        · rw [if_neg hm, if_neg hm, eN, bind_s]
          exact ⟨N, rfl, hN, fN⟩
theorem wt_s (t : Nat) (v : Int32) (s : HS) : (wt t v s).2.1 = s.1 ∧ (wt t v s).2.2.2 = s.2.2 ∧ (∀ x, x ∈ s.2.1 → x ∈ (wt t v s).2.2.1) := by
  unfold wt
  split
  · exact ⟨rfl, rfl, fun _ q => q⟩
  · split
    · exact ⟨rfl, rfl, fun _ q => q⟩
    · split
      · exact ⟨rfl, rfl, fun _ q => q⟩
      · exact ⟨rfl, rfl, fun _ q => mem_addD.mpr (Or.inl q)⟩
theorem wf_wt {s : HS} (w : Wf s) {t : Nat} (ht : t < 32) {v : Int32} : Wf (wt t v s).2 := by
  unfold wt
  split
  · exact w
  · split
    · exact w
    · split
      · exact w
      · exact wf_addD w (cdo_lt w ht)
theorem wt_card {t : Nat} {v : Int32} {s : HS} (h5 : v ≠ -5) (hx : s.1 5 v.toNatClampNeg ≠ s.1 5 t) (hk : s.1 0 (pP s.1 t) ≠ 1) : nI (cdo s.1 t) ∈ (wt t v s).2.2.1 := by
  unfold wt
  rw [if_neg h5, if_neg hx, if_neg hk]
  exact mem_addD.mpr (Or.inr rfl)
def wg (t f : Nat) (s : HS) : HS := if s.1 12 0 = 0 then s else gr (s.1 7 (2 * t + f)) s
def wf7 (t f : Nat) (v : Int32) (s : HS) : HS := (wr (wg t f s).1 7 (2 * t + f) v, (wg t f s).2)
theorem inv_write {s : HS} (h : Inv s) {t f : Nat} (ht : t < 32) (hf : f < 2) {v : Int32} (hv : v = -5 ∨ (Rg 32 v ∧ lv s.1 v.toNatClampNeg)) (hk : s.1 12 0 = 1 → v = -5 ∨ s.1 8 v.toNatClampNeg = 2 ∨ Kr s v.toNatClampNeg) : Wf (wf7 t f v s) ∧ Inv (wt t v (wf7 t f v s)).2 := by
  obtain ⟨hSt, hR, hB⟩ := h
  have hi64 : 2 * t + f < 64 := by omega
  have n0 := hSt.1.2.1 (2 * t + f) hi64
  have l0 := hSt.2.2.2.2.1.1 (2 * t + f) hi64
  have Ig : I1 (wg t f s) := by
    unfold wg
    split
    · exact st_i1 hSt hR
    · exact i1_gr (st_i1 hSt hR) n0 l0
  have gR : ∀ k, k ≠ 8 → (wg t f s).1 k = s.1 k := fun k hk => by
    unfold wg
    split
    · rfl
    · exact gr_row _ _ hk
  have gD : (wg t f s).2.1 = s.2.1 := by
    unfold wg
    split
    · rfl
    · exact gr_D _ _
  have gG : ∀ x, x ∈ s.2.2 → x ∈ (wg t f s).2.2 := fun x hx => by
    unfold wg
    split
    · exact hx
    · exact gr_G hx
  have gcol : ∀ u, u < 32 → (wg t f s).1 8 u = s.1 8 u ∨ (s.1 8 u = 0 ∧ (wg t f s).1 8 u = 1 ∧ nI u ∈ (wg t f s).2.2) := fun u hu => by
    unfold wg
    split
    · exact Or.inl rfl
    · exact gr_col n0 hu
  have gnew : s.1 12 0 = 1 → ∀ u, u < 32 → s.1 7 (2 * t + f) = nI u → s.1 8 u = 0 → nI u ∈ (wg t f s).2.2 := fun hm u hu e7 h0 => by
    unfold wg
    rw [if_neg (by rw [hm]; decide), e7]
    exact gry_new (fun q => nI_pos (n := u) (by omega) (by rw [q]; decide)) (by rw [nI_clamp (by omega)]; exact h0)
  have gmk : s.1 12 0 = 0 → (wg t f s).2.2 = s.2.2 := fun hm => by unfold wg; rw [if_pos hm]
  have hwf : wf7 t f v s = (wr (wg t f s).1 7 (2 * t + f) v, (wg t f s).2) := rfl
  generalize wg t f s = g at Ig gR gD gG gcol gnew gmk hwf
  rw [hwf]
  obtain ⟨w, hT, hL, hU, hV, hRg⟩ := Ig
  have h7 : ∀ i, wr g.1 7 (2 * t + f) v 7 i = if i = 2 * t + f then v else g.1 7 i := fun i => by
    rw [wr_at]
    by_cases e : i = 2 * t + f
    · rw [if_pos ⟨rfl, e⟩, if_pos e]
    · rw [if_neg (fun z => e z.2), if_neg e]
  have hvl : v = -5 ∨ lv g.1 v.toNatClampNeg := hv.elim Or.inl (fun z => Or.inr (by unfold lv at *; rw [gR 4 (by decide)]; exact z.2))
  have wq : Wf (wr g.1 7 (2 * t + f) v, g.2) := ⟨w.1, fun i hi => by
    show Nl (wr g.1 7 (2 * t + f) v 7 i)
    rw [h7]
    split
    · exact hv.elim Or.inl (fun z => Or.inr z.1)
    · exact w.2.1 i hi, w.2.2⟩
  refine ⟨wq, ?_⟩
  have hS := wt_s t v (wr g.1 7 (2 * t + f) v, g.2)
  have hW := wf_wt (t := t) (v := v) wq ht
  have hC : v ≠ -5 → g.1 5 v.toNatClampNeg ≠ g.1 5 t → g.1 0 (pP g.1 t) ≠ 1 → nI (cdo g.1 t) ∈ (wt t v (wr g.1 7 (2 * t + f) v, g.2)).2.2.1 := fun a b c => wt_card (s := (wr g.1 7 (2 * t + f) v, g.2)) a b c
  generalize (wt t v (wr g.1 7 (2 * t + f) v, g.2)).2 = e at hS hW hC
  obtain ⟨e1, eG, eD⟩ := hS
  have er : ∀ k, k ≠ 7 → e.1 k = g.1 k := fun k hk => by rw [e1]; exact wr_row_ne _ _ _ hk
  have e7 : ∀ i, e.1 7 i = if i = 2 * t + f then v else g.1 7 i := fun i => by rw [e1]; exact h7 i
  have eG2 : e.2.2 = g.2.2 := eG
  have s7 : ∀ i, g.1 7 i = s.1 7 i := fun i => by rw [gR 7 (by decide)]
  have es : ∀ k, k ≠ 7 → k ≠ 8 → e.1 k = s.1 k := fun k a b => by rw [er k a, gR k b]
  refine ⟨⟨hW, ?_, ?_, ?_, ⟨fun i hi => ?_, ?_, ?_⟩, ?_, ?_⟩, ?_, ?_⟩
  · unfold Tops
    rw [er 0 (by decide), er 1 (by decide), er 2 (by decide), er 3 (by decide)]; exact hT
  · unfold Lies lv tp zn pP pC
    rw [er 0 (by decide), er 1 (by decide), er 4 (by decide), er 5 (by decide), er 6 (by decide)]; exact hL
  · unfold Uq
    rw [er 4 (by decide), er 5 (by decide), er 6 (by decide)]; exact hU
  · unfold lv
    rw [e7, er 4 (by decide)]
    split
    · exact hvl
    · exact hV.1 i hi
  · unfold lv
    rw [er 9 (by decide), er 4 (by decide)]; exact hV.2.1
  · unfold lv
    rw [eG2, er 4 (by decide)]; exact hV.2.2
  · unfold Mk
    rw [es 12 (by decide) (by decide), eG2]
    rcases hSt.2.2.2.2.2.1 with q | q
    · exact Or.inl ⟨q.1, by rw [gmk q.1]; exact q.2⟩
    · refine Or.inr ⟨q.1, fun z => ?_⟩
      cases hx : s.2.2 with
      | nil => exact q.2 hx
      | cons x L =>
        have := gG x (by rw [hx]; exact List.mem_cons_self)
        rw [z] at this
        exact List.not_mem_nil this
  · unfold Ly
    rw [es 13 (by decide) (by decide), es 0 (by decide) (by decide)]; exact hSt.2.2.2.2.2.2
  · intro u hu hl hku f' hf' h5 hx
    have hlg : lv g.1 u := by unfold lv at hl ⊢; rw [er 4 (by decide)] at hl; exact hl
    have ep : ∀ y, pP e.1 y = pP g.1 y := fun y => by unfold pP; rw [er 5 (by decide)]
    have ecd : cdo e.1 u = cdo g.1 u := by unfold cdo pP pC; rw [er 5 (by decide), er 6 (by decide)]
    rw [ep, er 0 (by decide)] at hku
    rw [er 5 (by decide)] at hx
    rw [ecd, ep, er 3 (by decide)]
    rw [e7] at h5 hx ⊢
    by_cases q : 2 * u + f' = 2 * t + f
    · rw [if_pos q] at h5 hx
      have : u = t := by omega
      subst this
      exact Or.inl (hC h5 hx hku)
    · rw [if_neg q] at h5 hx ⊢
      rcases hRg u hu hlg hku f' hf' h5 hx with z | z
      · exact Or.inl (eD _ z)
      · exact Or.inr z
  · intro hm
    rw [es 12 (by decide) (by decide)] at hm
    obtain ⟨b1, b2, b3⟩ := hB hm
    have kr : ∀ y, Kr s y → Kr e y := by
      intro y hy
      refine hy (fun y => Kr e y) (fun a ha hG => Kr.grey ha (by rw [eG2]; exact gG _ hG)) (fun a b f' ha hb' hf' hk' e7' h0 => ?_)
      by_cases q : 2 * a + f' = 2 * t + f
      · refine Kr.grey hb' ?_
        rw [eG2]
        exact gnew hm b hb' (by rw [← q]; exact e7') h0
      · rcases gcol b hb' with z | z
        · exact Kr.step ha hb' hf' hk' (by rw [e7, if_neg q, s7]; exact e7') (by rw [er 8 (by decide), z]; exact h0)
        · exact Kr.grey hb' (by rw [eG2]; exact z.2.2)
    have two : ∀ u, u < 32 → s.1 8 u = 2 → e.1 8 u = 2 := fun u hu h2 => by
      rw [er 8 (by decide)]
      rcases gcol u hu with z | z
      · rw [z]; exact h2
      · rw [h2] at z; exact absurd z.1 (by decide)
    have good : ∀ y, Nl y → (y = -5 ∨ s.1 8 y.toNatClampNeg = 2 ∨ Kr s y.toNatClampNeg) → y = -5 ∨ e.1 8 y.toNatClampNeg = 2 ∨ Kr e y.toNatClampNeg := by
      intro y hn hy
      by_cases h5 : y = -5
      · exact Or.inl h5
      · obtain ⟨u, hu, eu, ec⟩ := nl_cl hn h5
        rw [ec] at hy ⊢
        rcases hy.resolve_left h5 with z | z
        · exact Or.inr (Or.inl (two u hu z))
        · exact Or.inr (Or.inr (kr u z))
    refine ⟨fun r hr => ?_, fun u hu hl h2 f' hf' => ?_, fun u hu h1 => ?_⟩
    · rw [es 9 (by decide) (by decide)]
      exact good _ (hSt.1.2.2.1 r hr) (b1 r hr)
    · rw [e7]
      split
      · exact good v (hv.elim Or.inl (fun z => Or.inr z.1)) (hk hm)
      · rw [s7]
        have hls : lv s.1 u := by unfold lv at hl ⊢; rw [es 4 (by decide) (by decide)] at hl; exact hl
        have h2s : s.1 8 u = 2 := by
          rw [er 8 (by decide)] at h2
          rcases gcol u hu with z | z
          · rw [← z]; exact h2
          · rw [z.2.1] at h2; exact absurd h2 (by decide)
        exact good _ (hSt.1.2.1 (2 * u + f') (by omega)) (b2 u hu hls h2s f' hf')
    · rw [er 8 (by decide)] at h1
      rw [eG2]
      rcases gcol u hu with z | z
      · rw [z] at h1; exact gG _ (b3 u hu h1)
      · exact z.2.2
