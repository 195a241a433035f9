/-! ===== 66 calls that change the heap: roots, cards, marking ===== -/
theorem rl_put {kf : Nat → Int32} {rgt yct : Int32} {fctc : UInt32} {Ap : IA} {Fpc : FA} {Ar : IA} {nx kn : Int32} {HA : Nat → IA} {HF : Nat → FA} {M N : IA} {MF : FA} {B : IA} (hH : Hist nx kn HA HF M MF) (hI : Img kf HA HF M MF) (hc : Cq B (HF 0) (N 1) (MF 2 0) (MF 2 1)) (h3 : N 3 = M 3) (h5 : N 5 = M 5) (h6 : N 6 = M 6) (h8 : N 8 = M 8) : Rl (kf, rgt, yct, fctc, Ap, Fpc, Ar, nx, kn, upH HA 0 B, HF) N MF := by
  refine ⟨?_, hist_same hH (fun k h1 _ => ⟨by show upH HA 0 B k = HA k; rw [upH_at, if_neg (by omega)], rfl⟩) h3 h5 rfl, img_same hI (fun k h1 _ => ⟨by show upH HA 0 B k = HA k; rw [upH_at, if_neg (by omega)], rfl⟩) h6 h8 rfl⟩
  show Cq (upH HA 0 B 0) (HF 0) (N 1) (MF 2 0) (MF 2 1)
  rw [upH_at, if_pos rfl]; exact hc
theorem inv_root {s : HS} (h : Inv s) {r : Nat} {v : Int32} (hv : v = -5 ∨ (Rg 32 v ∧ lv s.1 v.toNatClampNeg)) (hk : s.1 12 0 = 1 → v = -5 ∨ s.1 8 v.toNatClampNeg = 2 ∨ Kr s v.toNatClampNeg) : Inv (wr s.1 9 r v, s.2) := by
  obtain ⟨⟨w, hT, hL, hU, hV, hM, hY⟩, hR, hB⟩ := h
  have h9 : ∀ q, wr s.1 9 r v 9 q = if q = r then v else s.1 9 q := fun q => by
    rw [wr_at]
    by_cases e : q = r
    · rw [if_pos ⟨rfl, e⟩, if_pos e]
    · rw [if_neg (fun z => e z.2), if_neg e]
  refine ⟨⟨⟨w.1, w.2.1, fun q hq => ?_, w.2.2.2⟩, hT, hL, hU, ⟨hV.1, fun q hq => ?_, hV.2.2⟩, hM, hY⟩, hR, fun hm => ?_⟩
  · show Nl (wr s.1 9 r v 9 q)
    rw [h9]
    split
    · exact hv.elim Or.inl (fun z => Or.inr z.1)
    · exact w.2.2.1 q hq
  · show wr s.1 9 r v 9 q = -5 ∨ lv s.1 (wr s.1 9 r v 9 q).toNatClampNeg
    rw [h9]
    split
    · exact hv.elim Or.inl (fun z => Or.inr z.2)
    · exact hV.2.1 q hq
  · obtain ⟨b1, b2, b3⟩ := hB hm
    refine ⟨fun q hq => ?_, b2, b3⟩
    show wr s.1 9 r v 9 q = -5 ∨ s.1 8 (wr s.1 9 r v 9 q).toNatClampNeg = 2 ∨ Kr s (wr s.1 9 r v 9 q).toNatClampNeg
    rw [h9]
    split
    · exact hk hm
    · exact b1 q hq
theorem ofRoot_cases {A : IA} {s : HS} (h : CR A s) (p : Int32) : (sX7_in p (-1) 5 = some 0 ∧ sX6_isRootOrNil p = some 0) ∨ (sX7_in p (-1) 5 = some 1 ∧ sX6_isRootOrNil p = some 1 ∧ ((¬ 0 ≤ p ∧ sX1_ofRoot A p = some (-5)) ∨ ∃ n, n < 6 ∧ 0 ≤ p ∧ p = nI n ∧ sX1_ofRoot A p = some (s.1 9 n))) := by
  unfold sX6_isRootOrNil sX6_within sX7_in sX1_ofRoot
  by_cases h1 : p < -1
  · left; rw [if_pos h1]; exact ⟨rfl, rfl⟩
  · rw [if_neg h1]
    by_cases h2 : 5 < p
    · left; rw [if_pos h2]; exact ⟨rfl, rfl⟩
    · right
      rw [if_neg h2]
      refine ⟨rfl, rfl, ?_⟩
      by_cases h0 : 0 ≤ p
      · right
        obtain ⟨n, hn, rfl⟩ := nI_of (x := p) (fun q => le_of.mp h0 q)
        have : ¬ nI 5 < nI n := h2
        rw [nI_ltI (by omega) (by omega)] at this
        rw [if_pos h0, ck_nI (by omega) (by omega), nI_clamp (by omega), h.1 9 n (w_rt (by omega))]
        exact ⟨n, by omega, h0, rfl, rfl⟩
      · left
        rw [if_neg h0]
        exact ⟨h0, rfl⟩
theorem sb_root {s : HS} (h : Inv s) {q : Nat} (hq : q < 6) : s.1 12 0 = 1 → s.1 9 q = -5 ∨ s.1 8 (s.1 9 q).toNatClampNeg = 2 ∨ Kr s (s.1 9 q).toNatClampNeg := fun hm => (h.2.2 hm).1 q hq
theorem op_sets : OP_sets Rl := by
  intro kf rgt yct fctc Ap Fpc Ar nxi kni HA HFc M MFc p0 p1 h
  unfold sX6_sets sX7_sets
  obtain ⟨hN, hH, hI⟩ := rl_open h
  obtain ⟨s, hA, hM, hInv, h14, h15⟩ := id hN
  rw [bd_eq]
  rcases root_cases p0 with ⟨a, b⟩ | ⟨r, hr, rfl, a, b⟩
  · rw [a, b, bind_s, bind_s, if_pos rfl, if_pos rfl]
    exact ⟨_, _, rfl, rfl, rfl, rl_sc h⟩
  · rw [a, b, bind_s, bind_s, if_neg (show ¬ (1 : Int32) = 0 by decide), if_neg (show ¬ (1 : Int32) = 0 by decide)]
    obtain ⟨nx', kn', HA', HF', N, G, e1, e2, ha, hf, n1, g2, hH', hI'⟩ := push_both hN hH hI (sc M 0 0) (sc0 M)
    have hA' : CR (HA' 0) s := by rw [ha]; exact hA
    have hM' : MR (N 1) s := by rw [n1]; exact hM
    have done : ∀ v, (v = -5 ∨ (Rg 32 v ∧ lv s.1 v.toNatClampNeg)) → (s.1 12 0 = 1 → v = -5 ∨ s.1 8 v.toNatClampNeg = 2 ∨ Kr s v.toNatClampNeg) → Rl (kf, rgt, yct, fctc, Ap, Fpc, Ar, nx', kn', upH HA' 0 (wr (HA' 0) 9 r v), HF') (wr N 1 (192 + r) v) G := fun v hv hk =>
      rl_put hH' hI' ⟨(wr s.1 9 r v, s.2), cr_wr hA' (w_rt hr) v, mr_wr hM' (k := 9) (w_rt hr) rfl v, inv_root hInv hv hk, by rw [hf, g2]; exact h14, by rw [hf, g2]; exact h15⟩ (wr_row_ne _ _ _ (by decide)) (wr_row_ne _ _ _ (by decide)) (wr_row_ne _ _ _ (by decide)) (wr_row_ne _ _ _ (by decide))
    rcases ofRoot_cases hA' p1 with ⟨c, d⟩ | ⟨c, d, hc⟩
    · rw [c, d, bind_s, bind_s, if_pos rfl, if_pos rfl]
      exact ⟨_, _, rfl, rfl, rfl, rl_sc h⟩
    · rw [c, d, bind_s, bind_s, if_neg (show ¬ (1 : Int32) = 0 by decide), if_neg (show ¬ (1 : Int32) = 0 by decide), e1, e2, bind_s, bind_s]
      dsimp only
      rw [ck_nI hr (by omega), nI_clamp (by omega), bd_eq, show (192 : Int32) + nI r = nI (192 + r) from nI_add 192 r, ck_nI (by omega) (by omega), nI_clamp (by omega), bd_eq, hA'.1 9 r (w_rt hr), m_root hM' hr]
      rcases hc with ⟨h0, e⟩ | ⟨n, hn, h0, rfl, e⟩
      · rw [e, bind_s, ck_nI hr (by omega), bd_eq, if_neg h0, ck_nI (show 192 + r < 296 by omega) (by omega), bd_eq]
        exact ⟨_, _, rfl, rfl, rfl, done (-5) (Or.inl rfl) (fun _ => Or.inl rfl)⟩
      · rw [e, bind_s, ck_nI hr (by omega), bd_eq, if_pos h0, show (192 : Int32) + nI n = nI (192 + n) from nI_add 192 n, ck_nI (by omega) (by omega), nI_clamp (by omega), m_root hM' hn, ck_nI (show 192 + r < 296 by omega) (by omega), bd_eq]
        exact ⟨_, _, rfl, rfl, rfl, done (s.1 9 n) (st_root hInv.1 hn) (sb_root hInv hn)⟩
theorem sb_field {s : HS} (h : Inv s) {q f : Nat} (hq : q < 6) (hf : f < 2) {t : Nat} (ht : t < 32) (et : s.1 9 q = nI t) : s.1 12 0 = 1 → s.1 7 (2 * t + f) = -5 ∨ s.1 8 (s.1 7 (2 * t + f)).toNatClampNeg = 2 ∨ Kr s (s.1 7 (2 * t + f)).toNatClampNeg := fun hm => by
  obtain ⟨b1, b2, b3⟩ := h.2.2 hm
  by_cases h5 : s.1 7 (2 * t + f) = -5
  · exact Or.inl h5
  · obtain ⟨u, hu, eu, ec⟩ := nl_cl (h.1.1.2.1 (2 * t + f) (by omega)) h5
    have hc : (s.1 9 q).toNatClampNeg = t := by rw [et, nI_clamp (by omega)]
    have h9 : s.1 9 q ≠ -5 := fun z => nI_pos (n := t) (by omega) (by rw [← et, z]; decide)
    have hl : lv s.1 t := by have := (h.1.2.2.2.2.1.2.1 q hq).resolve_left h9; rw [hc] at this; exact this
    rcases (b1 q hq).resolve_left h9 with z | z
    · rw [hc] at z
      exact b2 t ht hl z f hf
    · rw [hc] at z
      right
      rw [ec]
      obtain ⟨j, hj, ej⟩ := (h.1.1.1 u hu).2.2.2
      rcases (show j = 0 ∨ j = 1 ∨ j = 2 by omega) with q0 | q0 | q0
      · subst q0; exact Or.inr (Kr.step ht hu hf z eu ej)
      · subst q0; exact Or.inr (Kr.grey hu (b3 u hu ej))
      · subst q0; exact Or.inl ej
theorem op_takes : OP_takes Rl := by
  intro kf rgt yct fctc Ap Fpc Ar nxi kni HA HFc M MFc p0 p1 p2 h
  unfold sX6_takes sX7_takes
  obtain ⟨hN, hH, hI⟩ := rl_open h
  obtain ⟨s, hA, hM, hInv, h14, h15⟩ := id hN
  have hM1 : MR ((sc M 0 0) 1) s := by rw [sc0 M 1 (by decide)]; exact hM
  rw [bd_eq]
  rcases root_cases p0 with ⟨a, b⟩ | ⟨r, hr, rfl, a, b⟩
  · rw [a, b, bind_s, bind_s, if_pos rfl, if_pos rfl]
    exact ⟨_, _, rfl, rfl, rfl, rl_sc h⟩
  · rw [a, b, bind_s, bind_s, if_neg (show ¬ (1 : Int32) = 0 by decide), if_neg (show ¬ (1 : Int32) = 0 by decide)]
    rcases root_cases p1 with ⟨c, d⟩ | ⟨q, hq, rfl, c, d⟩
    · rw [c, d, bind_s, bind_s, if_pos rfl, if_pos rfl]
      exact ⟨_, _, rfl, rfl, rfl, rl_sc h⟩
    · rw [c, d, bind_s, bind_s, if_neg (show ¬ (1 : Int32) = 0 by decide), if_neg (show ¬ (1 : Int32) = 0 by decide)]
      rcases in_cases p2 0 1 (by omega) (by omega) with ⟨c', d'⟩ | ⟨f, h1, h2, rfl, c', d'⟩
      · rw [show sX7_in p2 0 1 = some 0 from c', show sX6_within p2 0 1 = some 0 from d', bind_s, bind_s, if_pos rfl, if_pos rfl]
        exact ⟨_, _, rfl, rfl, rfl, rl_sc h⟩
      · have hf2 : f < 2 := by omega
        obtain ⟨nx', kn', HA', HF', N, G, e1, e2, ha, hf, n1, g2, hH', hI'⟩ := push_both hN hH hI (sc M 0 0) (sc0 M)
        have hA' : CR (HA' 0) s := by rw [ha]; exact hA
        have hM' : MR (N 1) s := by rw [n1]; exact hM
        rw [show sX7_in (nI f) 0 1 = some 1 from c', show sX6_within (nI f) 0 1 = some 1 from d', bind_s, bind_s, if_neg (show ¬ (1 : Int32) = 0 by decide), if_neg (show ¬ (1 : Int32) = 0 by decide), ck_nI hq (by omega), nI_clamp (by omega), hA.1 9 q (w_rt hq), show (192 : Int32) + nI q = nI (192 + q) from nI_add 192 q, ck_nI (by omega) (by omega), nI_clamp (show 192 + q < 2 ^ 31 by omega), bd_eq, m_root hM1 hq]
        by_cases h5 : s.1 9 q = -5
        · rw [if_pos h5, if_pos h5]
          exact ⟨_, _, rfl, rfl, rfl, rl_sc h⟩
        · obtain ⟨t, ht, et, ec⟩ := nl_cl (hInv.1.1.2.2.1 q hq) h5
          have hl : ¬ s.1 4 t ≤ 0 := by have := (hInv.1.2.2.2.2.1.2.1 q hq).resolve_left h5; rw [ec] at this; exact this
          rw [if_neg h5, if_neg h5, e1, e2, bind_s, bind_s]
          dsimp only
          rw [ck_nI hq (by omega), hA'.1 9 q (w_rt hq), et, c_fd hA' ht hf2, bind_s, ck_nI hr (by omega), nI_clamp (show r < 2 ^ 31 by omega), bd_eq, ck_nI hr (by omega), m_fd hM' ht hf2 hl, bind_s, show (192 : Int32) + nI r = nI (192 + r) from nI_add 192 r, ck_nI (by omega) (by omega), nI_clamp (show 192 + r < 2 ^ 31 by omega), bd_eq, ck_nI (show 192 + r < 296 by omega) (by omega)]
          have hR : Rl (kf, rgt, yct, fctc, Ap, Fpc, Ar, nx', kn', upH HA' 0 (wr (HA' 0) 9 r (s.1 7 (2 * t + f))), HF') (wr N 1 (192 + r) (s.1 7 (2 * t + f))) G := rl_put hH' hI' ⟨(wr s.1 9 r (s.1 7 (2 * t + f)), s.2), cr_wr hA' (w_rt hr) _, mr_wr hM' (k := 9) (w_rt hr) rfl _, inv_root hInv (st_field hInv.1 (by omega)) (sb_field hInv hq hf2 ht et), by rw [hf, g2]; exact h14, by rw [hf, g2]; exact h15⟩ (wr_row_ne _ _ _ (by decide)) (wr_row_ne _ _ _ (by decide)) (wr_row_ne _ _ _ (by decide)) (wr_row_ne _ _ _ (by decide))
          refine ⟨_, _, rfl, rfl, ?_, hR⟩
          show upH HA' 0 (wr (HA' 0) 9 r (s.1 7 (2 * t + f))) 0 9 r = wr N 1 (192 + r) (s.1 7 (2 * t + f)) 1 (192 + r)
          rw [upH_at, if_pos rfl, wr_at, if_pos ⟨rfl, rfl⟩, wr_at, if_pos ⟨rfl, rfl⟩]
