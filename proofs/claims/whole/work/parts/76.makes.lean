/-! ===== 76 makes ===== -/
def RoomOK (s : HS) (z : Nat) (v : Int32) : Prop := v = -9 ∨ ∃ r, v = nI r ∧ r < 10 ∧ ((z ≤ 4 ∧ (s.1 0 r = 0 ∨ (s.1 0 r = 1 ∧ s.1 13 0 = nI r)) ∧ tp s.1 r + z ≤ 8) ∨ (4 < z ∧ r + (z + 7) / 8 ≤ 10 ∧ frees s.1 r ((z + 7) / 8)))
theorem op_makes : OP_makes Rl := by
  intro kf rgt yct fctc Ap Fpc Ar nxi kni HA HFc M MFc p0 p1 h
  unfold sX6_makes sX7_makes
  obtain ⟨hN, hH, hI⟩ := rl_open h
  obtain ⟨s, hA, hM, hInv, h14, h15⟩ := id hN
  have hM1 : MR ((sc M 0 0) 1) s := by rw [sc0 M 1 (by decide)]; exact hM
  rw [bd_eq]
  rcases in_cases p0 1 24 (by omega) (by omega) with ⟨c, d⟩ | ⟨z, hz1, hz2, rfl, c, d⟩
  · rw [show sX7_in p0 1 24 = some 0 from c, show sX6_within p0 1 24 = some 0 from d, bind_s, bind_s, if_pos rfl, if_pos rfl]
    exact ⟨_, _, rfl, rfl, rfl, rl_sc h⟩
  · rw [show sX7_in (nI z) 1 24 = some 1 from c, show sX6_within (nI z) 1 24 = some 1 from d, bind_s, bind_s, if_neg (show ¬ (1 : Int32) = 0 by decide), if_neg (show ¬ (1 : Int32) = 0 by decide)]
    rcases root_cases p1 with ⟨a, b⟩ | ⟨p, hp, rfl, a, b⟩
    · rw [a, b, bind_s, bind_s, if_pos rfl, if_pos rfl]
      exact ⟨_, _, rfl, rfl, rfl, rl_sc h⟩
    · rw [a, b, bind_s, bind_s, if_neg (show ¬ (1 : Int32) = 0 by decide), if_neg (show ¬ (1 : Int32) = 0 by decide)]
      obtain ⟨xc, exc, hxc⟩ := c_unused hA
      obtain ⟨xm, exm, hxm⟩ := m_unused hM1
      rw [exc, exm, bind_s, bind_s, bd_eq, m_ly hM1]
      obtain ⟨nx', kn', HA', HF', N, G, e1, e2, ha, hf, n1, g2, hH', hI'⟩ := push_both hN hH hI (sc M 0 0) (sc0 M)
      have hA' : CR (HA' 0) s := by rw [ha]; exact hA
      have hM' : MR (N 1) s := by rw [n1]; exact hM
      have h14' : HF' 0 14 0 = G 2 0 := by rw [hf, g2]; exact h14
      have h15' : HF' 0 15 0 = G 2 1 := by rw [hf, g2]; exact h15
      have tail : ∀ v, RoomOK s z v → ∃ (bx : Int32 × Int32 × Int32 × (Nat → IA) × (Nat → FA)) (bm : Int32 × IA × FA), (if xc = (-9) then (some (((-3), nxi, kni, HA, HFc))) else (if v = (-9) then (some (((-3), nxi, kni, HA, HFc))) else ((sX2_push nxi kni HA HFc).bind fun z1 => (sX1_makeThing (z1.2.2.1 0) xc (nI z) v).bind fun z2 => bd (upH z1.2.2.1 0 (z2)) fun HA1 => ck (nI p) 6 (bd (upH HA1 0 (wr (HA1 0) 9 (nI p).toNatClampNeg xc)) fun HA2 => some (xc, z1.1, z1.2.1, HA2, z1.2.2.2))))) = some bx ∧ (if xm = 32 then (some (((-3), sc M 0 0, MFc))) else (if v = (-9) then (some (((-3), sc M 0 0, MFc))) else ((sX7_notes (sc M 0 0) MFc).bind fun z1 => if 5 ≤ nI z then ((sX7_makesBig z1.1 xm (nI z) v).bind fun z2 => ck (192 + nI p) 296 (bd (wr z2 1 ((192 + nI p).toNatClampNeg) xm) fun A2 => some (xm, A2, z1.2))) else ((sX7_makesSmall z1.1 xm (nI z) v).bind fun z3 => ck (192 + nI p) 296 (bd (wr z3 1 ((192 + nI p).toNatClampNeg) xm) fun A3 => some (xm, A3, z1.2)))))) = some bm ∧ bx.1 = bm.1 ∧ Rl (kf, rgt, yct, fctc, Ap, Fpc, Ar, bx.2.1, bx.2.2.1, bx.2.2.2.1, bx.2.2.2.2) bm.2.1 bm.2.2 := by
        intro v hv
        rcases hxc with ⟨rfl, full⟩ | ⟨t, ht, rfl, hu⟩
        · rcases hxm with ⟨rfl, _⟩ | ⟨t, ht, rfl, hu⟩
          · rw [if_pos rfl, if_pos rfl]; exact ⟨_, _, rfl, rfl, rfl, rl_sc h⟩
          · exact absurd hu.1 (full t ht)
        · rcases hxm with ⟨_, full⟩ | ⟨t', ht', rfl, hu'⟩
          · exact absurd hu.1 (full t ht)
          · have : t' = t := unused_one hu' hu
            subst this
            rw [if_neg (fun q => nI_pos (n := t') (by omega) (by rw [q]; decide)), if_neg (show ¬ nI t' = 32 from fun q => by have := (nI_eq (b := 32) (by omega) (by omega)).mp q; omega)]
            by_cases h9 : v = -9
            · rw [if_pos h9, if_pos h9]; exact ⟨_, _, rfl, rfl, rfl, rl_sc h⟩
            · obtain ⟨r, rfl, hr, hc⟩ := hv.resolve_left h9
              rw [if_neg h9, if_neg h9, e1, e2, bind_s, bind_s]
              dsimp only
              rw [nI_clamp (show p < 2 ^ 31 by omega), show (192 : Int32) + nI p = nI (192 + p) from nI_add 192 p, nI_clamp (show 192 + p < 2 ^ 31 by omega)]
              rcases hc with ⟨hz4, hk, hroom⟩ | ⟨hz4, hrw, hfr⟩
              · obtain ⟨B, eB, hB⟩ := c_makeS hA' (z := z) ht hz4 hr
                obtain ⟨K, eK, hK, fK⟩ := m_makeS hM' (z := z) ht hu.1 hr hk
                have hIv := inv_mkS hInv ht hu.1 (by omega) hz4 hr (hk.elim Or.inl (fun q => Or.inr q.1)) hroom
                rw [eB, bind_s, bd_eq, ck_nI hp (by omega), bd_eq, if_neg (show ¬ (5 : Int32) ≤ nI z from nI_ge (b := 5) (by omega) (by omega)), eK, bind_s, ck_nI (show 192 + p < 296 by omega) (by omega), bd_eq]
                have hR := mk_end (kf := kf) (rgt := rgt) (yct := yct) (fctc := fctc) (Ap := Ap) (Fpc := Fpc) (Ar := Ar) hH' hI' h14' h15' hB hK fK hIv ht hp (by unfold lv; rw [mkS_at, if_neg (by omega), if_neg (by omega), if_neg (by omega), if_neg (by omega), if_neg (by omega), if_neg (by omega), if_neg (by omega), if_neg (by omega), if_pos ⟨rfl, rfl⟩]; exact nI_nle (by omega) (by omega)) (by rw [mkS_at, if_neg (by omega), if_neg (by omega), if_neg (by omega), if_neg (by omega), if_neg (by omega), if_pos ⟨rfl, rfl⟩])
                exact ⟨_, _, rfl, rfl, rfl, hR⟩
              · obtain ⟨B, eB, hB⟩ := c_makeB hA' (z := z) ht hz4 hz2 hrw
                obtain ⟨K, eK, hK, fK⟩ := m_makeB hM' (z := z) ht hu.1 hz2 hrw
                have hIv := inv_mkB hInv ht hu.1 hz4 hz2 hrw hfr
                rw [eB, bind_s, bd_eq, ck_nI hp (by omega), bd_eq, if_pos (show (5 : Int32) ≤ nI z from nI_le (a := 5) (by omega) (by omega)), eK, bind_s, ck_nI (show 192 + p < 296 by omega) (by omega), bd_eq]
                have hR := mk_end (kf := kf) (rgt := rgt) (yct := yct) (fctc := fctc) (Ap := Ap) (Fpc := Fpc) (Ar := Ar) hH' hI' h14' h15' hB hK fK hIv ht hp (by unfold lv; rw [mkB_at, if_pos ⟨rfl, rfl⟩]; exact nI_nle (by omega) (by omega)) (by rw [mkB_at, if_neg (by omega), if_pos ⟨rfl, rfl⟩])
                exact ⟨_, _, rfl, rfl, rfl, hR⟩
      unfold sX1_roomFor sX1_regionsFor
      by_cases hz4 : z ≤ 4
      · have n5 : ¬ (5 : Int32) ≤ nI z := nI_ge (b := 5) (by omega) (by omega)
        have hly : s.1 13 0 = -9 ∨ Rg 10 (s.1 13 0) := hInv.1.2.2.2.2.2.2.elim Or.inl (fun ⟨r, hr, e, _⟩ => Or.inr ⟨r, hr, e⟩)
        have rlf : RoomOK s z (lf s.1) := by
          rcases lf_cases s.1 with q | ⟨r, hr, e, h0⟩
          · exact Or.inl q
          · refine Or.inr ⟨r, e, hr, Or.inl ⟨hz4, Or.inl h0, ?_⟩⟩
            have : tp s.1 r = 0 := by unfold tp; rw [(hInv.1.2.1 r hr).2.2.2.2 h0]; rfl
            omega
        rw [if_pos (show nI z ≤ 4 from nI_le (b := 4) hz4 (by omega)), hA.1 13 0 (by decide), c_hasRoom hA hly, bind_s, ite01, c_lf hA, bind_s, if_neg n5, m_lf hM1, bind_s]
        by_cases h9 : s.1 13 0 = -9
        · rw [if_pos (Or.inl h9), bind_s, if_pos h9, if_neg n5]
          exact tail _ rlf
        · obtain ⟨r, hr, er⟩ := hly.resolve_left h9
          have hky : s.1 0 r = 1 := by
            obtain ⟨r', hr', er', hk'⟩ := hInv.1.2.2.2.2.2.2.resolve_left h9
            have : r' = r := by rw [er] at er'; exact ((nI_eq (by omega) (by omega)).mp er').symm
            rw [← this]; exact hk'
          have htp := tp_eq hInv.1.2.1 hr
          rw [if_neg h9, er, nI_clamp (show r < 2 ^ 31 by omega), m_tp hM1 hr, bind_s]
          by_cases h8 : 8 < s.1 1 r + nI z
          · rw [if_pos (Or.inr h8), bind_s, if_pos h8, if_neg n5]
            exact tail _ rlf
          · rw [if_neg (fun q => q.elim (fun q' => h9 (by rw [er]; exact q')) h8), bind_s, if_neg h8]
            refine tail _ (Or.inr ⟨r, rfl, hr, Or.inl ⟨hz4, Or.inr ⟨hky, er⟩, ?_⟩⟩)
            rw [htp.1, nI_add] at h8
            have : ¬ nI 8 < nI (tp s.1 r + z) := h8
            rw [nI_ltI (by omega) (by omega)] at this
            omega
      · have p5 : (5 : Int32) ≤ nI z := nI_le (a := 5) (by omega) (by omega)
        have hw1 : 0 < (z + 7) / 8 := by omega
        have hw2 : (z + 7) / 8 < 11 := by omega
        obtain ⟨v, ev, hv⟩ := c_freeRow hA hw1 hw2
        obtain ⟨v', ev', hv'⟩ := m_lowestFree hM1 hw1 hw2
        have : v' = v := hv'.one hv
        subst this
        rw [if_neg (show ¬ nI z ≤ 4 from nI_ge (a := 4) (by omega) (by omega)), bind_s, show nI z + (8 : Int32) - 1 = nI (z + 7) from by rw [show nI z + (8 : Int32) = nI (z + 8) from nI_add z 8]; exact nI_pred (z + 7), show nI (z + 7) / (8 : Int32) = nI ((z + 7) / 8) from pk_div (d := 8) (by omega) (by omega) (by omega), ev, bind_s, bind_s, if_pos p5, if_pos p5, show nI z + (7 : Int32) = nI (z + 7) from nI_add z 7, show nI (z + 7) / (8 : Int32) = nI ((z + 7) / 8) from pk_div (d := 8) (by omega) (by omega) (by omega), ev', bind_s]
        refine tail _ ?_
        rcases hv with ⟨r, q1, q2, q3, q4⟩ | ⟨_, q⟩
        · exact Or.inr ⟨r, q4, by omega, Or.inr ⟨by omega, q1, q2⟩⟩
        · exact Or.inl q
