/-! ===== 70 the call that writes a field ===== -/
theorem c_writeField {A : IA} {s : HS} (h : CR A s) (hI : Inv s) {t f : Nat} (ht : t < 32) (hf : f < 2) {v : Int32} (hv : Nl v) (hw : Wf (wf7 t f v s)) : ∃ B, sX1_writeField A (nI t) (nI f) v = some ((wt t v (wf7 t f v s)).1, B) ∧ CR B (wt t v (wf7 t f v s)).2 := by
  unfold sX1_writeField
  rw [c_fd h ht hf, bind_s, h.1 12 0 (by decide), mul2, ck_nI (show 2 * t + f < 64 by omega) (by omega), nI_clamp (show 2 * t + f < 2 ^ 31 by omega)]
  by_cases hm : s.1 12 0 = 0
  · have e : wf7 t f v s = (wr s.1 7 (2 * t + f) v, s.2) := by unfold wf7 wg; rw [if_pos hm]
    rw [e] at hw ⊢
    rw [if_pos hm, bd_eq]
    exact c_wt (cr_wr h (w_fd (show 2 * t + f < 64 by omega)) v) hw ht hv
  · have e : wf7 t f v s = (wr (gr (s.1 7 (2 * t + f)) s).1 7 (2 * t + f) v, (gr (s.1 7 (2 * t + f)) s).2) := by unfold wf7 wg; rw [if_neg hm]
    rw [e] at hw ⊢
    obtain ⟨B, eB, hB⟩ := c_gr h hI.1.1 (hI.1.1.2.1 (2 * t + f) (by omega))
    rw [if_neg hm, eB, bind_s, ck_nI (show 2 * t + f < 64 by omega) (by omega), bd_eq]
    exact c_wt (cr_wr hB (w_fd (show 2 * t + f < 64 by omega)) v) hw ht hv
theorem idx3 (t f : Nat) : (6 : Int32) * nI t + 3 + nI f = nI (6 * t + (3 + f)) := by rw [show (6 : Int32) * nI t + 3 = nI (6 * t + 3) from mul6 t 3, nI_add, Nat.add_assoc]
theorem op_writes : OP_writes Rl := by
  intro kf rgt yct fctc Ap Fpc Ar nxi kni HA HFc M MFc p0 p1 p2 h
  unfold sX6_writes sX7_writes
  obtain ⟨hN, hH, hI⟩ := rl_open h
  obtain ⟨s, hA, hM, hInv, h14, h15⟩ := id hN
  have hM1 : MR ((sc M 0 0) 1) s := by rw [sc0 M 1 (by decide)]; exact hM
  rw [bd_eq]
  rcases root_cases p0 with ⟨a, b⟩ | ⟨r, hr, rfl, a, b⟩
  · rw [a, b, bind_s, bind_s, if_pos rfl, if_pos rfl]
    exact ⟨_, _, rfl, rfl, rfl, rl_sc h⟩
  · rw [a, b, bind_s, bind_s, if_neg (show ¬ (1 : Int32) = 0 by decide), if_neg (show ¬ (1 : Int32) = 0 by decide)]
    rcases in_cases p1 0 1 (by omega) (by omega) with ⟨c', d'⟩ | ⟨f, h1, h2, rfl, c', d'⟩
    · rw [show sX7_in p1 0 1 = some 0 from c', show sX6_within p1 0 1 = some 0 from d', bind_s, bind_s, if_pos rfl, if_pos rfl]
      exact ⟨_, _, rfl, rfl, rfl, rl_sc h⟩
    · have hf2 : f < 2 := by omega
      rw [show sX7_in (nI f) 0 1 = some 1 from c', show sX6_within (nI f) 0 1 = some 1 from d', bind_s, bind_s, if_neg (show ¬ (1 : Int32) = 0 by decide), if_neg (show ¬ (1 : Int32) = 0 by decide)]
      obtain ⟨nx', kn', HA', HF', N, G, e1, e2, ha, hf, n1, g2, hH', hI'⟩ := push_both hN hH hI (sc M 0 0) (sc0 M)
      have hA' : CR (HA' 0) s := by rw [ha]; exact hA
      have hM' : MR (N 1) s := by rw [n1]; exact hM
      rcases ofRoot_cases hA' p2 with ⟨c, d⟩ | ⟨c, d, hc⟩
      · rw [c, d, bind_s, bind_s, if_pos rfl, if_pos rfl]
        exact ⟨_, _, rfl, rfl, rfl, rl_sc h⟩
      · rw [c, d, bind_s, bind_s, if_neg (show ¬ (1 : Int32) = 0 by decide), if_neg (show ¬ (1 : Int32) = 0 by decide), ck_nI hr (by omega), nI_clamp (by omega), hA.1 9 r (w_rt hr), show (192 : Int32) + nI r = nI (192 + r) from nI_add 192 r, ck_nI (show 192 + r < 296 by omega) (by omega), nI_clamp (show 192 + r < 2 ^ 31 by omega), bd_eq, m_root hM1 hr]
        by_cases h5 : s.1 9 r = -5
        · rw [if_pos h5, if_pos h5]
          exact ⟨_, _, rfl, rfl, rfl, rl_sc h⟩
        · obtain ⟨t, ht, et, ec⟩ := nl_cl (hInv.1.1.2.2.1 r hr) h5
          have hl : ¬ s.1 4 t ≤ 0 := by have := (hInv.1.2.2.2.2.1.2.1 r hr).resolve_left h5; rw [ec] at this; exact this
          rw [if_neg h5, if_neg h5, e1, e2, bind_s, bind_s]
          dsimp +instances only
          rw [ck_nI hr (by omega), hA'.1 9 r (w_rt hr), et]
          -- what is left, once the value is known
          have rest : ∀ v, (v = -5 ∨ (Rg 32 v ∧ lv s.1 v.toNatClampNeg)) → (s.1 12 0 = 1 → v = -5 ∨ s.1 8 v.toNatClampNeg = 2 ∨ Kr s v.toNatClampNeg) → ∃ B K, sX1_writeField (HA' 0) (nI t) (nI f) v = some ((wt t v (wf7 t f v s)).1, B) ∧ (if s.1 12 0 = 1 then ((sX7_ofThing N (nI t) (3 + nI f)).bind fun x12 => (sX7_becomesGrey N x12).bind fun z3 => ck (((6 * nI t) + 3) + nI f) 296 (bd (wr z3 1 ((((6 * nI t) + 3) + nI f).toNatClampNeg) v) fun A3 => if v = (-5) then (some (0, A3, G)) else ((sX7_ofThing A3 v 1).bind fun x13 => (sX7_ofThing A3 (nI t) 1).bind fun x14 => if x13 = x14 then (some (0, A3, G)) else ((sX7_kindOf A3 (nI t)).bind fun x15 => if x15 = 1 then (some (0, A3, G)) else ((sX7_cardOf A3 (nI t)).bind fun x16 => (sX7_isDirty A3 x16).bind fun x17 => if x17 = 0 then ((sX7_cardOf A3 (nI t)).bind fun x18 => (sX7_becomesDirty A3 x18).bind fun z4 => some (1, z4, G)) else (some (0, A3, G))))))) else (ck (((6 * nI t) + 3) + nI f) 296 (bd (wr N 1 ((((6 * nI t) + 3) + nI f).toNatClampNeg) v) fun A2 => if v = (-5) then (some (0, A2, G)) else ((sX7_ofThing A2 v 1).bind fun x6 => (sX7_ofThing A2 (nI t) 1).bind fun x7 => if x6 = x7 then (some (0, A2, G)) else ((sX7_kindOf A2 (nI t)).bind fun x8 => if x8 = 1 then (some (0, A2, G)) else ((sX7_cardOf A2 (nI t)).bind fun x9 => (sX7_isDirty A2 x9).bind fun x10 => if x10 = 0 then ((sX7_cardOf A2 (nI t)).bind fun x11 => (sX7_becomesDirty A2 x11).bind fun z2 => some (1, z2, G)) else (some (0, A2, G)))))))) = some ((wt t v (wf7 t f v s)).1, K, G) ∧ Rl (kf, rgt, yct, fctc, Ap, Fpc, Ar, nx', kn', upH HA' 0 B, HF') K G := by
            intro v hv hk
            have hnl : Nl v := hv.elim Or.inl (fun z => Or.inr z.1)
            obtain ⟨hw, hIv⟩ := inv_write hInv ht hf2 hv hk
            obtain ⟨B, eB, hB⟩ := c_writeField hA' hInv ht hf2 hnl hw
            have mk : ∀ K, MR (K 1) (wt t v (wf7 t f v s)).2 → Fr N K → Rl (kf, rgt, yct, fctc, Ap, Fpc, Ar, nx', kn', upH HA' 0 B, HF') K G := fun K hK fK => rl_put hH' hI' ⟨_, hB, hK, hIv, by rw [hf, g2]; exact h14, by rw [hf, g2]; exact h15⟩ (fK 3 (by decide)) (fK 5 (by decide)) (fK 6 (by decide)) (fK 8 (by decide))
            rw [idx3, ck_nI (show 6 * t + (3 + f) < 296 by omega) (by omega), nI_clamp (show 6 * t + (3 + f) < 2 ^ 31 by omega), bd_eq]
            by_cases hm : s.1 12 0 = 1
            · have e : wf7 t f v s = (wr (gr (s.1 7 (2 * t + f)) s).1 7 (2 * t + f) v, (gr (s.1 7 (2 * t + f)) s).2) := by unfold wf7 wg; rw [if_neg (by rw [hm]; decide)]
              obtain ⟨N2, eN2, hN2, fN2⟩ := m_gr hM' hInv.1.1 (hInv.1.1.2.1 (2 * t + f) (by omega))
              have h7 : MR ((wr N2 1 (6 * t + (3 + f)) v) 1) (wf7 t f v s) := by rw [e]; exact mr_wr hN2 (k := 7) (w_fd (show 2 * t + f < 64 by omega)) (lc_fd hf2).symm v
              obtain ⟨K, eK, hK, fK⟩ := m_wt h7 hw ht hnl G
              rw [if_pos hm, m_fd hM' ht hf2 hl, bind_s, eN2, bind_s, ck_nI (show 6 * t + (3 + f) < 296 by omega) (by omega), bd_eq]
              exact ⟨B, K, eB, eK, mk K hK ((fN2.trans (fr_wr _ _ _)).trans fK)⟩
            · have hm0 : s.1 12 0 = 0 := (hInv.1.2.2.2.2.2.1.resolve_right (fun q => hm q.1)).1
              have e : wf7 t f v s = (wr s.1 7 (2 * t + f) v, s.2) := by unfold wf7 wg; rw [if_pos hm0]
              have h7 : MR ((wr N 1 (6 * t + (3 + f)) v) 1) (wf7 t f v s) := by rw [e]; exact mr_wr hM' (k := 7) (w_fd (show 2 * t + f < 64 by omega)) (lc_fd hf2).symm v
              obtain ⟨K, eK, hK, fK⟩ := m_wt h7 hw ht hnl G
              rw [if_neg hm]
              exact ⟨B, K, eB, eK, mk K hK ((fr_wr _ _ _).trans fK)⟩
          have val : ∀ v, (wt t v (wf7 t f v s)).1 = 0 ∨ (wt t v (wf7 t f v s)).1 = 1 := fun v => by
            unfold wt
            split
            · exact Or.inl rfl
            · split
              · exact Or.inl rfl
              · split
                · exact Or.inl rfl
                · show (if nI (cdo (wf7 t f v s).1 t) ∈ (wf7 t f v s).2.1 then (0 : Int32) else 1) = 0 ∨ (if nI (cdo (wf7 t f v s).1 t) ∈ (wf7 t f v s).2.1 then (0 : Int32) else 1) = 1
                  split
                  · exact Or.inl rfl
                  · exact Or.inr rfl
          rw [m_mk hM']
          rcases hc with ⟨h0, e⟩ | ⟨n, hn, h0, rfl, e⟩
          · obtain ⟨B, K, eB, eK, hR⟩ := rest (-5) (Or.inl rfl) (fun _ => Or.inl rfl)
            have hz : (wt t (-5) (wf7 t f (-5) s)).1 = 0 := by unfold wt; rw [if_pos rfl]
            rw [hz] at eK eB
            rw [e, bind_s, eB, bind_s, bd_eq, if_pos rfl, if_neg h0, show (if s.1 12 0 = 1 then ((sX7_ofThing N (nI t) (3 + nI f)).bind fun x19 => (sX7_becomesGrey N x19).bind fun z5 => ck (((6 * nI t) + 3) + nI f) 296 (bd (wr z5 1 ((((6 * nI t) + 3) + nI f).toNatClampNeg) (-5)) fun A5 => some (0, A5, G))) else (ck (((6 * nI t) + 3) + nI f) 296 (bd (wr N 1 ((((6 * nI t) + 3) + nI f).toNatClampNeg) (-5)) fun A4 => some (0, A4, G)))) = some ((0 : Int32), K, G) from eK]
            exact ⟨_, _, rfl, rfl, rfl, hR⟩
          · obtain ⟨B, K, eB, eK, hR⟩ := rest (s.1 9 n) (st_root hInv.1 hn) (sb_root hInv hn)
            rw [e, bind_s, eB, bind_s, bd_eq, if_pos h0, show (192 : Int32) + nI n = nI (192 + n) from nI_add 192 n, ck_nI (show 192 + n < 296 by omega) (by omega), nI_clamp (show 192 + n < 2 ^ 31 by omega), bd_eq, m_root hM' hn, eK]
            rcases val (s.1 9 n) with z | z
            · rw [if_pos z]
              exact ⟨_, _, rfl, rfl, z.symm, hR⟩
            · rw [if_neg (by rw [z]; decide)]
              exact ⟨_, _, rfl, rfl, z.symm, hR⟩
