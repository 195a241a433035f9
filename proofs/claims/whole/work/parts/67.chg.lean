/-! ===== 67 cards, marking, pauses ===== -/
theorem op_refines : OP_refines Rl := by
  intro kf rgt yct fctc Ap Fpc Ar nxi kni HA HFc M MFc p0 h
  unfold sX6_refines sX7_refines
  obtain ⟨hN, hH, hI⟩ := rl_open h
  obtain ⟨s, hA, hM, hInv, h14, h15⟩ := id hN
  have hM1 : MR ((sc M 0 0) 1) s := by rw [sc0 M 1 (by decide)]; exact hM
  have hl := hM.2.1.2
  rw [bd_eq]
  rcases in_cases p0 1 20 (by omega) (by omega) with ⟨c, d⟩ | ⟨n, h1, h2, rfl, c, d⟩
  · rw [show sX7_in p0 1 20 = some 0 from c, show sX6_within p0 1 20 = some 0 from d, bind_s, bind_s, if_pos rfl, if_pos rfl]
    exact ⟨_, _, rfl, rfl, rfl, rl_sc h⟩
  · rw [show sX7_in (nI n) 1 20 = some 1 from c, show sX6_within (nI n) 1 20 = some 1 from d, bind_s, bind_s, if_neg (show ¬ (1 : Int32) = 0 by decide), if_neg (show ¬ (1 : Int32) = 0 by decide), m_dn hM1, hA.2.1.1]
    by_cases h0 : nI s.2.1.length = 0
    · rw [if_pos h0, if_pos h0]
      exact ⟨_, _, rfl, rfl, rfl, rl_sc h⟩
    · obtain ⟨nx', kn', HA', HF', N, G, e1, e2, ha, hf, n1, g2, hH', hI'⟩ := push_both hN hH hI (sc M 0 0) (sc0 M)
      have hA' : CR (HA' 0) s := by rw [ha]; exact hA
      have hM' : MR (N 1) s := by rw [n1]; exact hM
      obtain ⟨B, eB, hB⟩ := c_rfn n 0 n 2000 s (HA' 0) hA' hInv.1.1 (by omega) (by omega) (by omega)
      have eRef : sX1_refineOldest (HA' 0) (nI n) = some (nI (0 + min n s.2.1.length), B) := by
        unfold sX1_refineOldest
        rw [← nI_0, eB]
        rfl
      have fin' : ∀ K, MR (K 1) (rfn n s) → Fr N K → Rl (kf, rgt, yct, fctc, Ap, Fpc, Ar, nx', kn', upH HA' 0 B, HF') K G := fun K hK fK => rl_put hH' hI' ⟨rfn n s, hB, hK, inv_rfn n s hInv, by rw [hf, g2]; exact h14, by rw [hf, g2]; exact h15⟩ (fK 3 (by decide)) (fK 5 (by decide)) (fK 6 (by decide)) (fK 8 (by decide))
      rw [if_neg h0, if_neg h0, e1, e2, bind_s, bind_s]
      dsimp +instances only
      rw [eRef, bind_s, bd_eq, m_dn hM']
      by_cases hle : s.2.1.length ≤ n
      · rw [if_pos (nI_le hle (by omega)), bd_eq]
        obtain ⟨K, eK, hK, fK⟩ := m_rfn s.2.1.length 0 s.2.1.length 2000 s N hM' hInv.1.1 (by omega) (by omega) (Nat.le_refl _) (by omega)
        rw [← nI_0, eK, bind_s]
        rw [← rfn_more n s hInv.1.1 hle] at hK
        refine ⟨_, _, rfl, rfl, ?_, fin' K hK fK⟩
        show nI (0 + min n s.2.1.length) = nI s.2.1.length
        rw [show 0 + min n s.2.1.length = s.2.1.length by omega]
      · rw [if_neg (nI_ge (by omega) (by omega))]
        obtain ⟨K, eK, hK, fK⟩ := m_rfn n 0 n 2000 s N hM' hInv.1.1 (by omega) (by omega) (by omega) (by omega)
        rw [show loopN (sX7_refines_L62a (nI n)) 2000 (0, N) = some K from by rw [← nI_0]; exact eK, bind_s]
        refine ⟨_, _, rfl, rfl, ?_, fin' K hK fK⟩
        show nI (0 + min n s.2.1.length) = nI n
        rw [show 0 + min n s.2.1.length = n by omega]
theorem op_begins : OP_begins Rl := by
  intro kf rgt yct fctc Ap Fpc Ar nxi kni HA HFc M MFc h
  unfold sX6_begins sX7_begins
  obtain ⟨hN, hH, hI⟩ := rl_open h
  obtain ⟨s, hA, hM, hInv, h14, h15⟩ := id hN
  have hM1 : MR ((sc M 0 0) 1) s := by rw [sc0 M 1 (by decide)]; exact hM
  rw [bd_eq, m_mk hM1, hA.1 12 0 (by decide)]
  rcases hInv.1.2.2.2.2.2.1 with ⟨hm, hg⟩ | ⟨hm, hg⟩
  · obtain ⟨nx', kn', HA', HF', N, G, e1, e2, ha, hf, n1, g2, hH', hI'⟩ := push_both hN hH hI (sc M 0 0) (sc0 M)
    have hA' : CR (HA' 0) s := by rw [ha]; exact hA
    have hM' : MR (N 1) s := by rw [n1]; exact hM
    obtain ⟨B, eB, hB⟩ := c_bg hA' hInv.1.1 hg
    obtain ⟨K, eK, hK, fK⟩ := m_bg hM' hInv.1.1
    have hIv := inv_bgs hInv
    have fin' : ∀ L, MR (L 1) (bgs s) → Fr N L → Rl (kf, rgt, yct, fctc, Ap, Fpc, Ar, nx', kn', upH HA' 0 B, HF') L G := fun L hL fL => rl_put hH' hI' ⟨bgs s, hB, hL, hIv, by rw [hf, g2]; exact h14, by rw [hf, g2]; exact h15⟩ (fL 3 (by decide)) (fL 5 (by decide)) (fL 6 (by decide)) (fL 8 (by decide))
    have hret : ∀ L : IA, MR (L 1) (bgs s) → upH HA' 0 B 0 19 0 = L 1 (Int32.toNatClampNeg 291) := fun L hL => by rw [upH_at, if_pos rfl, m_gn hL, hB.2.2.1]
    rw [hm, if_pos rfl, if_neg (by decide), e1, e2, bind_s, bind_s]
    dsimp only
    rw [eB, bind_s, bd_eq, bd_eq, bd_eq]
    cases h44 : loopN sX7_begins_L44 2000 (0, wr (wr N 1 292 1) 1 291 0) with
    | none => rw [h44] at eK; exact absurd eK (by intro q; cases q)
    | some q2 =>
      rw [h44, bind_s] at eK
      rw [show loopN sX7_begins_L44 2000 (0, wr (wr N 1 (Int32.toNatClampNeg 292) 1) 1 (Int32.toNatClampNeg 291) 0) = some q2 from h44, bind_s, eK, bind_s, m_gn hK]
      unfold bgs at fin' hret
      by_cases hG : (bg1 s).2.2 = []
      · rw [if_pos hG] at fin' hret
        rw [if_pos (by rw [hG]; rfl)]
        obtain ⟨L, eL, hL, fL⟩ := m_ends hK
        rw [eL, bind_s]
        exact ⟨_, _, rfl, rfl, hret L hL, fin' L hL (fK.trans fL)⟩
      · rw [if_neg hG] at fin' hret
        rw [if_neg (nI_ne0 (List.length_pos_iff.mpr hG) (by have := hK.2.2.2; omega)), ← m_gn hK]
        exact ⟨_, _, rfl, rfl, hret K hK, fin' K hK fK⟩
  · rw [hm, if_neg (by decide), if_pos rfl]
    exact ⟨_, _, rfl, rfl, rfl, rl_sc h⟩
def stn : Nat → HS → HS
  | 0, s => s
  | n + 1, s => if s.1 12 0 = 1 then stn n (stp s) else s
theorem inv_stn : ∀ (n : Nat) (s : HS), Inv s → Inv (stn n s) := by
  intro n
  induction n with
  | zero => intro s h; exact h
  | succ n ih =>
    intro s h
    unfold stn
    split
    · next hm => exact ih _ (inv_stp h hm)
    · exact h
theorem mk_grey {s : HS} (h : Inv s) (hm : s.1 12 0 = 1) : s.2.2 ≠ [] := (h.1.2.2.2.2.2.1.resolve_left (fun q => by rw [hm] at q; exact absurd q.1 (by decide))).2
theorem c_stn : ∀ (n i K k : Nat) (s : HS) (HA : Nat → IA), CR (HA 0) s → Inv s → K = i + n → K < 2000 → n < k → ∃ B, loopN (sX6_steps_L38 (nI K)) k (nI i, HA) = some B ∧ CR (B 0) (stn n s) ∧ ∀ q, q ≠ 0 → B q = HA q := by
  intro n
  induction n with
  | zero =>
    intro i K k s HA h hI hK hK2 hk
    obtain ⟨j, rfl⟩ : ∃ j, k = j + 1 := ⟨k - 1, by omega⟩
    exact ⟨HA, loopN_inr (by unfold sX6_steps_L38; dsimp +instances only; rw [if_pos (nI_le (by omega) (by omega))]), h, fun _ _ => rfl⟩
  | succ n ih =>
    intro i K k s HA h hI hK hK2 hk
    obtain ⟨j, rfl⟩ : ∃ j, k = j + 1 := ⟨k - 1, by omega⟩
    have hlt : ¬ nI K ≤ nI i := nI_ge (by omega) (by omega)
    unfold stn
    by_cases hm : s.1 12 0 = 1
    · rw [if_pos hm]
      obtain ⟨B, eB, hB⟩ := c_stp h hI.1.1 (mk_grey hI hm)
      rw [loopN_inl (a' := (nI (i + 1), upH HA 0 B)) (by unfold sX6_steps_L38; dsimp +instances only; rw [if_neg hlt, h.1 12 0 (by decide), hm, if_neg (show ¬ (1 : Int32) = 0 by decide), eB, bind_s, bd_eq, nI_1])]
      obtain ⟨C, eC, hC, fC⟩ := ih (i + 1) K j (stp s) (upH HA 0 B) (by rw [upH_at, if_pos rfl]; exact hB) (inv_stp hI hm) (by omega) hK2 (by omega)
      exact ⟨C, eC, hC, fun q hq => by rw [fC q hq, upH_at, if_neg hq]⟩
    · rw [if_neg hm]
      have hm0 : s.1 12 0 = 0 := (hI.1.2.2.2.2.2.1.resolve_right (fun q => hm q.1)).1
      exact ⟨HA, loopN_inr (by unfold sX6_steps_L38; dsimp +instances only; rw [if_neg hlt, h.1 12 0 (by decide), if_pos hm0]), h, fun _ _ => rfl⟩
theorem m_stn : ∀ (n i K k : Nat) (s : HS) (M : IA), MR (M 1) s → Inv s → K = i + n → K < 2000 → n < k → ∃ N, loopN (sX7_steps_L37 (nI K)) k (nI i, M) = some N ∧ MR (N 1) (stn n s) ∧ Fr M N := by
  intro n
  induction n with
  | zero =>
    intro i K k s M h hI hK hK2 hk
    obtain ⟨j, rfl⟩ : ∃ j, k = j + 1 := ⟨k - 1, by omega⟩
    exact ⟨M, loopN_inr (by unfold sX7_steps_L37; dsimp +instances only; rw [if_pos (nI_le (by omega) (by omega))]), h, Fr.refl M⟩
  | succ n ih =>
    intro i K k s M h hI hK hK2 hk
    obtain ⟨j, rfl⟩ : ∃ j, k = j + 1 := ⟨k - 1, by omega⟩
    have hlt : ¬ nI K ≤ nI i := nI_ge (by omega) (by omega)
    unfold stn
    by_cases hm : s.1 12 0 = 1
    · rw [if_pos hm]
      obtain ⟨N, eN, hN, fN⟩ := m_stp h hI.1.1 (mk_grey hI hm) hI.1.2.2.2.2.1.2.2
      rw [loopN_inl (a' := (nI (i + 1), N)) (by unfold sX7_steps_L37; dsimp +instances only; rw [if_neg hlt, m_mk h, if_pos hm, eN, bind_s, nI_1])]
      obtain ⟨L, eL, hL, fL⟩ := ih (i + 1) K j (stp s) N hN (inv_stp hI hm) (by omega) hK2 (by omega)
      exact ⟨L, eL, hL, fN.trans fL⟩
    · rw [if_neg hm]
      exact ⟨M, loopN_inr (by unfold sX7_steps_L37; dsimp +instances only; rw [if_neg hlt, m_mk h, if_neg hm]), h, Fr.refl M⟩
theorem op_steps : OP_steps Rl := by
  intro kf rgt yct fctc Ap Fpc Ar nxi kni HA HFc M MFc p0 h
  unfold sX6_steps sX7_steps
  obtain ⟨hN, hH, hI⟩ := rl_open h
  obtain ⟨s, hA, hM, hInv, h14, h15⟩ := id hN
  have hM1 : MR ((sc M 0 0) 1) s := by rw [sc0 M 1 (by decide)]; exact hM
  rw [bd_eq]
  rcases in_cases p0 1 32 (by omega) (by omega) with ⟨c, d⟩ | ⟨n, h1, h2, rfl, c, d⟩
  · rw [show sX7_in p0 1 32 = some 0 from c, show sX6_within p0 1 32 = some 0 from d, bind_s, bind_s, if_pos rfl, if_pos rfl]
    exact ⟨_, _, rfl, rfl, rfl, rl_sc h⟩
  · rw [show sX7_in (nI n) 1 32 = some 1 from c, show sX6_within (nI n) 1 32 = some 1 from d, bind_s, bind_s, if_neg (show ¬ (1 : Int32) = 0 by decide), if_neg (show ¬ (1 : Int32) = 0 by decide), m_mk hM1, hA.1 12 0 (by decide)]
    by_cases hm : s.1 12 0 = 0
    · rw [if_pos hm, if_pos hm]
      exact ⟨_, _, rfl, rfl, rfl, rl_sc h⟩
    · obtain ⟨nx', kn', HA', HF', N, G, e1, e2, ha, hf, n1, g2, hH', hI'⟩ := push_both hN hH hI (sc M 0 0) (sc0 M)
      have hA' : CR (HA' 0) s := by rw [ha]; exact hA
      have hM' : MR (N 1) s := by rw [n1]; exact hM
      obtain ⟨B, eB, hB, fB⟩ := c_stn n 0 n 2000 s HA' hA' hInv (by omega) (by omega) (by omega)
      obtain ⟨K, eK, hK, fK⟩ := m_stn n 0 n 2000 s N hM' hInv (by omega) (by omega) (by omega)
      rw [nI_0] at eB eK
      rw [if_neg hm, if_neg hm, e1, e2, bind_s, bind_s]
      dsimp only
      rw [eB, eK, bind_s, bind_s]
      have hR : Rl (kf, rgt, yct, fctc, Ap, Fpc, Ar, nx', kn', B, HF') K G := ⟨⟨stn n s, hB, hK, inv_stn n s hInv, by show HF' 0 14 0 = G 2 0; rw [hf, g2]; exact h14, by show HF' 0 15 0 = G 2 1; rw [hf, g2]; exact h15⟩, hist_same hH' (fun q h1 _ => ⟨fB q (by omega), rfl⟩) (fK 3 (by decide)) (fK 5 (by decide)) rfl, img_same hI' (fun q h1 _ => ⟨fB q (by omega), rfl⟩) (fK 6 (by decide)) (fK 8 (by decide)) rfl⟩
      refine ⟨_, _, rfl, rfl, ?_, hR⟩
      show B 0 19 0 = K 1 (Int32.toNatClampNeg 291)
      rw [m_gn hK, hB.2.2.1]
theorem op_pauses : OP_pauses Rl := by
  intro kf rgt yct fctc Ap Fpc Ar nxi kni HA HFc M MFc p0 h
  unfold sX6_pauses sX7_pauses
  obtain ⟨hN, hH, hI⟩ := rl_open h
  obtain ⟨s, hA, hM, hInv, h14, h15⟩ := id hN
  rw [bd_eq]
  rcases goal_cases p0 with ⟨a, b⟩ | ⟨a, b⟩
  · rw [a, b, bind_s, bind_s, if_pos rfl, if_pos rfl]
    exact ⟨_, _, rfl, rfl, rfl, rl_sc h⟩
  · obtain ⟨nx', kn', HA', HF', N, G, e1, e2, ha, hf, n1, g2, hH', hI'⟩ := push_both hN hH hI (sc M 0 0) (sc0 M)
    obtain ⟨c, s', Q', B, Fp', Fh', K, F', r1, r2, r3, r4, r5, r6, r7, r8, r9⟩ := pause_both (A := HA' 0) (M := N) (by rw [ha]; exact hA) (by rw [n1]; exact hM) hInv (Fh := HF' 0) (F := G) (by rw [hf, g2]; exact h14) (by rw [hf, g2]; exact h15) p0 Ap Fpc
    rw [a, b, bind_s, bind_s, if_neg (show ¬ (1 : Int32) = 0 by decide), if_neg (show ¬ (1 : Int32) = 0 by decide), e1, e2, bind_s, bind_s]
    dsimp only
    rw [r1, r2, bind_s, bind_s, bd_eq, bd_eq]
    have hR : Rl (kf, rgt, yct, fctc, Q', Fp', Ar, nx', kn', upH HA' 0 B, upF HF' 0 Fh') K F' := by
      refine ⟨⟨s', by show CR (upH HA' 0 B 0) s'; rw [upH_at, if_pos rfl]; exact r3, r4, r5, by show upF HF' 0 Fh' 0 14 0 = _; rw [upF_at, if_pos rfl]; exact r6, by show upF HF' 0 Fh' 0 15 0 = _; rw [upF_at, if_pos rfl]; exact r7⟩, hist_same hH' (fun q h1 _ => ⟨by show upH HA' 0 B q = _; rw [upH_at, if_neg (by omega)], by show upF HF' 0 Fh' q = _; rw [upF_at, if_neg (by omega)]⟩) (r8 3 (by decide) (by decide) (by decide) (by decide)) (r8 5 (by decide) (by decide) (by decide) (by decide)) (r9 4 (by decide) (by decide)), img_same hI' (fun q h1 _ => ⟨by show upH HA' 0 B q = _; rw [upH_at, if_neg (by omega)], by show upF HF' 0 Fh' q = _; rw [upF_at, if_neg (by omega)]⟩) (r8 6 (by decide) (by decide) (by decide) (by decide)) (r8 8 (by decide) (by decide) (by decide) (by decide)) (r9 7 (by decide) (by decide))⟩
    exact ⟨_, _, rfl, rfl, rfl, hR⟩
