/-! ===== 68 undone; images; what would be ===== -/
theorem op_undo : OP_undo Rl := by
  intro kf rgt yct fctc Ap Fpc Ar nxi kni HA HFc M MFc h
  unfold sX6_undo sX7_undo
  obtain ⟨hN, hH, hI⟩ := rl_open h
  obtain ⟨n, k, hn, hk, rfl, rfl, e5, hs⟩ := hH
  have h5 : (sc M 0 0) 5 0 = nI k := by rw [sc0 M 5 (by decide)]; exact e5
  rw [bd_eq, h5]
  by_cases h0 : nI k = 0
  · rw [if_pos h0, if_pos h0]
    exact ⟨_, _, rfl, rfl, rfl, rl_sc h⟩
  · obtain ⟨j, rfl⟩ : ∃ j, k = j + 1 := ⟨k - 1, by
      have : k ≠ 0 := fun q => h0 (by rw [q]; rfl)
      omega⟩
    have hc := hs j (by omega)
    rw [show (n + 6 - (j + 1) + j) % 6 = (n + 5) % 6 by congr 1; omega] at hc
    obtain ⟨B, C, eB, hB⟩ := pop_eq hn (show j < 6 by omega) hc
    rw [if_neg h0, if_neg h0, eB, bind_s, bd_eq, nI_pred]
    obtain ⟨N, eN, f1, f2, f3⟩ := copy_loop (step := sX7_undo_L27) (src := 3) (dst := 1) (u := 0) (off := 296 * j) (by decide) (sc (sc M 0 0) 5 (nI j)) (fun i N hi hN' => by
      unfold sX7_undo_L27
      dsimp +instances only
      rw [if_neg (show ¬ (296 : Int32) ≤ nI i from nI_ge (b := 296) hi (by omega)), hN' 5 (by decide), sc_same, show (296 : Int32) * nI j + nI i = nI (296 * j + i) from by rw [show (296 : Int32) = nI 296 from rfl, pk_mul, nI_add], ck_nI (by omega) (by omega), ck_nI hi (by omega), nI_clamp (by omega), nI_clamp (by omega), nI_1, Nat.zero_add]
      rfl) (fun N => by
      unfold sX7_undo_L27
      dsimp +instances only
      rw [if_pos (show (296 : Int32) ≤ nI 296 by decide)])
    have n5 : N 5 0 = nI j := by rw [f1 5 (by decide), sc_same]
    have nk : ∀ q, q ≠ 0 → q ≠ 1 → q ≠ 5 → N q = M q := fun q a b c => by rw [f1 q b, sc_row_ne _ _ c, sc_row_ne _ _ a]
    rw [eN, bind_s, n5, mul2n, ck_nI (by omega) (by omega), nI_clamp (by omega), bd_eq, nI_1, ck_nI (by omega) (by omega), nI_clamp (by omega), bd_eq]
    have hR : Rl (kf, rgt, yct, fctc, Ap, Fpc, Ar, nI ((n + 5) % 6), nI j, upH HA 0 B, upF HFc 0 C) N (wrF (wrF MFc 2 (Int32.toNatClampNeg 0) (MFc 4 (2 * j))) 2 (Int32.toNatClampNeg 1) (wrF MFc 2 (Int32.toNatClampNeg 0) (MFc 4 (2 * j)) 4 (2 * j + 1))) := by
      refine ⟨?_, ⟨(n + 5) % 6, j, by omega, by omega, rfl, rfl, n5, fun i hi => ?_⟩, img_same hI (fun q h1 _ => ⟨by show upH HA 0 B q = _; rw [upH_at, if_neg (by omega)], by show upF HFc 0 C q = _; rw [upF_at, if_neg (by omega)]⟩) (nk 6 (by decide) (by decide) (by decide)) (nk 8 (by decide) (by decide) (by decide)) (by rw [wrF_ne _ _ _ (by decide), wrF_ne _ _ _ (by decide)])⟩
      · show Cq (upH HA 0 B 0) (upF HFc 0 C 0) (N 1) (wrF (wrF MFc 2 0 (MFc 4 (2 * j))) 2 1 (wrF MFc 2 0 (MFc 4 (2 * j)) 4 (2 * j + 1)) 2 0) (wrF (wrF MFc 2 0 (MFc 4 (2 * j))) 2 1 (wrF MFc 2 0 (MFc 4 (2 * j)) 4 (2 * j + 1)) 2 1)
        rw [upH_at, if_pos rfl, upF_at, if_pos rfl, wrF_at, if_neg (by decide), wrF_at, if_pos rfl, wrF_at, if_pos rfl, wrF_ne _ _ _ (by decide)]
        refine hB.copy (fun i hi => ?_)
        have := f2 i hi
        rw [Nat.zero_add] at this
        rw [this, sc_row_ne _ _ (by decide), sc_row_ne _ _ (by decide)]
      · have hci := hs i (by omega)
        rw [show (n + 6 - (j + 1) + i) % 6 = ((n + 5) % 6 + 6 - j + i) % 6 by omega] at hci
        show Cq (upH HA 0 B (2 + ((n + 5) % 6 + 6 - j + i) % 6)) (upF HFc 0 C (2 + ((n + 5) % 6 + 6 - j + i) % 6)) (fun q => N 3 (296 * i + q)) (wrF (wrF MFc 2 0 (MFc 4 (2 * j))) 2 1 (wrF MFc 2 0 (MFc 4 (2 * j)) 4 (2 * j + 1)) 4 (2 * i)) (wrF (wrF MFc 2 0 (MFc 4 (2 * j))) 2 1 (wrF MFc 2 0 (MFc 4 (2 * j)) 4 (2 * j + 1)) 4 (2 * i + 1))
        rw [upH_at, if_neg (by omega), upF_at, if_neg (by omega), nk 3 (by decide) (by decide) (by decide), wrF_ne _ _ _ (show 4 ≠ 2 by decide), wrF_ne _ _ _ (show 4 ≠ 2 by decide)]
        exact hci
    exact ⟨_, _, rfl, rfl, rfl, hR⟩
theorem op_keep : OP_keep Rl := by
  intro kf rgt yct fctc Ap Fpc Ar nxi kni HA HFc M MFc p0 h
  unfold sX6_keep sX7_keep
  obtain ⟨hN, hH, hI⟩ := rl_open h
  obtain ⟨s, hA, hM, hInv, h14, h15⟩ := id hN
  rw [bd_eq]
  rcases image_cases p0 with ⟨a, b⟩ | ⟨h01, a, b⟩
  · rw [a, b, bind_s, bind_s, if_pos rfl, if_pos rfl]
    exact ⟨_, _, rfl, rfl, rfl, rl_sc h⟩
  · obtain ⟨w, hw, rfl⟩ : ∃ w, w < 2 ∧ p0 = nI w := h01.elim (fun q => ⟨0, by omega, q⟩) (fun q => ⟨1, by omega, q⟩)
    obtain ⟨B, C, eB, hB⟩ := hN.like (HA (8 + w)) (HFc (8 + w))
    obtain ⟨N, eN, f1, f2, f3⟩ := copy_loop (step := sX7_keep_L18 (nI w)) (src := 1) (dst := 6) (u := 296 * w) (off := 0) (by decide) (sc M 0 0) (fun i N hi hN' => by
      unfold sX7_keep_L18
      dsimp +instances only
      rw [if_neg (show ¬ (296 : Int32) ≤ nI i from nI_ge (b := 296) hi (by omega)), ck_nI hi (by omega), show (296 : Int32) * nI w + nI i = nI (296 * w + i) from by rw [show (296 : Int32) = nI 296 from rfl, pk_mul, nI_add], ck_nI (by omega) (by omega), nI_clamp (by omega), nI_clamp (by omega), nI_1, Nat.zero_add]
      rfl) (fun N => by
      unfold sX7_keep_L18
      dsimp +instances only
      rw [if_pos (show (296 : Int32) ≤ nI 296 by decide)])
    have nk : ∀ q, q ≠ 0 → q ≠ 6 → N q = M q := fun q x y => by rw [f1 q y, sc_row_ne _ _ x]
    have hMN : MR ((wr N 8 w 1) 1) s := by rw [wr_row_ne _ _ _ (by decide), nk 1 (by decide) (by decide)]; exact hM
    rw [a, b, bind_s, bind_s, if_neg (show ¬ (1 : Int32) = 0 by decide), if_neg (show ¬ (1 : Int32) = 0 by decide), eN, bind_s, mul2n, ck_nI (show 2 * w < 4 by omega) (by omega), nI_clamp (show 2 * w < 2 ^ 31 by omega), bd_eq, nI_1, ck_nI (show 2 * w + 1 < 4 by omega) (by omega), nI_clamp (show 2 * w + 1 < 2 ^ 31 by omega), bd_eq, ck_nI hw (by omega), ck_nI hw (by omega), nI_clamp (show w < 2 ^ 31 by omega), bd_eq, m_things hMN, bind_s]
    have hcl : ∃ bx : Int32 × (Nat → Int32) × (Nat → IA) × (Nat → FA), (if nI w = 0 then ((sX1_becomeLike (HA 8) (HFc 8) (HA 0) (HFc 0)).bind fun z1 => bd (upH HA 8 (z1.1)) fun HA1 => bd (upF HFc 8 z1.2) fun HF1c => ck (nI w) 2 (bd (upd kf w 1) fun kf1 => (sX1_thingCount (HA1 0)).bind fun x2 => some (x2, kf1, HA1, HF1c))) else (if nI w = 1 then ((sX1_becomeLike (HA 9) (HFc 9) (HA 0) (HFc 0)).bind fun z2 => bd (upH HA 9 (z2.1)) fun HA2 => bd (upF HFc 9 z2.2) fun HF2c => ck (nI w) 2 (bd (upd kf w 1) fun kf2 => (sX1_thingCount (HA2 0)).bind fun x3 => some (x3, kf2, HA2, HF2c))) else (none))) = some (sm (fun t => if s.1 4 t ≤ 0 then 0 else 1) 32, upd kf w 1, upH HA (8 + w) B, upF HFc (8 + w) C) := by
      refine ⟨(0, kf, HA, HFc), ?_⟩
      rcases (show w = 0 ∨ w = 1 by omega) with q | q
      · subst q
        rw [if_pos (by decide), show sX1_becomeLike (HA 8) (HFc 8) (HA 0) (HFc 0) = some (B, C) from eB, bind_s, bd_eq, bd_eq, ck_nI (by omega) (by omega), bd_eq, show upH HA 8 B 0 = HA 0 from rfl, c_things hA, bind_s]
      · subst q
        rw [if_neg (by decide), if_pos (by decide), show sX1_becomeLike (HA 9) (HFc 9) (HA 0) (HFc 0) = some (B, C) from eB, bind_s, bd_eq, bd_eq, ck_nI (by omega) (by omega), bd_eq, show upH HA 9 B 0 = HA 0 from rfl, c_things hA, bind_s]
    obtain ⟨_, ecl⟩ := hcl
    rw [ecl]
    have hR : Rl (upd kf w 1, rgt, yct, fctc, Ap, Fpc, Ar, nxi, kni, upH HA (8 + w) B, upF HFc (8 + w) C) (wr N 8 w 1) (wrF (wrF MFc 7 (2 * w) (MFc 2 (Int32.toNatClampNeg 0))) 7 (2 * w + 1) (wrF MFc 7 (2 * w) (MFc 2 (Int32.toNatClampNeg 0)) 2 (Int32.toNatClampNeg 1))) := by
      refine ⟨?_, hist_same hH (fun q _ h2 => ⟨by show upH HA (8 + w) B q = _; rw [upH_at, if_neg (by omega)], by show upF HFc (8 + w) C q = _; rw [upF_at, if_neg (by omega)]⟩) (by rw [wr_row_ne _ _ _ (by decide), nk 3 (by decide) (by decide)]) (by rw [wr_row_ne _ _ _ (by decide), nk 5 (by decide) (by decide)]) (by rw [wrF_ne _ _ _ (by decide), wrF_ne _ _ _ (by decide)]), fun i hi => ?_⟩
      · show Cq (upH HA (8 + w) B 0) (upF HFc (8 + w) C 0) (wr N 8 w 1 1) (wrF (wrF MFc 7 (2 * w) (MFc 2 0)) 7 (2 * w + 1) (wrF MFc 7 (2 * w) (MFc 2 0) 2 1) 2 0) (wrF (wrF MFc 7 (2 * w) (MFc 2 0)) 7 (2 * w + 1) (wrF MFc 7 (2 * w) (MFc 2 0) 2 1) 2 1)
        rw [upH_at, if_neg (by omega), upF_at, if_neg (by omega), wr_row_ne _ _ _ (by decide), nk 1 (by decide) (by decide), wrF_ne _ _ _ (show 2 ≠ 7 by decide), wrF_ne _ _ _ (show 2 ≠ 7 by decide)]
        exact hN
      · show (upd kf w 1 i = 0 ∧ wr N 8 w 1 8 i = 0) ∨ (upd kf w 1 i = 1 ∧ wr N 8 w 1 8 i = 1 ∧ Cq (upH HA (8 + w) B (8 + i)) (upF HFc (8 + w) C (8 + i)) (fun n => wr N 8 w 1 6 (296 * i + n)) (wrF (wrF MFc 7 (2 * w) (MFc 2 0)) 7 (2 * w + 1) (wrF MFc 7 (2 * w) (MFc 2 0) 2 1) 7 (2 * i)) (wrF (wrF MFc 7 (2 * w) (MFc 2 0)) 7 (2 * w + 1) (wrF MFc 7 (2 * w) (MFc 2 0) 2 1) 7 (2 * i + 1)))
        rw [upd_at, wr_at, upH_at, upF_at, wr_row_ne N w 1 (show 6 ≠ 8 by decide)]
        by_cases e : i = w
        · subst e
          right
          rw [if_pos rfl, if_pos ⟨rfl, rfl⟩, if_pos rfl, if_pos rfl, wrF_at, if_neg (by omega), wrF_at, if_pos rfl, wrF_at, if_pos rfl, wrF_ne _ _ _ (show 2 ≠ 7 by decide)]
          exact ⟨rfl, rfl, hB.copy (fun n hn => by rw [f2 n hn, Nat.zero_add, sc_row_ne _ _ (by decide)])⟩
        · rw [if_neg e, if_neg (fun q => e q.2), if_neg (by omega), if_neg (by omega), wrF_at, if_neg (by omega), wrF_at, if_neg (by omega), wrF_at, if_neg (by omega), wrF_at, if_neg (by omega), nk 8 (by decide) (by decide)]
          rcases hI i hi with q | q
          · exact Or.inl q
          · refine Or.inr ⟨q.1, q.2.1, q.2.2.copy (fun n hn => ?_)⟩
            rw [f3 _ (by omega), sc_row_ne _ _ (by decide)]
    exact ⟨_, _, rfl, rfl, rfl, hR⟩
theorem op_back : OP_back Rl := by
  intro kf rgt yct fctc Ap Fpc Ar nxi kni HA HFc M MFc p0 h
  unfold sX6_back sX7_back sX2_forget
  obtain ⟨hN, hH, hI⟩ := rl_open h
  obtain ⟨n, k, hn, hk, rfl, rfl, e5, hs⟩ := id hH
  rw [bd_eq, bd_eq]
  rcases image_cases p0 with ⟨a, b⟩ | ⟨h01, a, b⟩
  · rw [a, b, bind_s, bind_s, if_pos rfl, if_pos rfl]
    exact ⟨_, _, rfl, rfl, rfl, rl_sc h⟩
  · obtain ⟨w, hw, rfl⟩ : ∃ w, w < 2 ∧ p0 = nI w := h01.elim (fun q => ⟨0, by omega, q⟩) (fun q => ⟨1, by omega, q⟩)
    rw [a, b, bind_s, bind_s, if_neg (show ¬ (1 : Int32) = 0 by decide), if_neg (show ¬ (1 : Int32) = 0 by decide), ck_nI hw (by omega), nI_clamp (by omega), ck_nI hw (by omega), ck_nI hw (by omega), sc0 M 8 (by decide)]
    rcases hI w hw with ⟨q1, q2⟩ | ⟨q1, q2, hc⟩
    · rw [q1, q2, if_pos rfl, if_pos rfl]
      exact ⟨_, _, rfl, rfl, rfl, rl_sc h⟩
    · obtain ⟨B, C, eB, hB⟩ := hc.like (HA 0) (HFc 0)
      obtain ⟨N, eN, f1, f2, f3⟩ := copy_loop (step := sX7_back_L30 (nI w)) (src := 6) (dst := 1) (u := 0) (off := 296 * w) (by decide) (sc M 0 0) (fun i N hi hN' => by
        unfold sX7_back_L30
        dsimp +instances only
        rw [if_neg (show ¬ (296 : Int32) ≤ nI i from nI_ge (b := 296) hi (by omega)), show (296 : Int32) * nI w + nI i = nI (296 * w + i) from by rw [show (296 : Int32) = nI 296 from rfl, pk_mul, nI_add], ck_nI (by omega) (by omega), ck_nI hi (by omega), nI_clamp (by omega), nI_clamp (by omega), nI_1, Nat.zero_add]
        rfl) (fun N => by
        unfold sX7_back_L30
        dsimp +instances only
        rw [if_pos (show (296 : Int32) ≤ nI 296 by decide)])
      have nk : ∀ q, q ≠ 0 → q ≠ 1 → q ≠ 5 → sc N 5 0 q = M q := fun q x y z => by rw [sc_row_ne _ _ z, f1 q y, sc_row_ne _ _ x]
      have hB2 : Cq B C (sc N 5 0 1) (MFc 7 (2 * w)) (MFc 7 (2 * w + 1)) := hB.copy (fun i hi => by
        have := f2 i hi
        rw [Nat.zero_add] at this
        rw [sc_row_ne _ _ (by decide), this, sc_row_ne _ _ (by decide)])
      obtain ⟨s, hBs, hMs, _, _, _⟩ := id hB2
      have hcl : (if nI w = 0 then ((sX1_becomeLike (HA 0) (HFc 0) (HA 8) (HFc 8)).bind fun z1 => bd (upH HA 0 (z1.1)) fun HA1 => bd (upF HFc 0 z1.2) fun HF1c => (some (nI n, (0 : Int32))).bind fun z2 => (sX1_thingCount (HA1 0)).bind fun x2 => some (x2, z2.1, z2.2, HA1, HF1c)) else (if nI w = 1 then ((sX1_becomeLike (HA 0) (HFc 0) (HA 9) (HFc 9)).bind fun z3 => bd (upH HA 0 (z3.1)) fun HA2 => bd (upF HFc 0 z3.2) fun HF2c => (some (nI n, (0 : Int32))).bind fun z4 => (sX1_thingCount (HA2 0)).bind fun x3 => some (x3, z4.1, z4.2, HA2, HF2c)) else (none))) = some (sm (fun t => if s.1 4 t ≤ 0 then 0 else 1) 32, nI n, 0, upH HA 0 B, upF HFc 0 C) := by
        rcases (show w = 0 ∨ w = 1 by omega) with q | q
        · subst q
          rw [if_pos (by decide), show sX1_becomeLike (HA 0) (HFc 0) (HA 8) (HFc 8) = some (B, C) from eB, bind_s, bd_eq, bd_eq, bind_s, show upH HA 0 B 0 = B from rfl, c_things hBs, bind_s]
        · subst q
          rw [if_neg (by decide), if_pos (by decide), show sX1_becomeLike (HA 0) (HFc 0) (HA 9) (HFc 9) = some (B, C) from eB, bind_s, bd_eq, bd_eq, bind_s, show upH HA 0 B 0 = B from rfl, c_things hBs, bind_s]
      rw [q1, q2, if_neg (show ¬ (1 : Int32) = 0 by decide), if_neg (show ¬ (1 : Int32) = 0 by decide), hcl, eN, bind_s, mul2n, ck_nI (show 2 * w < 4 by omega) (by omega), nI_clamp (show 2 * w < 2 ^ 31 by omega), bd_eq, nI_1, ck_nI (show 2 * w + 1 < 4 by omega) (by omega), nI_clamp (show 2 * w + 1 < 2 ^ 31 by omega), bd_eq, bd_eq, m_things hMs, bind_s]
      have hR : Rl (kf, rgt, yct, fctc, Ap, Fpc, Ar, nI n, 0, upH HA 0 B, upF HFc 0 C) (sc N 5 0) (wrF (wrF MFc 2 (Int32.toNatClampNeg 0) (MFc 7 (2 * w))) 2 (Int32.toNatClampNeg 1) (wrF MFc 2 (Int32.toNatClampNeg 0) (MFc 7 (2 * w)) 7 (2 * w + 1))) := by
        refine ⟨?_, ⟨n, 0, hn, by omega, rfl, rfl, sc_same _ _ _ _, fun j hj => absurd hj (Nat.not_lt_zero j)⟩, img_same hI (fun q h1 _ => ⟨by show upH HA 0 B q = _; rw [upH_at, if_neg (by omega)], by show upF HFc 0 C q = _; rw [upF_at, if_neg (by omega)]⟩) (nk 6 (by decide) (by decide) (by decide)) (nk 8 (by decide) (by decide) (by decide)) (by rw [wrF_ne _ _ _ (by decide), wrF_ne _ _ _ (by decide)])⟩
        show Cq (upH HA 0 B 0) (upF HFc 0 C 0) (sc N 5 0 1) (wrF (wrF MFc 2 0 (MFc 7 (2 * w))) 2 1 (wrF MFc 2 0 (MFc 7 (2 * w)) 7 (2 * w + 1)) 2 0) (wrF (wrF MFc 2 0 (MFc 7 (2 * w))) 2 1 (wrF MFc 2 0 (MFc 7 (2 * w)) 7 (2 * w + 1)) 2 1)
        rw [upH_at, if_pos rfl, upF_at, if_pos rfl, wrF_at, if_neg (by decide), wrF_at, if_pos rfl, wrF_at, if_pos rfl, wrF_ne _ _ _ (by decide)]
        exact hB2
      exact ⟨_, _, rfl, rfl, rfl, hR⟩
