/-! ===== 44 what is found first, both sides ===== -/
theorem fx_nil : FX [] := ⟨fun _ q => absurd q List.not_mem_nil, List.nodup_nil⟩
theorem fx_xr {s : HS} (w : Wf s) (m : Int32) : FX (xr s.1 m) := it_inv (fun _ X => FX X) 6 fx_nil (fun i _ hi h => fx_fd h (w.2.2.1 i hi))
theorem nl_rg {v : Int32} (h : Rg 32 v) : Nl v := Or.inr h
theorem getD_mem {L : List Int32} {i : Nat} (h : i < L.length) : L.getD i 0 ∈ L := by
  rw [List.getD_eq_getElem?_getD, List.getElem?_eq_getElem h]
  exact List.getElem_mem h
theorem fx_fdl {s : HS} (w : Wf s) (m : Int32) {X : List Int32} (hx : FX X) : ∀ i, i ≤ s.2.2.length → FX (fdl s.1 m (s.2.2.take i) X) := by
  intro i
  induction i with
  | zero => intro _; rw [List.take_zero]; exact hx
  | succ i ih =>
    intro hi
    rw [fdl_next _ _ _ _ (by omega)]
    exact fx_fd (ih (by omega)) (nl_rg (w.2.2.2.2.2.1 _ (getD_mem (by omega))))
def x1st (s : HS) (m : Int32) : List Int32 := fdl s.1 m s.2.2 (xr s.1 m)
theorem fx_x1 {s : HS} (w : Wf s) (m : Int32) : FX (x1st s m) := by
  have := fx_fdl w m (fx_xr w m) s.2.2.length (Nat.le_refl _)
  rw [List.take_length] at this
  exact this
theorem c_first {A : IA} {s : HS} (h : CR A s) (w : Wf s) {Q : IA} {m : Int32} (hq : PQ Q s.1 m []) : ∃ Q', sX3_findFirst Q A = some Q' ∧ PQ Q' s.1 m (x1st s m) ∧ FQ Q Q' := by
  obtain ⟨Q1, e1, h1, hx1⟩ := for_rel (step := sX3_findFirst_L2 A) (fun r X => fd s.1 m (s.1 9 r) X) (fun X x => PQ x s.1 m X ∧ FQ Q x) (fun _ X => FX X) 6 (by omega)
    (fun i X x hi hX hr => by
      obtain ⟨Q', e, g1, g2⟩ := c_find h w hr.1 hX (Cp.refl s m X) (w.2.2.1 i hi)
      unfold sX3_findFirst_L2
      dsimp +instances only
      rw [if_neg (show ¬ (6 : Int32) ≤ nI i from nI_ge (b := 6) hi (by omega)), ck_nI hi (by omega), nI_clamp (by omega), h.1 9 i (w_rt hi), e, bind_s, nI_1]
      exact ⟨Q', rfl, ⟨g1, hr.2.trans g2⟩, fx_fd hX (w.2.2.1 i hi)⟩)
    (fun X x _ _ => by
      unfold sX3_findFirst_L2
      dsimp +instances only
      rw [if_pos (show (6 : Int32) ≤ nI 6 by decide)]) (s := []) fx_nil ⟨hq, FQ.refl Q⟩
  have hg := h.2.2
  have hg32 := hg.2.1
  have key : ∃ b, loopN (sX3_findFirst_L27 A) 2000 (0, Q1) = some b ∧ (PQ b s.1 m (x1st s m) ∧ FQ Q b) := by
    refine loop_inv s.2.2.length (fun i a => ∃ b, a = (nI i, b) ∧ PQ b s.1 m (fdl s.1 m (s.2.2.take i) (xr s.1 m)) ∧ FQ Q b) (fun b => PQ b s.1 m (x1st s m) ∧ FQ Q b) ?_ 2000 0 _ (Nat.zero_le _) (by omega) ⟨Q1, by rw [nI_0], by rw [List.take_zero]; exact h1.1, h1.2⟩
    rintro i a hi ⟨b, rfl, g1, g2⟩
    unfold sX3_findFirst_L27
    dsimp +instances only
    by_cases hlt : i < s.2.2.length
    · left
      obtain ⟨Q', e, g3, g4⟩ := c_find h w g1 (fx_fdl w m (fx_xr w m) i (by omega)) (Cp.refl s m _) (nl_rg (w.2.2.2.2.2.1 _ (getD_mem hlt)))
      rw [if_neg (show ¬ (32 : Int32) ≤ nI i from nI_ge (b := 32) (by omega) (by omega)), if_neg (by rw [hg.1]; exact nI_ge hlt (by omega)), itemAt_spec hg hlt, bind_s, e, bind_s, nI_1]
      exact ⟨_, hlt, rfl, Q', rfl, by rw [fdl_next _ _ _ _ hlt]; exact g3, g2.trans g4⟩
    · right
      have hi2 : i = s.2.2.length := by omega
      subst hi2
      rw [List.take_length] at g1
      by_cases h9 : (32 : Int32) ≤ nI s.2.2.length
      · rw [if_pos h9]
        exact ⟨b, rfl, g1, g2⟩
      · rw [if_neg h9, if_pos (by rw [hg.1]; exact nI_le (Nat.le_refl _) (by omega))]
        exact ⟨b, rfl, g1, g2⟩
  obtain ⟨b, e, hb⟩ := key
  refine ⟨b, ?_, hb⟩
  unfold sX3_findFirst
  rw [e1, bind_s, e]
  rfl
theorem m_first {M : IA} {s : HS} (h : MR (M 1) s) (w : Wf s) (hu : Uq s.1) (hmk : s.2.2 ≠ [] → s.1 12 0 = 1) {m : Int32} (hm : M 11 0 = m) : ∃ N, sX7_findsFirst M = some N ∧ PM N s.1 m (scA s.1 m (scd s.1 m) (x1st s m)) ∧ N 18 0 = scd s.1 m ∧ ∀ k, k ≠ 14 → k ≠ 15 → k ≠ 16 → k ≠ 17 → k ≠ 18 → N k = M k := by
  have hp : ∀ t, t < 32 → s.1 5 t = nI (pP s.1 t) ∧ pP s.1 t < 10 := fun t ht => w.pl ht
  have k1 : ∃ b, loopN sX7_findsFirst_L7 2000 (0, sc M 14 0) = some b ∧ (PM b s.1 m [] ∧ ∀ k, k ≠ 14 → k ≠ 16 → k ≠ 17 → b k = M k) := by
    refine loop_inv 32 (fun i a => ∃ b : IA, a = (nI i, b) ∧ b 14 0 = 0 ∧ (∀ t, t < i → b 16 t = 0 ∧ b 17 t = s.1 5 t) ∧ ∀ k, k ≠ 14 → k ≠ 16 → k ≠ 17 → b k = M k) (fun b => PM b s.1 m [] ∧ ∀ k, k ≠ 14 → k ≠ 16 → k ≠ 17 → b k = M k) ?_ 2000 0 _ (Nat.zero_le _) (by omega) ⟨sc M 14 0, by rw [nI_0], sc_same _ _ _ _, fun t ht => by omega, fun k a _ _ => sc_row_ne _ _ a⟩
    rintro i a hi ⟨b, rfl, g1, g2, g3⟩
    unfold sX7_findsFirst_L7
    dsimp +instances only
    by_cases hlt : i < 32
    · left
      have hb1 : MR ((wr b 16 i 0) 1) s := by rw [wr_row_ne _ _ _ (by decide), g3 1 (by decide) (by decide) (by decide)]; exact h
      rw [if_neg (show ¬ (32 : Int32) ≤ nI i from nI_ge (b := 32) hlt (by omega)), ck_nI hlt (by omega), nI_clamp (by omega), bd_eq, m_pl hb1 hlt, bind_s, ck_nI hlt (by omega), bd_eq, nI_1]
      refine ⟨_, hlt, rfl, _, rfl, ?_, fun t ht => ⟨?_, ?_⟩, fun k a1 a2 a3 => ?_⟩
      · rw [wr_row_ne _ _ _ (by decide), wr_row_ne _ _ _ (by decide)]; exact g1
      · rw [wr_row_ne _ _ _ (by decide), wr_at]
        by_cases e : t = i
        · rw [if_pos ⟨rfl, e⟩]
        · rw [if_neg (fun q => e q.2)]; exact (g2 t (by omega)).1
      · rw [wr_at]
        by_cases e : t = i
        · rw [if_pos ⟨rfl, e⟩, e]
        · rw [if_neg (fun q => e q.2), wr_row_ne _ _ _ (by decide)]; exact (g2 t (by omega)).2
      · rw [wr_row_ne _ _ _ a3, wr_row_ne _ _ _ a2, g3 k a1 a2 a3]
    · right
      have hi2 : i = 32 := by omega
      subst hi2
      rw [if_pos (by decide)]
      refine ⟨b, rfl, ⟨g1, fun j hj => absurd hj (Nat.not_lt_zero j), fun t ht => by rw [if_neg List.not_mem_nil]; exact (g2 t ht).1, fun t ht => (g2 t ht).2, by rw [g3 11 (by decide) (by decide) (by decide)]; exact hm⟩, g3⟩
  obtain ⟨N1, e1, p1, f1⟩ := k1
  have hN1 : MR (N1 1) s := by rw [f1 1 (by decide) (by decide) (by decide)]; exact h
  obtain ⟨N2, e2, h2, hx2⟩ := for_rel (step := sX7_findsFirst_L40) (fun r X => fd s.1 m (s.1 9 r) X) (fun X x => PM x s.1 m X ∧ FM N1 x) (fun _ X => FX X) 6 (by omega)
    (fun i X x hi hX hr => by
      have hy : MR (x 1) s := by rw [hr.2 1 (by decide) (by decide) (by decide)]; exact hN1
      obtain ⟨Q', e, g1, g2⟩ := m_find hp hr.1 hX (w.2.2.1 i hi)
      unfold sX7_findsFirst_L40
      dsimp +instances only
      rw [if_neg (show ¬ (6 : Int32) ≤ nI i from nI_ge (b := 6) hi (by omega)), show (192 : Int32) + nI i = nI (192 + i) from nI_add 192 i, ck_nI (by omega) (by omega), nI_clamp (by omega), m_root hy hi, e, bind_s, nI_1]
      exact ⟨Q', rfl, ⟨g1, hr.2.trans g2⟩, fx_fd hX (w.2.2.1 i hi)⟩)
    (fun X x _ _ => by
      unfold sX7_findsFirst_L40
      dsimp +instances only
      rw [if_pos (show (6 : Int32) ≤ nI 6 by decide)]) (s := []) fx_nil ⟨p1, FM.refl N1⟩
  have hl32 := h.2.2.2
  have k3 : ∃ b, loopN sX7_findsFirst_L68 2000 (0, N2) = some b ∧ (PM b s.1 m (x1st s m) ∧ FM N1 b) := by
    refine loop_inv s.2.2.length (fun i a => ∃ b, a = (nI i, b) ∧ PM b s.1 m (fdl s.1 m (s.2.2.take i) (xr s.1 m)) ∧ FM N1 b) (fun b => PM b s.1 m (x1st s m) ∧ FM N1 b) ?_ 2000 0 _ (Nat.zero_le _) (by omega) ⟨N2, by rw [nI_0], by rw [List.take_zero]; exact h2.1, h2.2⟩
    rintro i a hi ⟨b, rfl, g1, g2⟩
    have hy : MR (b 1) s := by rw [g2 1 (by decide) (by decide) (by decide)]; exact hN1
    unfold sX7_findsFirst_L68
    dsimp +instances only
    by_cases hlt : i < s.2.2.length
    · left
      obtain ⟨Q', e, g3, g4⟩ := m_find hp g1 (fx_fdl w m (fx_xr w m) i (by omega)) (nl_rg (w.2.2.2.2.2.1 _ (getD_mem hlt)))
      rw [if_neg (by rw [m_gn hy]; exact nI_ge hlt (by omega)), m_mk hy, if_pos (hmk (fun q => by rw [q] at hlt; exact absurd hlt (Nat.not_lt_zero i))), show (259 : Int32) + nI i = nI (259 + i) from nI_add 259 i, ck_nI (by omega) (by omega), nI_clamp (by omega), hy.2.2.1.2 i hlt, e, bind_s, nI_1]
      exact ⟨_, hlt, rfl, Q', rfl, by rw [fdl_next _ _ _ _ hlt]; exact g3, g2.trans g4⟩
    · right
      have hi2 : i = s.2.2.length := by omega
      subst hi2
      rw [List.take_length] at g1
      rw [if_pos (by rw [m_gn hy]; exact nI_le (Nat.le_refl _) (by omega))]
      exact ⟨b, rfl, g1, g2⟩
  obtain ⟨N3, e3, p3, f3⟩ := k3
  have hN3 : MR (N3 1) s := by rw [f3 1 (by decide) (by decide) (by decide)]; exact hN1
  have e4 := m_rem hN3 p3.2.2.2.2
  have p4 : PM (sc N3 18 (scd s.1 m)) s.1 m (x1st s m) := by
    refine ⟨?_, fun i hi => ?_, fun t ht => ?_, fun t ht => ?_, ?_⟩
    · rw [sc_row_ne _ _ (by decide)]; exact p3.1
    · rw [sc_row_ne _ _ (by decide)]; exact p3.2.1 i hi
    · rw [sc_row_ne _ _ (by decide)]; exact p3.2.2.1 t ht
    · rw [sc_row_ne _ _ (by decide)]; exact p3.2.2.2.1 t ht
    · rw [sc_row_ne _ _ (by decide)]; exact p3.2.2.2.2
  have hN4 : MR ((sc N3 18 (scd s.1 m)) 1) s := by rw [sc_row_ne _ _ (by decide)]; exact hN3
  obtain ⟨N5, e5, h5, _⟩ := for_rel (step := sX7_findsFirst_L122) (fun card X => if bt (scd s.1 m) card = true then sc1 s.1 m card X else X) (fun X x => PM x s.1 m X ∧ FM (sc N3 18 (scd s.1 m)) x) (fun _ X => FX X) 20 (by omega)
    (fun i X x hi hX hr => by
      have hy : MR (x 1) s := by rw [hr.2 1 (by decide) (by decide) (by decide)]; exact hN4
      unfold sX7_findsFirst_L122
      dsimp +instances only
      rw [if_neg (show ¬ (20 : Int32) ≤ nI i from nI_ge (b := 20) hi (by omega)), show x 18 0 = scd s.1 m from by rw [hr.2 18 (by decide) (by decide) (by decide), sc_same], hb_val _ (by omega), nI_1]
      by_cases hb : bt (scd s.1 m) i = true
      · obtain ⟨N, e, g1, g2⟩ := m_sc1 hy w hu hr.1 hX hi
        rw [if_pos hb, if_pos hb, if_pos rfl, e, bind_s]
        exact ⟨N, rfl, ⟨g1, hr.2.trans g2⟩, fx_sc1 w hX⟩
      · rw [if_neg hb, if_neg hb, if_neg (by decide)]
        exact ⟨x, rfl, hr, hX⟩)
    (fun X x _ _ => by
      unfold sX7_findsFirst_L122
      dsimp +instances only
      rw [if_pos (show (20 : Int32) ≤ nI 20 by decide)]) (s := x1st s m) (fx_x1 w m) ⟨p4, FM.refl _⟩
  refine ⟨N5, ?_, h5.1, ?_, ?_⟩
  · unfold sX7_findsFirst
    rw [bd_eq, e1, bind_s, e2, bind_s, e3, bind_s, e4, bind_s, bd_eq, e5]
    rfl
  · rw [h5.2 18 (by decide) (by decide) (by decide), sc_same]
  · intro k a1 a2 a3 a4 a5
    rw [h5.2 k a1 a2 a3, sc_row_ne _ _ a5, f3 k a1 a2 a3, f1 k a1 a3 a4]
