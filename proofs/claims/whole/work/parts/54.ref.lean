/-! ===== 54 the reference's pause ===== -/
theorem m_youngs {M : IA} {s : HS} (h : MR (M 1) s) : ∃ N, loopN sX7_pause_L30 2000 (0, sc M 23 0) = some N ∧ N 23 0 = (yg s.1 10).1 ∧ ∀ k, k ≠ 23 → N k = M k := by
  refine loop_inv 10 (fun i a => ∃ N : IA, a = (nI i, N) ∧ N 23 0 = (yg s.1 i).1 ∧ ∀ k, k ≠ 23 → N k = M k) (fun N : IA => N 23 0 = (yg s.1 10).1 ∧ ∀ k, k ≠ 23 → N k = M k) ?_ 2000 0 _ (Nat.zero_le _) (by omega) ⟨sc M 23 0, by rw [nI_0], sc_same _ _ _ _, fun k hk => sc_row_ne _ _ hk⟩
  rintro i a hi ⟨N, rfl, h1, h2⟩
  unfold sX7_pause_L30
  dsimp +instances only
  by_cases hlt : i < 10
  · left
    have hN : MR (N 1) s := by rw [h2 1 (by decide)]; exact h
    have ey : yg s.1 (i + 1) = if s.1 0 i = 1 then ((yg s.1 i).1 ||| (1 <<< (nI i &&& 31)), (yg s.1 i).2 + s.1 1 i) else yg s.1 i := rfl
    rw [if_neg (show ¬ (10 : Int32) ≤ nI i from nI_ge (b := 10) hlt (by omega)), m_kd hN hlt, bind_s, nI_1, ey, h1, or_0, bd_eq, bd_eq]
    by_cases hk : s.1 0 i = 1
    · rw [if_pos hk, if_pos hk]
      exact ⟨_, hlt, rfl, _, rfl, by rw [sc_same], fun k q => by rw [sc_row_ne _ _ q, h2 k q]⟩
    · rw [if_neg hk, if_neg hk]
      exact ⟨_, hlt, rfl, _, rfl, by rw [sc_same], fun k q => by rw [sc_row_ne _ _ q, h2 k q]⟩
  · right
    have hi2 : i = 10 := by omega
    subst hi2
    rw [if_pos (by decide)]
    exact ⟨N, rfl, h1, h2⟩
theorem mr_congr {S : Nat → Int32} {s q : HS} (h : MR S s) (h1 : ∀ k j, q.1 k j = s.1 k j) (h2 : q.2 = s.2) : MR S q := by
  have e : q = s := Prod.ext (funext fun k => funext fun j => h1 k j) h2
  rw [e]; exact h
theorem m_pause {M : IA} {s s1 : HS} (hM : MR (M 1) s) (hS : St s) (e1 : rfn 20 s = s1) (hS1 : St s1) {F : FA} {rate yl : UInt32} (h14 : F 2 0 = rate) (h15 : F 2 1 = yl) (goal : Int32) {m : Int32} {f : UInt32} (em : chz s1.1 rate yl (FP.i2f goal) = (m, f)) (hm : Chm s1.1 m) {X0 : List Int32} (eX : scA s1.1 m (scd s1.1 m) (x1st s1 m) = X0) {z : MS} {X : List Int32} (ez : mvl s1.1 m 32 0 ((s1, -9, 0, 0, 0), X0) = (z, X)) (hMI : MI s1 m z X X.length) {s2 : HS} (e2 : dC (scd s1.1 m) (dX X z.1) = s2) {s3 : HS} (e3 : swA m (bt z.2.2.1) s2 = s3) (hsz : ∀ x, x ∈ X → s3.1 4 x.toNatClampNeg = s1.1 4 x.toNatClampNeg) {x w : Int32} (hx : sX7_ones (scd s1.1 m) = some x) (ew : z.2.2.2.1 + 2 * x + 5 * z.2.2.2.2 = w) :
    ∃ N F', sX7_pause M F goal = some (10 + w, N, F') ∧ MR (N 1) (fin s3 (10 + w)) ∧ F' 2 0 = rtn rate w (smL (szf s1.1) X) ∧ F' 2 1 = rtn yl (smL (yof s1.1) X) (yg s1.1 10).2 ∧ (∀ k, k ≠ 1 → k ≠ 11 → k ≠ 13 → k < 14 ∨ 23 < k → N k = M k) ∧ ∀ k, k ≠ 2 → k ≠ 12 → F' k = F k := by
  have hl20 := hM.2.1.2
  obtain ⟨M1, eM1, hM1, f1⟩ := m_rfp 20 2000 s M hM hS.1 hl20 (by omega)
  rw [e1] at hM1
  obtain ⟨M2, F2, eM2, hch⟩ := m_choose hM1 (F := F) goal
  rw [h14, h15, em] at hch
  have hM2 : MR (M2 1) s1 := by rw [hch.1 1 (by decide) (by decide)]; exact hM1
  obtain ⟨M3, eM3, y3, f3⟩ := m_youngs hM2
  have hM3 : MR (M3 1) s1 := by rw [f3 1 (by decide)]; exact hM2
  have hmk : s1.2.2 ≠ [] → s1.1 12 0 = 1 := fun q => (hS1.2.2.2.2.2.1.resolve_left (fun w => q w.2)).1
  obtain ⟨M4, eM4, hp4, h18, f4⟩ := m_first hM3 hS1.1 hS1.2.2.2.1 hmk (m := m) (by rw [f3 11 (by decide)]; exact hch.2.2.1)
  rw [eX] at hp4
  have hM4 : MR (M4 1) s1 := by rw [f4 1 (by decide) (by decide) (by decide) (by decide) (by decide)]; exact hM3
  have hx0 : FX X0 := by rw [← eX]; exact fx_scA hS1.1 (fx_x1 hS1.1 m)
  have hfl0 : FL s1.1 m X0 := by rw [← eX]; exact fl_scA hS1 hm (fl_x1 hS1 hm)
  obtain ⟨M5, eM5⟩ : ∃ M5, M5 = sc (sc (sc (sc M4 19 (-9)) 20 0) 21 0) 22 0 := ⟨_, rfl⟩
  have f5 : ∀ k, k ≠ 19 → k ≠ 20 → k ≠ 21 → k ≠ 22 → M5 k = M4 k := fun k a b c d => by rw [eM5, sc_row_ne _ _ d, sc_row_ne _ _ c, sc_row_ne _ _ b, sc_row_ne _ _ a]
  have hp5 : PM M5 s1.1 m X0 := ⟨by rw [f5 14 (by decide) (by decide) (by decide) (by decide)]; exact hp4.1, fun i hi => by rw [f5 15 (by decide) (by decide) (by decide) (by decide)]; exact hp4.2.1 i hi, fun t ht => by rw [f5 16 (by decide) (by decide) (by decide) (by decide)]; exact hp4.2.2.1 t ht, fun t ht => by rw [f5 17 (by decide) (by decide) (by decide) (by decide)]; exact hp4.2.2.2.1 t ht, by rw [f5 11 (by decide) (by decide) (by decide) (by decide)]; exact hp4.2.2.2.2⟩
  have hmm5 : MvM M5 (s1, -9, 0, 0, 0) := by rw [eM5]; exact ⟨rfl, rfl, rfl, rfl⟩
  have hM5 : MR (M5 1) s1 := by rw [f5 1 (by decide) (by decide) (by decide) (by decide)]; exact hM4
  obtain ⟨M6, eM6, hM6, hp6, hmm6, f6⟩ := m_mvl hS1 hm 32 0 2000 (s1, -9, 0, 0, 0) X0 M5 rfl (by omega) (mi_init hS1 hx0 hfl0) hM5 hp5 hmm5
  rw [ez] at hM6 hp6 hmm6
  have h186 : M6 18 0 = scd s1.1 m := by rw [f6 18 (by decide) (by decide) (by decide) (by decide) (by decide) (by decide) (by decide) (by decide), f5 18 (by decide) (by decide) (by decide) (by decide)]; exact h18
  obtain ⟨M7, eM7, hM7, f7⟩ := m_dirtied hM6 hMI.1.1 hMI.2.2.1.1 hp6.1 hp6.2.1 h186
  rw [e2] at hM7
  obtain ⟨M8, eM8, hM8, f8⟩ := m_swept hM7 (m := m) (v := z.2.2.1) (by rw [f7 11 (by decide)]; exact hp6.2.2.2.2) (by rw [f7 20 (by decide)]; exact hmm6.2.1)
  rw [e3] at hM8
  have f86 : ∀ k, k ≠ 1 → M8 k = M6 k := fun k hk => by rw [f8 k hk, f7 k hk]
  have h13 : M8 13 0 = (yg s1.1 10).2 := by rw [f86 13 (by decide), f6 13 (by decide) (by decide) (by decide) (by decide) (by decide) (by decide) (by decide) (by decide), f5 13 (by decide) (by decide) (by decide) (by decide), f4 13 (by decide) (by decide) (by decide) (by decide) (by decide), f3 13 (by decide)]; exact hch.2.2.2.1
  have h23 : M8 23 0 = (yg s1.1 10).1 := by rw [f86 23 (by decide), f6 23 (by decide) (by decide) (by decide) (by decide) (by decide) (by decide) (by decide) (by decide), f5 23 (by decide) (by decide) (by decide) (by decide), f4 23 (by decide) (by decide) (by decide) (by decide) (by decide)]; exact y3
  have h21 : M8 21 0 = z.2.2.2.1 := by rw [f86 21 (by decide)]; exact hmm6.2.2.1
  have h22 : M8 22 0 = z.2.2.2.2 := by rw [f86 22 (by decide)]; exact hmm6.2.2.2
  have h188 : M8 18 0 = scd s1.1 m := by rw [f86 18 (by decide)]; exact h186
  have ecost : 10 + z.2.2.2.1 + 2 * x + 5 * z.2.2.2.2 = 10 + w := by rw [← ew, Int32.add_assoc, Int32.add_assoc, Int32.add_assoc]
  obtain ⟨F9, eF9, g0, g1, g2⟩ := m_learns hM8 (h0 := s1.1) (fun t ht => hS1.1.pl ht) hMI.2.2.1.1 (by rw [f86 14 (by decide)]; exact hp6.1) (fun i hi => by rw [f86 15 (by decide)]; exact hp6.2.1 i hi) (fun t ht => by rw [f86 17 (by decide)]; exact hp6.2.2.2.1 t ht) h23 (fun r hr => by
    have := bt_yg s1.1 10 (Nat.le_refl _) r (by omega)
    rw [this]
    exact ⟨fun q => q.2, fun q => ⟨hr, q⟩⟩) hsz F2 (10 + w)
  have eF0 : F2 2 = F 2 := hch.2.1 2 (by decide)
  rw [eF0, h14, Int32.add_comm 10 w, Int32.add_sub_cancel] at g0
  rw [eF0, h15, h13] at g1
  refine ⟨wr (wr (wr M8 1 293 (M8 1 293 + 1)) 1 294 (10 + w)) 1 295 (-9), F9, ?_, ?_, g0, g1, fun k a b c d => ?_, fun k a b => by rw [g2 k a, hch.2.1 k b]⟩
  · unfold sX7_pause
    rw [eM1, bind_s, eM2, bind_s, bd_eq, eM3, bind_s, eM4, bind_s, bd_eq, bd_eq, bd_eq, bd_eq, ← eM5, show loopN sX7_pause_L95 2000 (0, M5) = some M6 from by rw [← nI_0]; exact eM6, bind_s]
    cases h151 : loopN sX7_pause_L151 2000 (0, M6) with
    | none =>
      rw [h151] at eM7
      exact absurd eM7 (by intro q; cases q)
    | some q8 =>
      rw [h151, bind_s] at eM7
      rw [bind_s, eM7, bind_s, eM8, bind_s, h188, hx, bind_s, bd_eq, h21, h22, ecost, eF9, bind_s]
      rfl
  · have ha : MR ((wr (wr (wr M8 1 293 (M8 1 293 + 1)) 1 294 (10 + w)) 1 295 (-9)) 1) (wr (wr (wr s3.1 16 0 (M8 1 293 + 1)) 17 0 (10 + w)) 13 0 (-9), s3.2) := mr_wr (mr_wr (mr_wr hM8 (k := 16) (j := 0) (by decide) (by decide) _) (k := 17) (j := 0) (by decide) (by decide) _) (k := 13) (j := 0) (by decide) (by decide) _
    rw [show M8 1 293 = s3.1 16 0 from hM8.rd (k := 16) (j := 0) (by decide) (by decide)] at ha ⊢
    refine mr_congr ha (fun k j => ?_) rfl
    show wr (wr (wr s3.1 13 0 (-9)) 16 0 (s3.1 16 0 + 1)) 17 0 (10 + w) k j = wr (wr (wr s3.1 16 0 (s3.1 16 0 + 1)) 17 0 (10 + w)) 13 0 (-9) k j
    rw [wr_at, wr_at, wr_at, wr_at, wr_at, wr_at]
    by_cases q17 : k = 17 ∧ j = 0
    · rw [if_pos q17, if_neg (by omega), if_pos q17]
    · rw [if_neg q17]
      by_cases q16 : k = 16 ∧ j = 0
      · rw [if_pos q16, if_neg (by omega), if_neg q17, if_pos q16]
      · rw [if_neg q16, if_neg q17, if_neg q16]
  · rw [wr_row_ne _ _ _ a, wr_row_ne _ _ _ a, wr_row_ne _ _ _ a, f86 k a, f6 k a (by omega) (by omega) (by omega) (by omega) (by omega) (by omega) (by omega), f5 k (by omega) (by omega) (by omega) (by omega), f4 k (by omega) (by omega) (by omega) (by omega) (by omega), f3 k (by omega), hch.1 k b c, f1 k a]
