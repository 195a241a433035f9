/-! ===== 74 the reference makes a thing; big things ===== -/
theorem upd_comm (S : Nat → Int32) {a b : Nat} (h : a ≠ b) (x y : Int32) : upd (upd S a x) b y = upd (upd S b y) a x := by
  funext n
  rw [upd_at, upd_at, upd_at, upd_at]
  by_cases e : n = b
  · rw [if_pos e, if_neg (by omega), if_pos e]
  · rw [if_neg e, if_neg e]
def lie (t : Nat) (z r c : Int32) (s : HS) : HS := (wr (wr (wr (wr (wr (wr s.1 5 t r) 6 t c) 7 (2 * t) (-5)) 7 (2 * t + 1) (-5)) 8 t 2) 4 t z, s.2)
theorem m_lies {M : IA} {s : HS} (h : MR (M 1) s) {t : Nat} (ht : t < 32) (hd : s.1 4 t ≤ 0) (z r c : Int32) : ∃ N, sX7_lies M (nI t) z r c = some N ∧ MR (N 1) (lie t z r c s) ∧ Fr M N := by
  refine ⟨wr (wr (wr (wr (wr (wr M 1 (6 * t) z) 1 (6 * t + 1) r) 1 (6 * t + 2) c) 1 (6 * t + 3) (-5)) 1 (6 * t + 4) (-5)) 1 (6 * t + 5) 2, ?_, ?_, fun k hk => ?_⟩
  · unfold sX7_lies
    rw [show (6 : Int32) * nI t + 0 = nI (6 * t) from mul6 t 0, show (6 : Int32) * nI t + 1 = nI (6 * t + 1) from mul6 t 1, show (6 : Int32) * nI t + 2 = nI (6 * t + 2) from mul6 t 2, show (6 : Int32) * nI t + 3 = nI (6 * t + 3) from mul6 t 3, nI_1, show (6 : Int32) * nI t + 5 = nI (6 * t + 5) from mul6 t 5, ck_nI (show 6 * t < 296 by omega) (by omega), nI_clamp (show 6 * t < 2 ^ 31 by omega), bd_eq, ck_nI (show 6 * t + 1 < 296 by omega) (by omega), nI_clamp (show 6 * t + 1 < 2 ^ 31 by omega), bd_eq, ck_nI (show 6 * t + 2 < 296 by omega) (by omega), nI_clamp (show 6 * t + 2 < 2 ^ 31 by omega), bd_eq, ck_nI (show 6 * t + 3 < 296 by omega) (by omega), nI_clamp (show 6 * t + 3 < 2 ^ 31 by omega), bd_eq, ck_nI (show 6 * t + 3 + 1 < 296 by omega) (by omega), nI_clamp (show 6 * t + 3 + 1 < 2 ^ 31 by omega), bd_eq, ck_nI (show 6 * t + 5 < 296 by omega) (by omega), nI_clamp (show 6 * t + 5 < 2 ^ 31 by omega), bd_eq]
  · rw [wr_row, wr_row, wr_row, wr_row, wr_row, wr_row, upd_comm _ (show 6 * t ≠ 6 * t + 1 by omega), upd_comm _ (show 6 * t ≠ 6 * t + 2 by omega), upd_comm _ (show 6 * t ≠ 6 * t + 3 by omega), upd_comm _ (show 6 * t ≠ 6 * t + 4 by omega), upd_comm _ (show 6 * t ≠ 6 * t + 5 by omega)]
    have h1 := mr_upd h (k := 5) (w_th ht (by omega) (by omega) (by omega)) (by decide) r
    have h2 := mr_upd h1 (k := 6) (w_th ht (by omega) (by omega) (by omega)) (by decide) c
    have h3 := mr_upd h2 (k := 7) (w_fd (show 2 * t < 64 by omega)) (by decide) (-5)
    have h4 := mr_upd h3 (k := 7) (w_fd (show 2 * t + 1 < 64 by omega)) (by decide) (-5)
    have h5 := mr_upd h4 (k := 8) (w_th ht (by omega) (by omega) (by omega)) (by decide) 2
    have l0 : lc 7 (2 * t) = 6 * t + 3 := lc_fd (f := 0) (by omega)
    have l1 : lc 7 (2 * t + 1) = 6 * t + 4 := lc_fd (f := 1) (by omega)
    rw [show lc 5 t = 6 * t + 1 from rfl, show lc 6 t = 6 * t + 2 from rfl, l0, l1, show lc 8 t = 6 * t + 5 from rfl] at h5
    refine mr_updg h5 (k := 4) (w_th ht (by omega) (by omega) (by omega)) z (fun b hb' hlb => Or.inl ?_)
    have hlb2 : ¬ wr s.1 4 t z 4 (b / 2) ≤ 0 := hlb
    by_cases e : b / 2 = t
    · rcases (show b = 2 * t ∨ b = 2 * t + 1 by omega) with q | q
      · rw [q, l0, upd_at, if_neg (by omega), upd_at, if_neg (by omega), upd_at, if_pos rfl]
        show _ = wr (wr (wr (wr (wr s.1 5 t r) 6 t c) 7 (2 * t) (-5)) 7 (2 * t + 1) (-5)) 8 t 2 7 (2 * t)
        rw [wr_row_ne _ _ _ (by decide), wr_at, if_neg (by omega), wr_at, if_pos ⟨rfl, rfl⟩]
      · rw [q, l1, upd_at, if_neg (by omega), upd_at, if_pos rfl]
        show _ = wr (wr (wr (wr (wr s.1 5 t r) 6 t c) 7 (2 * t) (-5)) 7 (2 * t + 1) (-5)) 8 t 2 7 (2 * t + 1)
        rw [wr_row_ne _ _ _ (by decide), wr_at, if_pos ⟨rfl, rfl⟩]
    · rw [wr_at, if_neg (fun q => e q.2)] at hlb2
      exact h5.1 7 b hb' (fun _ => hlb2)
  · rw [wr_row_ne _ _ _ hk, wr_row_ne _ _ _ hk, wr_row_ne _ _ _ hk, wr_row_ne _ _ _ hk, wr_row_ne _ _ _ hk, wr_row_ne _ _ _ hk]
theorem lie_at (t : Nat) (z r c : Int32) (s : HS) (k i : Nat) : (lie t z r c s).1 k i = if k = 4 ∧ i = t then z else if k = 8 ∧ i = t then 2 else if k = 7 ∧ i = 2 * t + 1 then -5 else if k = 7 ∧ i = 2 * t then -5 else if k = 6 ∧ i = t then c else if k = 5 ∧ i = t then r else s.1 k i := by
  unfold lie
  show wr (wr (wr (wr (wr (wr s.1 5 t r) 6 t c) 7 (2 * t) (-5)) 7 (2 * t + 1) (-5)) 8 t 2) 4 t z k i = _
  rw [wr_at, wr_at, wr_at, wr_at, wr_at, wr_at]
theorem m_makeS {M : IA} {s : HS} (h : MR (M 1) s) {t z r : Nat} (ht : t < 32) (hd : s.1 4 t ≤ 0) (hr : r < 10) (hk : s.1 0 r = 0 ∨ (s.1 0 r = 1 ∧ s.1 13 0 = nI r)) : ∃ N, sX7_makesSmall M (nI t) (nI z) (nI r) = some N ∧ MR (N 1) (mkS t z r s) ∧ Fr M N := by
  unfold sX7_makesSmall
  rw [m_kd h hr, bind_s]
  have tail : ∀ (K : IA) (q : HS), MR (K 1) q → q.2 = s.2 → (∀ k i, q.1 k i = if k = 13 ∧ i = 0 then nI r else if k = 0 ∧ i = r then 1 else s.1 k i) → ∃ N, ((sX7_ofRegion K (nI r) 1).bind fun x2 => (sX7_lies K (nI t) (nI z) (nI r) x2).bind fun z1 => (sX7_ofRegion z1 (nI r) 1).bind fun x3 => (sX7_setsRegion z1 (nI r) 1 (x3 + nI z)).bind fun z2 => some z2) = some N ∧ MR (N 1) (mkS t z r s) ∧ Fr K N := by
    intro K q hK q2 hq
    have q1 : q.1 1 r = s.1 1 r := by rw [hq, if_neg (by omega), if_neg (by omega)]
    obtain ⟨N1, e1, h1, f1⟩ := m_lies hK ht (by rw [hq, if_neg (by omega), if_neg (by omega)]; exact hd) (nI z) (nI r) (q.1 1 r)
    obtain ⟨N2, e2, h2, f2⟩ := m_set h1 hr (k := 1) (by omega) ((lie t (nI z) (nI r) (q.1 1 r) q).1 1 r + nI z)
    rw [m_tp hK hr, bind_s, e1, bind_s, m_tp h1 hr, bind_s, show sX7_setsRegion N1 (nI r) 1 ((lie t (nI z) (nI r) (q.1 1 r) q).1 1 r + nI z) = some N2 from e2, bind_s]
    refine ⟨N2, rfl, mr_congr h2 (fun k i => ?_) q2.symm, f1.trans f2⟩
    show (mkS t z r s).1 k i = wr (lie t (nI z) (nI r) (q.1 1 r) q).1 1 r ((lie t (nI z) (nI r) (q.1 1 r) q).1 1 r + nI z) k i
    have el : (lie t (nI z) (nI r) (q.1 1 r) q).1 1 r = s.1 1 r := by
      rw [lie_at, if_neg (by omega), if_neg (by omega), if_neg (by omega), if_neg (by omega), if_neg (by omega), if_neg (by omega), q1]
    rw [mkS_at, wr_at, el, lie_at, q1, hq]
    repeat' split
    all_goals first
      | rfl
      | (exfalso; omega)
  rcases hk with h0 | ⟨h1, h13⟩
  · rw [if_pos h0]
    obtain ⟨N1, e1, g1, f1⟩ := m_set h hr (k := 0) (by omega) 1
    have g2 : MR ((wr N1 1 (Int32.toNatClampNeg 295) (nI r)) 1) (wr (wr s.1 0 r 1) 13 0 (nI r), s.2) := mr_wr g1 (k := 13) (j := 0) (by decide) (by decide) _
    obtain ⟨N, eN, hN, fN⟩ := tail _ _ g2 rfl (fun k i => by show wr (wr s.1 0 r 1) 13 0 (nI r) k i = _; rw [wr_at, wr_at])
    rw [show sX7_setsRegion M (nI r) 0 1 = some N1 from e1, bind_s, bd_eq]
    exact ⟨N, eN, hN, (f1.trans (fr_wr _ _ _)).trans fN⟩
  · rw [if_neg (by rw [h1]; decide)]
    exact tail M s h rfl (fun k i => by
      by_cases q : k = 13 ∧ i = 0
      · rw [if_pos q, q.1, q.2]; exact h13
      · rw [if_neg q]
        by_cases q' : k = 0 ∧ i = r
        · rw [if_pos q', q'.1, q'.2]; exact h1
        · rw [if_neg q'])
/-! big things -/
def tk1 (r j : Nat) (s : HS) : HS := (wr (wr s.1 0 (r + j) (if j = 0 then 3 else 4)) 1 (r + j) 8, s.2)
def tk (r w : Nat) (s : HS) : HS := it (tk1 r) w s
theorem tk_at (r : Nat) (s : HS) : ∀ w, (tk r w s).2 = s.2 ∧ ∀ k i, (tk r w s).1 k i = if k = 0 ∧ r ≤ i ∧ i < r + w then (if i = r then 3 else 4) else if k = 1 ∧ r ≤ i ∧ i < r + w then 8 else s.1 k i := by
  intro w
  induction w with
  | zero => exact ⟨rfl, fun k i => by rw [if_neg (by omega), if_neg (by omega)]; rfl⟩
  | succ w ih =>
    refine ⟨ih.1, fun k i => ?_⟩
    show wr (wr (tk r w s).1 0 (r + w) (if w = 0 then 3 else 4)) 1 (r + w) 8 k i = _
    rw [wr_at, wr_at, ih.2]
    repeat' split
    all_goals first
      | rfl
      | (exfalso; omega)
theorem c_take {A : IA} {s : HS} (h : CR A s) {r w : Nat} (hw : r + w ≤ 10) : ∃ B, sX1_takeRegions A (nI r) (nI w) = some B ∧ CR B (tk r w s) := by
  have key : ∃ B, loopN (sX1_takeRegions_L2 (nI r) (nI w)) 2000 (nI r, A) = some B ∧ CR B (tk r w s) := by
    refine loop_inv w (fun j a => ∃ B, a = (nI (r + j), B) ∧ CR B (tk r j s)) (fun B => CR B (tk r w s)) ?_ 2000 0 _ (Nat.zero_le _) (by omega) ⟨A, rfl, h⟩
    rintro j a hj ⟨B, rfl, hB⟩
    unfold sX1_takeRegions_L2
    dsimp +instances only
    rw [show nI r + nI w = nI (r + w) from nI_add r w]
    by_cases hlt : j < w
    · left
      have hrj : r + j < 10 := by omega
      have hcl : (nI (r + j)).toNatClampNeg = r + j := nI_clamp (by omega)
      have hnext : CR (wr (wr B 0 (r + j) (if j = 0 then 3 else 4)) 1 (r + j) 8) (tk r (j + 1) s) := cr_wr (cr_wr hB (w_rg hrj (by omega)) _) (w_rg hrj (by omega)) _
      rw [if_neg (nI_ge (by omega) (by omega)), if_neg (show ¬ (10 : Int32) ≤ nI (r + j) from nI_ge (b := 10) hrj (by omega)), nI_1, hcl]
      by_cases e : j = 0
      · rw [if_pos (show nI (r + j) = nI r by rw [e, Nat.add_zero]), ck_nI hrj (by omega), bd_eq, ck_nI hrj (by omega), bd_eq]
        rw [if_pos e] at hnext
        exact ⟨_, hlt, rfl, _, rfl, hnext⟩
      · rw [if_neg (show ¬ nI (r + j) = nI r by rw [nI_eq (by omega) (by omega)]; omega), ck_nI hrj (by omega), bd_eq, ck_nI hrj (by omega), bd_eq]
        rw [if_neg e] at hnext
        exact ⟨_, hlt, rfl, _, rfl, hnext⟩
    · right
      have hj2 : j = w := by omega
      subst hj2
      rw [if_pos (nI_le (Nat.le_refl _) (by omega))]
      exact ⟨B, rfl, hB⟩
  obtain ⟨B, e, hB⟩ := key
  refine ⟨B, ?_, hB⟩
  unfold sX1_takeRegions
  rw [e]
  rfl
theorem m_take {M : IA} {s : HS} (h : MR (M 1) s) {r w z : Nat} (hw : r + w ≤ 10) (hz : nI z + 7 = nI (z + 7)) (hzw : (z + 7) / 8 = w) (hz2 : z ≤ 24) : ∃ N, loopN (sX7_makesBig_L3 (nI z) (nI r)) 2000 (nI r, M) = some N ∧ (MR (N 1) (tk r w s) ∧ Fr M N) := by
  refine loop_inv w (fun j a => ∃ N : IA, a = (nI (r + j), N) ∧ MR (N 1) (tk r j s) ∧ Fr M N) (fun N : IA => MR (N 1) (tk r w s) ∧ Fr M N) ?_ 2000 0 _ (Nat.zero_le _) (by omega) ⟨M, rfl, h, Fr.refl M⟩
  rintro j a hj ⟨N, rfl, hN, fN⟩
  unfold sX7_makesBig_L3
  dsimp +instances only
  rw [hz, show nI (z + 7) / (8 : Int32) = nI w from by rw [← hzw]; exact pk_div (d := 8) (by omega) (by omega) (by omega), show nI r + nI w = nI (r + w) from nI_add r w]
  by_cases hlt : j < w
  · left
    have hrj : r + j < 10 := by omega
    obtain ⟨N1, e1, h1, f1⟩ := m_set hN hrj (k := 0) (by omega) (if j = 0 then 3 else 4)
    obtain ⟨N2, e2, h2, f2⟩ := m_set h1 hrj (k := 1) (by omega) 8
    rw [if_neg (nI_ge (by omega) (by omega)), nI_1]
    by_cases e : j = 0
    · rw [if_pos e] at e1
      rw [if_pos (show nI (r + j) = nI r by rw [e, Nat.add_zero]), show sX7_setsRegion N (nI (r + j)) 0 3 = some N1 from e1, bind_s, show sX7_setsRegion N1 (nI (r + j)) 1 8 = some N2 from e2, bind_s]
      exact ⟨_, hlt, rfl, N2, rfl, h2, (fN.trans f1).trans f2⟩
    · rw [if_neg e] at e1
      rw [if_neg (show ¬ nI (r + j) = nI r by rw [nI_eq (by omega) (by omega)]; omega), show sX7_setsRegion N (nI (r + j)) 0 4 = some N1 from e1, bind_s, show sX7_setsRegion N1 (nI (r + j)) 1 8 = some N2 from e2, bind_s]
      exact ⟨_, hlt, rfl, N2, rfl, h2, (fN.trans f1).trans f2⟩
  · right
    have hj2 : j = w := by omega
    subst hj2
    rw [if_pos (nI_le (Nat.le_refl _) (by omega))]
    exact ⟨N, rfl, hN, fN⟩
def mkB (t z r : Nat) (s : HS) : HS := lie t (nI z) (nI r) 0 (tk r ((z + 7) / 8) s)
theorem c_makeB {A : IA} {s : HS} (h : CR A s) {t z r : Nat} (ht : t < 32) (hz : 4 < z) (hz2 : z ≤ 24) (hr : r + (z + 7) / 8 ≤ 10) : ∃ B, sX1_makeThing A (nI t) (nI z) (nI r) = some B ∧ CR B (mkB t z r s) := by
  obtain ⟨B, eB, hB⟩ := c_take (c_mk0 h ht z) hr
  refine ⟨wr (wr B 5 t (nI r)) 6 t 0, ?_, ?_⟩
  · unfold sX1_makeThing sX1_regionsFor
    rw [ck_nI ht (by omega), nI_clamp (show t < 2 ^ 31 by omega), bd_eq, mul2n, ck_nI (show 2 * t < 64 by omega) (by omega), nI_clamp (show 2 * t < 2 ^ 31 by omega), bd_eq, nI_1, ck_nI (show 2 * t + 1 < 64 by omega) (by omega), nI_clamp (show 2 * t + 1 < 2 ^ 31 by omega), bd_eq, ck_nI ht (by omega), bd_eq, if_neg (show ¬ nI z ≤ 4 from nI_ge (a := 4) hz (by omega)), bind_s, show nI z + (8 : Int32) - 1 = nI (z + 7) from by rw [show nI z + (8 : Int32) = nI (z + 8) from nI_add z 8]; exact nI_pred (z + 7), show nI (z + 7) / (8 : Int32) = nI ((z + 7) / 8) from pk_div (d := 8) (by omega) (by omega) (by omega), eB, bind_s, ck_nI ht (by omega), bd_eq, ck_nI ht (by omega), bd_eq]
  · refine cr_congr (cr_wr (cr_wr hB (w_th ht (by omega) (by omega) (by omega) : t < wid 5) (nI r)) (w_th ht (by omega) (by omega) (by omega) : t < wid 6) 0) (fun k j _ => ?_) ((tk_at r s _).1.trans (tk_at r (mk0 t z s) _).1.symm)
    show (mkB t z r s).1 k j = wr (wr (tk r ((z + 7) / 8) (mk0 t z s)).1 5 t (nI r)) 6 t 0 k j
    unfold mkB
    rw [lie_at, wr_at, wr_at, (tk_at r s _).2, (tk_at r (mk0 t z s) _).2, show (mk0 t z s).1 k j = if k = 8 ∧ j = t then 2 else if k = 7 ∧ j = 2 * t + 1 then -5 else if k = 7 ∧ j = 2 * t then -5 else if k = 4 ∧ j = t then nI z else s.1 k j from by
      unfold mk0
      show wr (wr (wr (wr s.1 4 t (nI z)) 7 (2 * t) (-5)) 7 (2 * t + 1) (-5)) 8 t 2 k j = _
      rw [wr_at, wr_at, wr_at, wr_at]]
    repeat' split
    all_goals first
      | rfl
      | (exfalso; omega)
theorem m_makeB {M : IA} {s : HS} (h : MR (M 1) s) {t z r : Nat} (ht : t < 32) (hd : s.1 4 t ≤ 0) (hz2 : z ≤ 24) (hr : r + (z + 7) / 8 ≤ 10) : ∃ N, sX7_makesBig M (nI t) (nI z) (nI r) = some N ∧ MR (N 1) (mkB t z r s) ∧ Fr M N := by
  obtain ⟨N1, e1, h1, f1⟩ := m_take h (z := z) hr (nI_add z 7) rfl hz2
  obtain ⟨N2, e2, h2, f2⟩ := m_lies h1 ht (by rw [(tk_at r s _).2, if_neg (by omega), if_neg (by omega)]; exact hd) (nI z) (nI r) 0
  refine ⟨N2, ?_, h2, f1.trans f2⟩
  unfold sX7_makesBig
  rw [e1, bind_s, e2]
  rfl
