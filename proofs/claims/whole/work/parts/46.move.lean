/-! ===== 46 what is found is moved ===== -/
def lfF (h : IA) : Nat → Nat → Int32
  | 0, _ => -9
  | n + 1, r => if h 0 r = 0 then nI r else lfF h n (r + 1)
def lf (h : IA) : Int32 := lfF h 10 0
theorem frees1 {h : IA} {q : Nat} : frees h q 1 ↔ h 0 q = 0 := ⟨fun w => w q (Nat.le_refl _) (by omega), fun w e h1 h2 => by rw [show e = q by omega]; exact w⟩
theorem lfF_free (h : IA) : ∀ n r, r + n = 10 → (∀ p, p < r → h 0 p ≠ 0) → FreeR h 1 (lfF h n r) := by
  intro n
  induction n with
  | zero =>
    intro r hr hp
    exact Or.inr ⟨fun q hq w => hp q (by omega) (frees1.mp w), rfl⟩
  | succ n ih =>
    intro r hr hp
    unfold lfF
    by_cases e : h 0 r = 0
    · rw [if_pos e]
      exact Or.inl ⟨r, by omega, frees1.mpr e, fun p hq w => hp p hq (frees1.mp w), rfl⟩
    · rw [if_neg e]
      exact ih (r + 1) (by omega) (fun p hq => by
        by_cases e2 : p = r
        · rw [e2]; exact e
        · exact hp p (by omega))
theorem lf_free (h : IA) : FreeR h 1 (lf h) := lfF_free h 10 0 rfl (fun p hp => by omega)
theorem lf_cases (h : IA) : lf h = -9 ∨ ∃ r, r < 10 ∧ lf h = nI r ∧ h 0 r = 0 := by
  rcases lf_free h with ⟨q, a, b, _, c⟩ | ⟨_, c⟩
  · exact Or.inr ⟨q, by omega, c, frees1.mp b⟩
  · exact Or.inl c
theorem c_lf {A : IA} {s : HS} (h : CR A s) : sX1_freeRow A 1 = some (lf s.1) := by
  obtain ⟨v, e, hv⟩ := c_freeRow h (w := 1) (by omega) (by omega)
  rw [show sX1_freeRow A 1 = some v from e, hv.one (lf_free s.1)]
theorem m_lf {M : IA} {s : HS} (h : MR (M 1) s) : sX7_lowestFree M 1 = some (lf s.1) := by
  obtain ⟨v, e, hv⟩ := m_lowestFree h (w := 1) (by omega) (by omega)
  rw [show sX7_lowestFree M 1 = some v from e, hv.one (lf_free s.1)]
abbrev MS : Type := HS × Int32 × Int32 × Int32 × Int32
def mv (t : Nat) (z : MS) : MS :=
  if z.2.1 = -9 ∨ 8 < z.1.1 1 z.2.1.toNatClampNeg + z.1.1 4 t then
    (if lf z.1.1 = -9 then (z.1, z.2.1, z.2.2.1 ||| (1 <<< (nI t &&& 31)), z.2.2.2.1, z.2.2.2.2 + 1)
     else (lay t (lf z.1.1).toNatClampNeg (wr z.1.1 0 (lf z.1.1).toNatClampNeg 2, z.1.2), lf z.1.1, z.2.2.1, z.2.2.2.1 + z.1.1 4 t, z.2.2.2.2))
  else (lay t z.2.1.toNatClampNeg z.1, z.2.1, z.2.2.1, z.2.2.2.1 + z.1.1 4 t, z.2.2.2.2)
def MvQ (Q : IA) (z : MS) : Prop := Q 3 0 = z.2.1 ∧ Q 8 0 = z.2.2.1 ∧ Q 7 0 = z.2.2.2.1
def MvM (M : IA) (z : MS) : Prop := M 19 0 = z.2.1 ∧ M 20 0 = z.2.2.1 ∧ M 21 0 = z.2.2.2.1 ∧ M 22 0 = z.2.2.2.2
theorem c_hasRoom {A : IA} {s : HS} (h : CR A s) {v : Int32} (hv : v = -9 ∨ Rg 10 v) (x : Int32) : sX1_hasRoom A v x = some (if v = -9 ∨ 8 < s.1 1 v.toNatClampNeg + x then 0 else 1) := by
  unfold sX1_hasRoom
  by_cases h9 : v = -9
  · rw [if_pos h9, if_pos (Or.inl h9)]
  · rw [if_neg h9]
    obtain ⟨r, hr, rfl⟩ := hv.resolve_left h9
    rw [ck_nI hr (by omega), nI_clamp (by omega), h.1 1 r (w_rg hr (by omega))]
    by_cases h8 : 8 < s.1 1 r + x
    · rw [if_pos h8, if_pos (Or.inr h8)]
    · rw [if_neg h8, if_neg (fun q => q.elim h9 h8)]
theorem c_mv {A : IA} {z : MS} (h : CR A z.1) {Q : IA} (hq : MvQ Q z) (hv : z.2.1 = -9 ∨ Rg 10 z.2.1) {t : Nat} (ht : t < 32) : ∃ Q' B, sX3_move Q A (nI t) = some (Q', B) ∧ CR B (mv t z).1 ∧ MvQ Q' (mv t z) ∧ ∀ k, k ≠ 2 → k ≠ 3 → k ≠ 7 → k ≠ 8 → Q' k = Q k := by
  have hct : (nI t).toNatClampNeg = t := nI_clamp (by omega)
  have w4 : t < wid 4 := w_th ht (by omega) (by omega) (by omega)
  unfold sX3_move mv
  rw [ck_nI ht (by omega), hct, h.1 4 t w4, hq.1, c_hasRoom h hv, bind_s, ite01]
  by_cases hc : z.2.1 = -9 ∨ 8 < z.1.1 1 z.2.1.toNatClampNeg + z.1.1 4 t
  · rw [if_pos hc, if_pos hc, c_lf h, bind_s]
    by_cases h9 : lf z.1.1 = -9
    · rw [if_pos h9, if_pos h9, bd_eq]
      refine ⟨_, _, rfl, h, ⟨?_, ?_, ?_⟩, fun k a b c d => by rw [sc_row_ne _ _ d]⟩
      · rw [sc_row_ne _ _ (by decide)]; exact hq.1
      · rw [sc_same, hq.2.1]
      · rw [sc_row_ne _ _ (by decide)]; exact hq.2.2
    · obtain ⟨r, hr, er, h0⟩ := (lf_cases z.1.1).resolve_left h9
      have hcr : (nI r).toNatClampNeg = r := nI_clamp (by omega)
      rw [if_neg h9, if_neg h9, er, ck_nI hr (by omega), hcr, bd_eq, bd_eq, sc_same]
      obtain ⟨B, eB, hB⟩ := c_lay (cr_wr h (w_rg hr (by omega) : r < wid 0) 2) ht hr
      rw [eB, bind_s, ck_nI ht (by omega), bd_eq, show B 4 t = z.1.1 4 t from by rw [hB.1 4 t w4, lay_row _ _ _ (by decide) (by decide) (by decide)]; rfl]
      refine ⟨_, _, rfl, hB, ⟨?_, ?_, ?_⟩, fun k a b c d => by rw [sc_row_ne _ _ c, sc_row_ne _ _ b]⟩
      · rw [sc_row_ne _ _ (by decide), sc_same]
      · rw [sc_row_ne _ _ (by decide), sc_row_ne _ _ (by decide)]; exact hq.2.1
      · rw [sc_same, sc_row_ne _ _ (by decide), hq.2.2]
  · rw [if_neg hc, if_neg hc]
    obtain ⟨r, hr, er⟩ := hv.resolve_left (fun q => hc (Or.inl q))
    have hcr : (nI r).toNatClampNeg = r := nI_clamp (by omega)
    obtain ⟨B, eB, hB⟩ := c_lay h ht hr
    rw [er, hcr, eB, bind_s, ck_nI ht (by omega), bd_eq, show B 4 t = z.1.1 4 t from by rw [hB.1 4 t w4, lay_row _ _ _ (by decide) (by decide) (by decide)]]
    refine ⟨_, _, rfl, hB, ⟨?_, ?_, ?_⟩, fun k a b c d => by rw [sc_row_ne _ _ c]⟩
    · rw [sc_row_ne _ _ (by decide), hq.1, er]
    · rw [sc_row_ne _ _ (by decide)]; exact hq.2.1
    · rw [sc_same, hq.2.2]
/-- the reference lays a thing -/
theorem m_lay {M : IA} {s : HS} (h : MR (M 1) s) {t r : Nat} (ht : t < 32) (hr : r < 10) (hi : M 19 0 = nI r) : ∃ N, (ck ((6 * nI t) + 1) 296 (bd (wr M 1 (((6 * nI t) + 1).toNatClampNeg) (M 19 0)) fun A2 => (sX7_ofRegion A2 (A2 19 0) 1).bind fun x3 => ck ((6 * nI t) + 2) 296 (bd (wr A2 1 (((6 * nI t) + 2).toNatClampNeg) x3) fun A3 => (sX7_ofRegion A3 (A3 19 0) 1).bind fun x4 => (sX7_setsRegion A3 (A3 19 0) 1 (x4 + s.1 4 t)).bind fun z2 => bd (sc z2 21 ((z2 21 0) + s.1 4 t)) fun A4 => some A4))) = some N ∧ MR (N 1) (lay t r s) ∧ N 21 0 = M 21 0 + s.1 4 t ∧ ∀ k, k ≠ 1 → k ≠ 21 → N k = M k := by
  have hA2 : MR ((wr M 1 (6 * t + 1) (nI r)) 1) (wr s.1 5 t (nI r), s.2) := mr_wr h (k := 5) (w_th ht (by omega) (by omega) (by omega)) (show 6 * t + 1 = lc 5 t from rfl) _
  have hA3 : MR ((wr (wr M 1 (6 * t + 1) (nI r)) 1 (6 * t + 2) (s.1 1 r)) 1) (wr (wr s.1 5 t (nI r)) 6 t (s.1 1 r), s.2) := mr_wr hA2 (k := 6) (w_th ht (by omega) (by omega) (by omega)) (show 6 * t + 2 = lc 6 t from rfl) _
  have t1 : sX7_ofRegion (wr M 1 (6 * t + 1) (nI r)) (nI r) 1 = some (s.1 1 r) := m_tp hA2 hr
  have t2 : sX7_ofRegion (wr (wr M 1 (6 * t + 1) (nI r)) 1 (6 * t + 2) (s.1 1 r)) (nI r) 1 = some (s.1 1 r) := m_tp hA3 hr
  obtain ⟨N, eN, hN, fN⟩ := m_set hA3 hr (k := 1) (by omega) (s.1 1 r + s.1 4 t)
  rw [show (6 : Int32) * nI t + 1 = nI (6 * t + 1) from mul6 t 1, show (6 : Int32) * nI t + 2 = nI (6 * t + 2) from mul6 t 2, ck_nI (by omega) (by omega), nI_clamp (by omega), hi, bd_eq, show wr M 1 (6 * t + 1) (nI r) 19 0 = nI r from hi, t1, bind_s, ck_nI (by omega) (by omega), nI_clamp (by omega), bd_eq, show wr (wr M 1 (6 * t + 1) (nI r)) 1 (6 * t + 2) (s.1 1 r) 19 0 = nI r from hi, t2, bind_s, show sX7_setsRegion (wr (wr M 1 (6 * t + 1) (nI r)) 1 (6 * t + 2) (s.1 1 r)) (nI r) 1 (s.1 1 r + s.1 4 t) = some N from eN, bind_s, bd_eq]
  have f : ∀ k, k ≠ 1 → N k = M k := fun k hk => by rw [fN k hk, wr_row_ne _ _ _ hk, wr_row_ne _ _ _ hk]
  refine ⟨_, rfl, ?_, ?_, fun k a b => by rw [sc_row_ne _ _ b, f k a]⟩
  · rw [sc_row_ne _ _ (by decide)]; exact hN
  · rw [sc_same, f 21 (by decide)]
theorem le_of {a b : Int32} : a ≤ b ↔ ¬ b < a := by
  rw [Int32.le_iff_toInt_le, Int32.lt_iff_toInt_lt]
  omega
theorem m_mv {M : IA} {z : MS} (h : MR (M 1) z.1) (hq : MvM M z) (hv : z.2.1 = -9 ∨ Rg 10 z.2.1) {t : Nat} (ht : t < 32) : ∃ N, sX7_copies M (nI t) = some N ∧ MR (N 1) (mv t z).1 ∧ MvM N (mv t z) ∧ ∀ k, k ≠ 1 → k ≠ 19 → k ≠ 20 → k ≠ 21 → k ≠ 22 → N k = M k := by
  unfold sX7_copies mv
  rw [m_sz h ht, bind_s, m_lf h, bind_s]
  have stay : ∃ N, (bd (sc M 20 ((M 20 0) ||| (1 <<< (nI t &&& 31)))) fun A5 => bd (sc A5 22 ((A5 22 0) + 1)) fun A6 => some A6) = some N ∧ MR (N 1) z.1 ∧ MvM N (z.1, z.2.1, z.2.2.1 ||| (1 <<< (nI t &&& 31)), z.2.2.2.1, z.2.2.2.2 + 1) ∧ ∀ k, k ≠ 1 → k ≠ 19 → k ≠ 20 → k ≠ 21 → k ≠ 22 → N k = M k := by
    rw [bd_eq, bd_eq]
    refine ⟨_, rfl, ?_, ⟨?_, ?_, ?_, ?_⟩, fun k a b c d e => by rw [sc_row_ne _ _ e, sc_row_ne _ _ c]⟩
    · rw [sc_row_ne _ _ (by decide), sc_row_ne _ _ (by decide)]; exact h
    · rw [sc_row_ne _ _ (by decide), sc_row_ne _ _ (by decide)]; exact hq.1
    · rw [sc_row_ne _ _ (by decide), sc_same, hq.2.1]
    · rw [sc_row_ne _ _ (by decide), sc_row_ne _ _ (by decide)]; exact hq.2.2.1
    · rw [sc_same, sc_row_ne _ _ (by decide), hq.2.2.2]
  have fresh : ∀ r, r < 10 → lf z.1.1 = nI r → ∃ N, (bd (sc M 19 (nI r)) fun A1 => (sX7_setsRegion A1 (nI r) 0 2).bind fun z1 => ck ((6 * nI t) + 1) 296 (bd (wr z1 1 (((6 * nI t) + 1).toNatClampNeg) (z1 19 0)) fun A2 => (sX7_ofRegion A2 (A2 19 0) 1).bind fun x3 => ck ((6 * nI t) + 2) 296 (bd (wr A2 1 (((6 * nI t) + 2).toNatClampNeg) x3) fun A3 => (sX7_ofRegion A3 (A3 19 0) 1).bind fun x4 => (sX7_setsRegion A3 (A3 19 0) 1 (x4 + z.1.1 4 t)).bind fun z2 => bd (sc z2 21 ((z2 21 0) + z.1.1 4 t)) fun A4 => some A4))) = some N ∧ MR (N 1) (lay t r (wr z.1.1 0 r 2, z.1.2)) ∧ MvM N (lay t r (wr z.1.1 0 r 2, z.1.2), nI r, z.2.2.1, z.2.2.2.1 + z.1.1 4 t, z.2.2.2.2) ∧ ∀ k, k ≠ 1 → k ≠ 19 → k ≠ 20 → k ≠ 21 → k ≠ 22 → N k = M k := by
    intro r hr er
    have h1 : MR ((sc M 19 (nI r)) 1) z.1 := by rw [sc_row_ne _ _ (by decide)]; exact h
    obtain ⟨N1, e1, g1, f1⟩ := m_set h1 hr (k := 0) (by omega) 2
    have hi : N1 19 0 = nI r := by rw [f1 19 (by decide), sc_same]
    obtain ⟨N, e, g, g2, f⟩ := m_lay g1 ht hr hi
    rw [bd_eq, show sX7_setsRegion (sc M 19 (nI r)) (nI r) 0 2 = some N1 from e1, bind_s]
    refine ⟨N, e, g, ⟨?_, ?_, ?_, ?_⟩, fun k a b c d w => by rw [f k a d, f1 k a, sc_row_ne _ _ b]⟩
    · rw [f 19 (by decide) (by decide), hi]
    · rw [f 20 (by decide) (by decide), f1 20 (by decide), sc_row_ne _ _ (by decide), hq.2.1]
    · rw [g2, f1 21 (by decide), sc_row_ne _ _ (by decide), hq.2.2.1]; rfl
    · rw [f 22 (by decide) (by decide), f1 22 (by decide), sc_row_ne _ _ (by decide), hq.2.2.2]
  rw [hq.1]
  by_cases h9 : z.2.1 = -9
  · rw [if_pos h9, if_pos (Or.inl h9)]
    by_cases hl : lf z.1.1 = -9
    · rw [if_pos hl, if_pos hl]; exact stay
    · obtain ⟨r, hr, er, _⟩ := (lf_cases z.1.1).resolve_left hl
      rw [if_neg hl, if_neg hl, er, nI_clamp (show r < 2 ^ 31 by omega)]
      exact fresh r hr er
  · rw [if_neg h9]
    obtain ⟨q, hq10, eq⟩ := hv.resolve_left h9
    have hcq : (nI q).toNatClampNeg = q := nI_clamp (by omega)
    rw [eq, m_tp h hq10, bind_s, hcq]
    by_cases h8 : 8 < z.1.1 1 q + z.1.1 4 t
    · rw [if_neg (fun w => le_of.mp w h8), if_pos (Or.inr h8)]
      by_cases hl : lf z.1.1 = -9
      · rw [if_pos hl, if_pos hl, ← eq]; exact stay
      · obtain ⟨r, hr, er, _⟩ := (lf_cases z.1.1).resolve_left hl
        rw [if_neg hl, if_neg hl, er, nI_clamp (show r < 2 ^ 31 by omega)]
        exact fresh r hr er
    · rw [if_pos (le_of.mpr h8), if_neg (fun w => w.elim (fun w2 => h9 (by rw [eq]; exact w2)) h8)]
      obtain ⟨N, e, g, g2, f⟩ := m_lay h ht hq10 (by rw [hq.1, eq])
      rw [hq.1, eq] at e
      refine ⟨N, e, g, ⟨?_, ?_, ?_, ?_⟩, fun k a b c d w => f k a d⟩
      · rw [f 19 (by decide) (by decide), hq.1, eq]
      · rw [f 20 (by decide) (by decide), hq.2.1]
      · rw [g2, hq.2.2.1]
      · rw [f 22 (by decide) (by decide), hq.2.2.2]
