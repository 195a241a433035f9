/-! ===== 48 the loop of moving, both sides ===== -/
def mvl (h : IA) (m : Int32) : Nat → Nat → MS × List Int32 → MS × List Int32
  | 0, _, z => z
  | n + 1, i, z => if i < z.2.length then mvl h m n (i + 1) (mv (z.2.getD i 0).toNatClampNeg z.1, ff h m (z.2.getD i 0).toNatClampNeg z.2) else z
theorem fx_item {X : List Int32} (hx : FX X) {i : Nat} (hi : i < X.length) : ∃ t, t < 32 ∧ X.getD i 0 = nI t ∧ (X.getD i 0).toNatClampNeg = t := by
  obtain ⟨t, ht, e⟩ := hx.1 _ (getD_mem hi)
  exact ⟨t, ht, e, by rw [e, nI_clamp (by omega)]⟩
theorem mi_mvl {s : HS} (hS : St s) {m : Int32} (hm : Chm s.1 m) : ∀ (n i : Nat) (z : MS) (X : List Int32), i + n = 32 → i ≤ X.length → MI s m z X i → ∃ j, MI s m (mvl s.1 m n i (z, X)).1 (mvl s.1 m n i (z, X)).2 j ∧ j = (mvl s.1 m n i (z, X)).2.length := by
  intro n
  induction n with
  | zero =>
    intro i z X hn hle h
    exact ⟨i, h, by have := h.2.2.1.1.len; show i = X.length; omega⟩
  | succ n ih =>
    intro i z X hn hle h
    unfold mvl
    by_cases hi : i < X.length
    · rw [if_pos hi]
      obtain ⟨t, ht, et, ec⟩ := fx_item h.2.2.1.1 hi
      show ∃ j, MI s m (mvl s.1 m n (i + 1) (mv (X.getD i 0).toNatClampNeg z, ff s.1 m (X.getD i 0).toNatClampNeg X)).1 _ j ∧ _
      rw [ec]
      have := mi_mv hS hm h hi ht et
      refine ih (i + 1) _ _ (by omega) ?_ this
      obtain ⟨Y, eY⟩ := ff_app (h := s.1) (m := m) (t := t) (X := X)
      rw [eY, List.length_append]
      omega
    · rw [if_neg hi]
      exact ⟨i, h, by show i = X.length; omega⟩
theorem c_mvl {s : HS} (hS : St s) {m : Int32} (hm : Chm s.1 m) : ∀ (n i k : Nat) (z : MS) (X : List Int32) (Q A : IA), i + n = 32 → n < k → MI s m z X i → CR A z.1 → PQ Q s.1 m X → MvQ Q z → ∃ Q' B, loopN sX3_moveFound_L2 k (nI i, Q, A) = some (Q', B) ∧ CR B (mvl s.1 m n i (z, X)).1.1 ∧ PQ Q' s.1 m (mvl s.1 m n i (z, X)).2 ∧ MvQ Q' (mvl s.1 m n i (z, X)).1 ∧ ∀ k, k ≠ 1 → k ≠ 9 → k ≠ 5 → k ≠ 6 → k ≠ 2 → k ≠ 3 → k ≠ 7 → k ≠ 8 → Q' k = Q k := by
  intro n
  induction n with
  | zero =>
    intro i k z X Q A hn hk h hA hQ hM
    obtain ⟨j, rfl⟩ : ∃ j, k = j + 1 := ⟨k - 1, by omega⟩
    have hi : i = 32 := by omega
    subst hi
    exact ⟨Q, A, loopN_inr (by unfold sX3_moveFound_L2; dsimp +instances only; rw [if_pos (by decide)]), hA, hQ, hM, fun _ _ _ _ _ _ _ _ _ => rfl⟩
  | succ n ih =>
    intro i k z X Q A hn hk h hA hQ hM
    obtain ⟨j, rfl⟩ : ∃ j, k = j + 1 := ⟨k - 1, by omega⟩
    have h32 := h.2.2.1.1.len
    unfold mvl
    by_cases hi : i < X.length
    · rw [if_pos hi]
      obtain ⟨t, ht, et, ec⟩ := fx_item h.2.2.1.1 hi
      show ∃ Q' B, _ ∧ CR B (mvl s.1 m n (i + 1) (mv (X.getD i 0).toNatClampNeg z, ff s.1 m (X.getD i 0).toNatClampNeg X)).1.1 ∧ _ ∧ _ ∧ _
      rw [ec]
      obtain ⟨Q1, A1, e1, hA1, hM1, f1⟩ := c_mv hA hM h.2.1.rg ht
      have hQ1 : PQ Q1 s.1 m X := ⟨by rw [f1 1 (by decide) (by decide) (by decide) (by decide), f1 9 (by decide) (by decide) (by decide) (by decide)]; exact hQ.1, by rw [f1 10 (by decide) (by decide) (by decide) (by decide)]; exact hQ.2.1, by rw [f1 5 (by decide) (by decide) (by decide) (by decide)]; exact hQ.2.2.1, by rw [f1 6 (by decide) (by decide) (by decide) (by decide)]; exact hQ.2.2.2⟩
      have hI := mi_mv hS hm h hi ht et
      have hcp : Cp (mv t z).1 s.1 m X := by
        have hc := hI.cp hS hm
        refine ⟨fun u hu hn => ?_, hc.2⟩
        obtain ⟨Y, eY⟩ := ff_app (h := s.1) (m := m) (t := t) (X := X)
        have hn2 : ¬ nI u ∈ (ff s.1 m t X).take (i + 1) := fun w => by
          rw [eY, take_app hi] at w
          rcases List.mem_append.mp w with w | w
          · exact hn (List.mem_of_mem_take w)
          · exact hn (by rw [List.mem_singleton.mp w]; exact getD_mem hi)
        exact ⟨(hI.2.2.2.2.2.1 u hu hn2).1, fun hb => hI.chosen hm (hS.1.pl hu).2 hb⟩
      obtain ⟨Q2, e2, hQ2, f2, _⟩ := c_ff hA1 hI.1.1 hQ1 h.2.2.1.1 hcp ht
      have hM2 : MvQ Q2 (mv t z) := ⟨by rw [f2 3 (by decide) (by decide) (by decide) (by decide)]; exact hM1.1, by rw [f2 8 (by decide) (by decide) (by decide) (by decide)]; exact hM1.2.1, by rw [f2 7 (by decide) (by decide) (by decide) (by decide)]; exact hM1.2.2⟩
      have hst : sX3_moveFound_L2 (nI i, Q, A) = some (.inl (nI (i + 1), Q2, A1)) := by
        unfold sX3_moveFound_L2
        dsimp +instances only
        rw [if_neg (show ¬ (32 : Int32) ≤ nI i from nI_ge (b := 32) (by omega) (by omega)), if_neg (by rw [hQ.1.1]; exact nI_ge hi (by omega)), itemAt_spec hQ.1 hi, bind_s, et, e1, bind_s, e2, bind_s, nI_1]
      rw [loopN_inl hst]
      obtain ⟨Q3, A3, e3, g1, g2, g3, f3⟩ := ih (i + 1) j (mv t z) (ff s.1 m t X) Q2 A1 (by omega) (by omega) hI hA1 hQ2 hM2
      exact ⟨Q3, A3, e3, g1, g2, g3, fun k a b c d e f g w => by rw [f3 k a b c d e f g w, f2 k a b c d, f1 k e f g w]⟩
    · rw [if_neg hi]
      refine ⟨Q, A, loopN_inr ?_, hA, hQ, hM, fun _ _ _ _ _ _ _ _ _ => rfl⟩
      unfold sX3_moveFound_L2
      dsimp +instances only
      rw [if_neg (show ¬ (32 : Int32) ≤ nI i from nI_ge (b := 32) (by omega) (by omega)), if_pos (by rw [hQ.1.1]; exact nI_le (by omega) (by omega))]
theorem m_mvl {s : HS} (hS : St s) {m : Int32} (hm : Chm s.1 m) : ∀ (n i k : Nat) (z : MS) (X : List Int32) (M : IA), i + n = 32 → n < k → MI s m z X i → MR (M 1) z.1 → PM M s.1 m X → MvM M z → ∃ N, loopN sX7_pause_L95 k (nI i, M) = some N ∧ MR (N 1) (mvl s.1 m n i (z, X)).1.1 ∧ PM N s.1 m (mvl s.1 m n i (z, X)).2 ∧ MvM N (mvl s.1 m n i (z, X)).1 ∧ ∀ k, k ≠ 1 → k ≠ 14 → k ≠ 15 → k ≠ 16 → k ≠ 19 → k ≠ 20 → k ≠ 21 → k ≠ 22 → N k = M k := by
  have hp : ∀ t, t < 32 → s.1 5 t = nI (pP s.1 t) ∧ pP s.1 t < 10 := fun t ht => hS.1.pl ht
  intro n
  induction n with
  | zero =>
    intro i k z X M hn hk h hA hQ hM
    obtain ⟨j, rfl⟩ : ∃ j, k = j + 1 := ⟨k - 1, by omega⟩
    have h32 := h.2.2.1.1.len
    have hi : i = 32 := by omega
    subst hi
    exact ⟨M, loopN_inr (by unfold sX7_pause_L95; dsimp +instances only; rw [if_pos (by rw [hQ.1]; exact nI_le (by omega) (by omega))]), hA, hQ, hM, fun _ _ _ _ _ _ _ _ _ => rfl⟩
  | succ n ih =>
    intro i k z X M hn hk h hA hQ hM
    obtain ⟨j, rfl⟩ : ∃ j, k = j + 1 := ⟨k - 1, by omega⟩
    have h32 := h.2.2.1.1.len
    unfold mvl
    by_cases hi : i < X.length
    · rw [if_pos hi]
      obtain ⟨t, ht, et, ec⟩ := fx_item h.2.2.1.1 hi
      show ∃ N : IA, _ ∧ MR (N 1) (mvl s.1 m n (i + 1) (mv (X.getD i 0).toNatClampNeg z, ff s.1 m (X.getD i 0).toNatClampNeg X)).1.1 ∧ _ ∧ _ ∧ _
      rw [ec]
      obtain ⟨M1, e1, hA1, hM1, f1⟩ := m_mv hA hM h.2.1.rg ht
      have hQ1 : PM M1 s.1 m X := ⟨by rw [f1 14 (by decide) (by decide) (by decide) (by decide) (by decide)]; exact hQ.1, fun q hq => by rw [f1 15 (by decide) (by decide) (by decide) (by decide) (by decide)]; exact hQ.2.1 q hq, fun q hq => by rw [f1 16 (by decide) (by decide) (by decide) (by decide) (by decide)]; exact hQ.2.2.1 q hq, fun q hq => by rw [f1 17 (by decide) (by decide) (by decide) (by decide) (by decide)]; exact hQ.2.2.2.1 q hq, by rw [f1 11 (by decide) (by decide) (by decide) (by decide) (by decide)]; exact hQ.2.2.2.2⟩
      have hI := mi_mv hS hm h hi ht et
      have hlt4 : ¬ (mv t z).1.1 4 t ≤ 0 := by
        have := (h.2.2.1.2 (nI t) (by rw [← et]; exact getD_mem hi)).1
        rw [nI_clamp (show t < 2 ^ 31 by omega)] at this
        rw [hI.2.2.2.1 4 (by decide) (by decide) (by decide) (by decide)]
        exact this
      have e7 : (mv t z).1.1 7 = s.1 7 := hI.2.2.2.1 7 (by decide) (by decide) (by decide) (by decide)
      obtain ⟨M2, e2, hQ2, f2⟩ := m_find hp hQ1 h.2.2.1.1 (hS.1.2.1 (2 * t) (by omega))
      have hA2 : MR (M2 1) (mv t z).1 := by rw [f2 1 (by decide) (by decide) (by decide)]; exact hA1
      have hx2 := fx_fd (h := s.1) (m := m) h.2.2.1.1 (hS.1.2.1 (2 * t) (by omega))
      obtain ⟨M3, e3, hQ3, f3⟩ := m_find hp hQ2 hx2 (hS.1.2.1 (2 * t + 1) (by omega))
      have hA3 : MR (M3 1) (mv t z).1 := by rw [f3 1 (by decide) (by decide) (by decide)]; exact hA2
      have f23 := f2.trans f3
      have hM3 : MvM M3 (mv t z) := ⟨by rw [f23 19 (by decide) (by decide) (by decide)]; exact hM1.1, by rw [f23 20 (by decide) (by decide) (by decide)]; exact hM1.2.1, by rw [f23 21 (by decide) (by decide) (by decide)]; exact hM1.2.2.1, by rw [f23 22 (by decide) (by decide) (by decide)]; exact hM1.2.2.2⟩
      have hi15 : M 15 i = nI t := by rw [hQ.2.1 i hi, et]
      have hi15a : M1 15 i = nI t := by rw [hQ1.2.1 i hi, et]
      have hi15b : M2 15 i = nI t := by
        obtain ⟨Y, eY⟩ := fd_app (h := s.1) (m := m) (v := s.1 7 (2 * t)) (X := X)
        rw [hQ2.2.1 i (by rw [eY, List.length_append]; omega), eY, List.getD_eq_getElem?_getD, List.getElem?_append_left hi, ← List.getD_eq_getElem?_getD, et]
      have hst : sX7_pause_L95 (nI i, M) = some (.inl (nI (i + 1), M3)) := by
        unfold sX7_pause_L95
        dsimp +instances only
        rw [if_neg (by rw [hQ.1]; exact nI_ge hi (by omega)), ck_nI (show i < 32 by omega) (by omega), nI_clamp (by omega), hi15, e1, bind_s, ck_nI (show i < 32 by omega) (by omega), hi15a, m_f0 hA1 ht hlt4, bind_s, e7, e2, bind_s, ck_nI (show i < 32 by omega) (by omega), hi15b, m_f1 hA2 ht hlt4, bind_s, e7, e3, bind_s, nI_1]
      rw [loopN_inl hst]
      obtain ⟨N, eN, g1, g2, g3, f4⟩ := ih (i + 1) j (mv t z) (ff s.1 m t X) M3 (by omega) (by omega) hI hA3 hQ3 hM3
      exact ⟨N, eN, g1, g2, g3, fun k a b c d e f g w => by rw [f4 k a b c d e f g w, f23 k b c d, f1 k a e f g w]⟩
    · rw [if_neg hi]
      refine ⟨M, loopN_inr ?_, hA, hQ, hM, fun _ _ _ _ _ _ _ _ _ => rfl⟩
      unfold sX7_pause_L95
      dsimp +instances only
      rw [if_pos (by rw [hQ.1]; exact nI_le (by omega) (by omega))]
