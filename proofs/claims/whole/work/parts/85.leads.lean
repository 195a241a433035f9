/-! ===== 85 the reference's leads: one thing ===== -/
theorem m_isField {M : IA} {s : HS} (h : MR (M 1) s) {e o : Nat} (he : e < 32) (hl : ¬ s.1 4 e ≤ 0) : (sX7_isFieldOf M (nI e) (nI o) = some 1 ∧ ∃ f, f < 2 ∧ s.1 7 (2 * e + f) = nI o) ∨ (sX7_isFieldOf M (nI e) (nI o) = some 0 ∧ ∀ f, f < 2 → s.1 7 (2 * e + f) ≠ nI o) := by
  unfold sX7_isFieldOf
  rw [m_f0 h he hl, bind_s, m_f1 h he hl, bind_s]
  by_cases q0 : s.1 7 (2 * e) = nI o
  · rw [if_pos q0]; exact Or.inl ⟨rfl, 0, by omega, q0⟩
  · rw [if_neg q0]
    by_cases q1 : s.1 7 (2 * e + 1) = nI o
    · rw [if_pos q1]; exact Or.inl ⟨rfl, 1, by omega, q1⟩
    · rw [if_neg q1]
      refine Or.inr ⟨rfl, fun f hf => ?_⟩
      rcases (show f = 0 ∨ f = 1 by omega) with rfl | rfl
      · exact q0
      · exact q1
/-- leads of e, once every other thing has been looked at -/
theorem m_lead1 {M : IA} {s : HS} (h : MR (M 1) s) {e n : Nat} (he : e < 32) (hl : ¬ s.1 4 e ≤ 0) (hn : n < 40) (hF : M 24 e = nI n) (h01 : ∀ t, t < 32 → M 25 t = 0 ∨ M 25 t = 1) (q3 q4 : Int32 × IA) (hq3 : q3.1 = nI n) (hq4 : q4.1 = nI e) : ∃ N, loopN (sX7_laysLeads_L54 q3 q4) 2000 (0, M) = some N ∧ (∀ k, k ≠ 25 → N k = M k) ∧ (∀ t, t ≠ e → N 25 t = M 25 t) ∧ ((N 25 e = 1 ∧ (M 25 e = 1 ∨ ∃ o f, o < 32 ∧ f < 2 ∧ M 25 o = 1 ∧ M 24 o = nI (n + 1) ∧ s.1 7 (2 * e + f) = nI o)) ∨ (N 25 e = 0 ∧ M 25 e = 0 ∧ ∀ o f, o < 32 → f < 2 → M 25 o = 1 → M 24 o = nI (n + 1) → s.1 7 (2 * e + f) ≠ nI o)) := by
  refine loop_inv 32 (fun i a => ∃ N : IA, a = (nI i, N) ∧ (∀ k, k ≠ 25 → N k = M k) ∧ (∀ t, t ≠ e → N 25 t = M 25 t) ∧ ((N 25 e = 1 ∧ (M 25 e = 1 ∨ ∃ o f, o < 32 ∧ f < 2 ∧ M 25 o = 1 ∧ M 24 o = nI (n + 1) ∧ s.1 7 (2 * e + f) = nI o)) ∨ (N 25 e = 0 ∧ M 25 e = 0 ∧ ∀ o f, o < i → f < 2 → M 25 o = 1 → M 24 o = nI (n + 1) → s.1 7 (2 * e + f) ≠ nI o))) (fun N : IA => (∀ k, k ≠ 25 → N k = M k) ∧ (∀ t, t ≠ e → N 25 t = M 25 t) ∧ ((N 25 e = 1 ∧ (M 25 e = 1 ∨ ∃ o f, o < 32 ∧ f < 2 ∧ M 25 o = 1 ∧ M 24 o = nI (n + 1) ∧ s.1 7 (2 * e + f) = nI o)) ∨ (N 25 e = 0 ∧ M 25 e = 0 ∧ ∀ o f, o < 32 → f < 2 → M 25 o = 1 → M 24 o = nI (n + 1) → s.1 7 (2 * e + f) ≠ nI o))) ?_ 2000 0 _ (Nat.zero_le _) (by omega) ⟨M, by rw [nI_0], fun _ _ => rfl, fun _ _ => rfl, (h01 e he).elim (fun z => Or.inr ⟨z, z, fun o f ho => absurd ho (Nat.not_lt_zero o)⟩) (fun z => Or.inl ⟨z, Or.inl z⟩)⟩
  rintro i a hi ⟨N, rfl, h1, h2, h3⟩
  unfold sX7_laysLeads_L54
  dsimp +instances only
  by_cases hlt : i < 32
  · left
    have hN : MR (N 1) s := by rw [h1 1 (by decide)]; exact h
    rw [if_neg (show ¬ (32 : Int32) ≤ nI i from nI_ge (b := 32) hlt (by omega)), hq3, hq4, ck_nI he (by omega), nI_clamp (show e < 2 ^ 31 by omega), h1 24 (by decide), if_pos hF, ck_nI he (by omega), nI_1, nI_1]
    have put : ∀ v, (∀ k, k ≠ 25 → wr N 25 e v k = M k) ∧ (∀ t, t ≠ e → wr N 25 e v 25 t = M 25 t) ∧ wr N 25 e v 25 e = v := fun v => ⟨fun k hk => by rw [wr_row_ne _ _ _ hk, h1 k hk], fun t ht => by rw [wr_at, if_neg (fun q => ht q.2), h2 t ht], by rw [wr_at, if_pos ⟨rfl, rfl⟩]⟩
    rcases h3 with ⟨y1, y2⟩ | ⟨y1, y0, y2⟩
    · rw [y1, if_neg (show ¬ (1 : Int32) = 0 by decide), ck_nI he (by omega), bd_eq]
      exact ⟨_, hlt, rfl, _, rfl, (put 1).1, (put 1).2.1, Or.inl ⟨(put 1).2.2, y2⟩⟩
    · have no : (M 25 i = 1 → M 24 i = nI (n + 1) → ∀ f, f < 2 → s.1 7 (2 * e + f) ≠ nI i) → ∃ N' : IA, ((nI (i + 1), wr N 25 e 0) : Int32 × IA) = (nI (i + 1), N') ∧ (∀ k, k ≠ 25 → N' k = M k) ∧ (∀ t, t ≠ e → N' 25 t = M 25 t) ∧ ((N' 25 e = 1 ∧ (M 25 e = 1 ∨ ∃ o f, o < 32 ∧ f < 2 ∧ M 25 o = 1 ∧ M 24 o = nI (n + 1) ∧ s.1 7 (2 * e + f) = nI o)) ∨ (N' 25 e = 0 ∧ M 25 e = 0 ∧ ∀ o f, o < i + 1 → f < 2 → M 25 o = 1 → M 24 o = nI (n + 1) → s.1 7 (2 * e + f) ≠ nI o)) := fun hno => ⟨_, rfl, (put 0).1, (put 0).2.1, Or.inr ⟨(put 0).2.2, y0, fun o f ho hf a b => by
        by_cases q : o = i
        · subst q; exact hno a b f hf
        · exact y2 o f (by omega) hf a b⟩⟩
      have Ni : N 25 i = M 25 i := by
        by_cases q : i = e
        · rw [q, y1, y0]
        · exact h2 i q
      rw [y1, if_pos rfl, ck_nI hlt (by omega), nI_clamp (show i < 2 ^ 31 by omega), Ni, ck_nI he (by omega), bd_eq, ck_nI hlt (by omega), ck_nI he (by omega), bd_eq]
      rcases h01 i hlt with z | z
      · rw [if_pos z]
        exact ⟨_, hlt, rfl, no (fun q => by rw [z] at q; exact absurd q (by decide))⟩
      · rw [if_neg (by rw [z]; decide)]
        by_cases q : M 24 i = nI (n + 1)
        · rw [if_pos q]
          rcases m_isField hN (o := i) he hl with ⟨eq, f, hf, e7⟩ | ⟨eq, nf⟩
          · rw [eq, bind_s, if_neg (show ¬ (1 : Int32) = 0 by decide)]
            exact ⟨_, hlt, rfl, _, rfl, (put 1).1, (put 1).2.1, Or.inl ⟨(put 1).2.2, Or.inr ⟨i, f, hlt, hf, z, q, e7⟩⟩⟩
          · rw [eq, bind_s, if_pos rfl]
            exact ⟨_, hlt, rfl, no (fun _ _ f hf => nf f hf)⟩
        · rw [if_neg q]
          exact ⟨_, hlt, rfl, no (fun _ q' => absurd q' q)⟩
  · right
    have hi2 : i = 32 := by omega
    subst hi2
    rw [if_pos (by decide)]
    exact ⟨N, rfl, h1, h2, h3⟩
