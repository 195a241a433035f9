/-! ===== 83 ways: from both ends; the root that is nearest ===== -/
theorem lev_blev {h : IA} {g : Nat} : ∀ (n i a : Nat), a < 32 → lev h i a → blev h g n a → lev h (i + n) g := by
  intro n
  induction n with
  | zero => intro i a _ l b; have e : a = g := b; rw [← e]; exact l
  | succ n ih =>
    rintro i a ha l ⟨f, b, hf, hb', e, lb⟩
    have := ih (i + 1) b hb' ⟨a, f, ha, hf, l, e⟩ lb
    rw [show i + 1 + n = i + (n + 1) by omega] at this
    exact this
theorem blev_lev {h : IA} {g : Nat} : ∀ (n m a : Nat), a < 32 → lev h n a → blev h g m a → ∃ r u, r < 6 ∧ u < 32 ∧ h 9 r = nI u ∧ blev h g (n + m) u := by
  intro n
  induction n with
  | zero => rintro m a ha ⟨r, hr, e⟩ hb'; exact ⟨r, a, hr, ha, e, by rw [Nat.zero_add]; exact hb'⟩
  | succ n ih =>
    rintro m a ha ⟨c, f, hc, hf, l, e⟩ hb'
    have := ih (m + 1) c hc l ⟨f, a, hf, ha, e, hb'⟩
    rw [show n + (m + 1) = n + 1 + m by omega] at this
    exact this
/-- the least of (far, number) among the roots -/
def Nr (s : HS) (g : Nat) (i : Nat) (b : Int32) : Prop := (b = -9 ∧ ∀ r u j, r < i → u < 32 → s.1 9 r = nI u → ¬ blev s.1 g j u) ∨ ∃ u j, u < 32 ∧ b = nI u ∧ blevm s.1 g j u ∧ (∃ r, r < 6 ∧ s.1 9 r = nI u) ∧ ∀ r v k, r < i → v < 32 → s.1 9 r = nI v → blevm s.1 g k v → j < k ∨ (j = k ∧ u ≤ v)
theorem c_nearest {A N : IA} {s : HS} (h : CR A s) (hI : Inv s) {g : Nat} (hF : FbA s.1 g (N 1)) : ∃ b, sX4_nearestRoot N A = some b ∧ Nr s g 6 b := by
  have w := hI.1.1
  have key : ∃ b, loopN (sX4_nearestRoot_L5 N A) 2000 (-9, 0) = some b ∧ Nr s g 6 b := by
    refine loop_inv 6 (fun i a => ∃ b, a = (b, nI i) ∧ Nr s g i b) (fun b => Nr s g 6 b) ?_ 2000 0 _ (Nat.zero_le _) (by omega) ⟨-9, by rw [nI_0], Or.inl ⟨rfl, fun r u j hr => absurd hr (Nat.not_lt_zero r)⟩⟩
    rintro i a hi ⟨b, rfl, hb'⟩
    unfold sX4_nearestRoot_L5
    dsimp +instances only
    by_cases hlt : i < 6
    · left
      rw [if_neg (show ¬ (6 : Int32) ≤ nI i from nI_ge (b := 6) hlt (by omega)), ck_nI hlt (by omega), nI_clamp (by omega), bd_eq, h.1 9 i (w_rt hlt), nI_1]
      have skip : (∀ u j, u < 32 → s.1 9 i = nI u → ¬ blev s.1 g j u) → Nr s g (i + 1) b := fun hno => by
        rcases hb' with ⟨e, q⟩ | ⟨u, j, hu, e, l, hr, q⟩
        · refine Or.inl ⟨e, fun r u j hr hu er => ?_⟩
          by_cases e' : r = i
          · subst e'; exact hno u j hu er
          · exact q r u j (by omega) hu er
        · refine Or.inr ⟨u, j, hu, e, l, hr, fun r v k hr' hv er lv' => ?_⟩
          by_cases e' : r = i
          · subst e'; exact absurd lv'.1 (hno v k hv er)
          · exact q r v k (by omega) hv er lv'
      by_cases h5 : s.1 9 i = -5
      · rw [if_pos h5]
        exact ⟨_, hlt, rfl, b, rfl, skip (fun u j hu e => absurd (by rw [← e, h5]; decide) (nI_pos (n := u) (by omega)))⟩
      · obtain ⟨x, hx, ex, ec⟩ := nl_cl (w.2.2.1 i hlt) h5
        have hlx : lv s.1 x := by have := (hI.1.2.2.2.2.1.2.1 i hlt).resolve_left h5; rw [ec] at this; exact this
        rw [if_neg h5, ex, ck_nI hx (by omega), nI_clamp (show x < 2 ^ 31 by omega)]
        rcases hF x hx hlx with ⟨z, nl⟩ | ⟨k, hk, ek, lk⟩
        · rw [z, if_pos (by decide)]
          refine ⟨_, hlt, rfl, b, rfl, skip (fun u j hu e => ?_)⟩
          have : x = u := by rw [ex] at e; exact (nI_eq (by omega) (by omega)).mp e
          rw [← this]; exact nl j
        · rw [ek, if_neg (nI_nle (by omega) (by omega))]
          have uniq : ∀ v k', v < 32 → s.1 9 i = nI v → blevm s.1 g k' v → v = x ∧ k' = k := fun v k' hv e l => by
            have : x = v := by rw [ex] at e; exact (nI_eq (by omega) (by omega)).mp e
            subst this
            exact ⟨rfl, blevm_one l lk⟩
          rcases hb' with ⟨e, q⟩ | ⟨u, j, hu, e, l, hr, q⟩
          · rw [if_pos e]
            refine ⟨_, hlt, rfl, nI x, rfl, Or.inr ⟨x, k, hx, rfl, lk, ⟨i, hlt, ex⟩, fun r v k' hr' hv er lv' => ?_⟩⟩
            by_cases e' : r = i
            · subst e'
              obtain ⟨a1, a2⟩ := uniq v k' hv er lv'
              exact Or.inr ⟨a2.symm, by omega⟩
            · exact absurd lv'.1 (q r v k' (by omega) hv er)
          · have hlu : lv s.1 u := by
              obtain ⟨r, hr6, er⟩ := hr
              have := (hI.1.2.2.2.2.1.2.1 r hr6).resolve_left (fun z => nI_pos (n := u) (by omega) (by rw [← er, z]; decide))
              rw [er, nI_clamp (show u < 2 ^ 31 by omega)] at this; exact this
            have eu : N 1 u = nI (j + 1) := by
              rcases hF u hu hlu with ⟨_, nl⟩ | ⟨j', _, ej', lj'⟩
              · exact absurd l.1 (nl j)
              · rw [ej', blevm_one lj' l]
            have hj32 := blevm_lt hu l
            rw [if_neg (by rw [e]; exact fun z => nI_pos (n := u) (by omega) (by rw [z]; decide)), e]
            unfold sX4_isNearer
            rw [ck_nI hx (by omega), ck_nI hu (by omega), nI_clamp (show x < 2 ^ 31 by omega), nI_clamp (show u < 2 ^ 31 by omega), ek, eu, ck_nI hx (by omega), ck_nI hu (by omega)]
            have keep : (j < k ∨ (j = k ∧ u ≤ x)) → Nr s g (i + 1) (nI u) := fun hle => Or.inr ⟨u, j, hu, rfl, l, hr, fun r v k' hr' hv er lv' => by
              by_cases e' : r = i
              · subst e'
                obtain ⟨a1, a2⟩ := uniq v k' hv er lv'
                rw [a1, a2]; exact hle
              · exact q r v k' (by omega) hv er lv'⟩
            have take : (k < j ∨ (k = j ∧ x < u)) → Nr s g (i + 1) (nI x) := fun hle => Or.inr ⟨x, k, hx, rfl, lk, ⟨i, hlt, ex⟩, fun r v k' hr' hv er lv' => by
              by_cases e' : r = i
              · subst e'
                obtain ⟨a1, a2⟩ := uniq v k' hv er lv'
                exact Or.inr ⟨a2.symm, by omega⟩
              · have := q r v k' (by omega) hv er lv'
                omega⟩
            by_cases c1 : nI (k + 1) < nI (j + 1)
            · rw [if_pos c1, bind_s, if_neg (show ¬ (1 : Int32) = 0 by decide)]
              rw [nI_ltI (by omega) (by omega)] at c1
              exact ⟨_, hlt, rfl, nI x, rfl, take (by omega)⟩
            · rw [if_neg c1]
              rw [nI_ltI (by omega) (by omega)] at c1
              by_cases c2 : nI (k + 1) = nI (j + 1)
              · rw [if_pos c2]
                rw [nI_eq (by omega) (by omega)] at c2
                by_cases c3 : nI u ≤ nI x
                · rw [if_pos c3, bind_s, if_pos rfl]
                  rw [nI_leI (by omega) (by omega)] at c3
                  exact ⟨_, hlt, rfl, nI u, rfl, keep (by omega)⟩
                · rw [if_neg c3, bind_s, if_neg (show ¬ (1 : Int32) = 0 by decide)]
                  rw [nI_leI (by omega) (by omega)] at c3
                  exact ⟨_, hlt, rfl, nI x, rfl, take (by omega)⟩
              · rw [if_neg c2, bind_s, if_pos rfl]
                rw [nI_eq (by omega) (by omega)] at c2
                exact ⟨_, hlt, rfl, nI u, rfl, keep (by omega)⟩
    · right
      have hi2 : i = 6 := by omega
      subst hi2
      rw [if_pos (by decide)]
      exact ⟨b, rfl, hb'⟩
  obtain ⟨b, e, hb'⟩ := key
  refine ⟨b, ?_, hb'⟩
  unfold sX4_nearestRoot
  rw [e]
  rfl
