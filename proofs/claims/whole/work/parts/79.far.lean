/-! ===== 79 how far from the roots: the reference's side ===== -/
def lev (h : IA) : Nat → Nat → Prop
  | 0, t => ∃ r, r < 6 ∧ h 9 r = nI t
  | n + 1, t => ∃ a f, a < 32 ∧ f < 2 ∧ lev h n a ∧ h 7 (2 * a + f) = nI t
/-- the least level -/
def levm (h : IA) (j t : Nat) : Prop := lev h j t ∧ ∀ i, i < j → ¬ lev h i t
def Fa (h : IA) (n : Nat) (F : Nat → Int32) : Prop := ∀ t, t < 32 → (F t = 0 ∧ ∀ j, j < n → ¬ lev h j t) ∨ ∃ j, j < n ∧ F t = nI (j + 1) ∧ levm h j t
theorem m_reaches {M : IA} {v : Int32} (hv : Nl v) (n : Int32) : ∃ N, sX7_reaches M v n = some N ∧ (∀ k, k ≠ 24 → N k = M k) ∧ ∀ t, t < 32 → N 24 t = if v = nI t ∧ M 24 t = 0 then n else M 24 t := by
  unfold sX7_reaches
  by_cases h5 : v = -5
  · rw [if_pos h5]
    refine ⟨M, rfl, fun _ _ => rfl, fun t ht => ?_⟩
    rw [if_neg (fun q => nI_pos (n := t) (by omega) (by rw [← q.1, h5]; decide))]
  · rw [if_neg h5]
    obtain ⟨u, hu, rfl⟩ := hv.resolve_left h5
    rw [ck_nI hu (by omega), nI_clamp (by omega)]
    by_cases h0 : M 24 u = 0
    · rw [if_pos h0, ck_nI hu (by omega), bd_eq]
      refine ⟨_, rfl, fun k hk => wr_row_ne _ _ _ hk, fun t ht => ?_⟩
      rw [wr_at]
      by_cases e : t = u
      · subst e
        rw [if_pos ⟨rfl, rfl⟩, if_pos ⟨rfl, h0⟩]
      · rw [if_neg (fun q => e q.2), if_neg (fun q => e ((nI_eq (by omega) (by omega)).mp q.1).symm)]
    · rw [if_neg h0]
      refine ⟨M, rfl, fun _ _ => rfl, fun t ht => ?_⟩
      rw [if_neg (fun q => by
        have : u = t := (nI_eq (by omega) (by omega)).mp q.1
        rw [this] at h0
        exact h0 q.2)]
/-- one level's round through the things -/
theorem m_round {M : IA} {s : HS} (h : MR (M 1) s) (hI : Inv s) {n : Nat} (hn : n < 40) (hfa : Fa s.1 (n + 1) (M 24)) (q5 : Int32 × IA) (hq : q5.1 = nI (n + 1)) : ∃ N, loopN (sX7_laysFar_L60 q5) 2000 (0, M) = some N ∧ (∀ k, k ≠ 24 → N k = M k) ∧ Fa s.1 (n + 2) (N 24) := by
  have w := hI.1.1
  have live : ∀ j t, t < 32 → lev s.1 j t → lv s.1 t := by
    intro j
    cases j with
    | zero =>
      rintro t ht ⟨r, hr, e⟩
      have := (hI.1.2.2.2.2.1.2.1 r hr).resolve_left (fun q => nI_pos (n := t) (by omega) (by rw [← e, q]; decide))
      rw [e, nI_clamp (show t < 2 ^ 31 by omega)] at this; exact this
    | succ j =>
      rintro t ht ⟨a, f, ha, hf, _, e⟩
      have := (hI.1.2.2.2.2.1.1 (2 * a + f) (by omega)).resolve_left (fun q => nI_pos (n := t) (by omega) (by rw [← e, q]; decide))
      rw [e, nI_clamp (show t < 2 ^ 31 by omega)] at this; exact this
  have key : ∃ N, loopN (sX7_laysFar_L60 q5) 2000 (0, M) = some N ∧ ((∀ k, k ≠ 24 → N k = M k) ∧ ∀ u, u < 32 → (M 24 u ≠ 0 → N 24 u = M 24 u) ∧ (M 24 u = 0 → (N 24 u = nI (n + 2) ∧ ∃ a f, a < 32 ∧ f < 2 ∧ M 24 a = nI (n + 1) ∧ s.1 7 (2 * a + f) = nI u) ∨ (N 24 u = 0 ∧ ∀ a f, a < 32 → f < 2 → M 24 a = nI (n + 1) → s.1 7 (2 * a + f) ≠ nI u))) := by
    refine loop_inv 32 (fun i a => ∃ N : IA, a = (nI i, N) ∧ (∀ k, k ≠ 24 → N k = M k) ∧ ∀ u, u < 32 → (M 24 u ≠ 0 → N 24 u = M 24 u) ∧ (M 24 u = 0 → (N 24 u = nI (n + 2) ∧ ∃ a f, a < 32 ∧ f < 2 ∧ M 24 a = nI (n + 1) ∧ s.1 7 (2 * a + f) = nI u) ∨ (N 24 u = 0 ∧ ∀ a f, a < i → f < 2 → M 24 a = nI (n + 1) → s.1 7 (2 * a + f) ≠ nI u))) (fun N : IA => (∀ k, k ≠ 24 → N k = M k) ∧ ∀ u, u < 32 → (M 24 u ≠ 0 → N 24 u = M 24 u) ∧ (M 24 u = 0 → (N 24 u = nI (n + 2) ∧ ∃ a f, a < 32 ∧ f < 2 ∧ M 24 a = nI (n + 1) ∧ s.1 7 (2 * a + f) = nI u) ∨ (N 24 u = 0 ∧ ∀ a f, a < 32 → f < 2 → M 24 a = nI (n + 1) → s.1 7 (2 * a + f) ≠ nI u))) ?_ 2000 0 _ (Nat.zero_le _) (by omega) ⟨M, by rw [nI_0], fun _ _ => rfl, fun u hu => ⟨fun _ => rfl, fun z => Or.inr ⟨z, fun a f ha => absurd ha (Nat.not_lt_zero a)⟩⟩⟩
    rintro i a hi ⟨N, rfl, h1, h2⟩
    unfold sX7_laysFar_L60
    dsimp +instances only
    by_cases hlt : i < 32
    · left
      have hN : MR (N 1) s := by rw [h1 1 (by decide)]; exact h
      rw [if_neg (show ¬ (32 : Int32) ≤ nI i from nI_ge (b := 32) hlt (by omega)), ck_nI hlt (by omega), nI_clamp (by omega), hq, nI_1, nI_1]
      -- is it of this level?
      by_cases hc : N 24 i = nI (n + 1)
      · have hMi : M 24 i = nI (n + 1) := by
          by_cases z : M 24 i = 0
          · rcases (h2 i hlt).2 z with y | y
            · rw [y.1, nI_eq (by omega) (by omega)] at hc; omega
            · rw [y.1] at hc
              exact absurd hc.symm (nI_ne0 (by omega) (by omega))
          · rw [← (h2 i hlt).1 z]; exact hc
        have hli : ¬ s.1 4 i ≤ 0 := by
          rcases hfa i hlt with z | ⟨j, _, _, lj⟩
          · rw [z.1] at hMi; exact absurd hMi.symm (nI_ne0 (by omega) (by omega))
          · exact live j i hlt lj.1
        obtain ⟨N1, e1, f1, g1⟩ := m_reaches (M := N) (w.2.1 (2 * i) (by omega)) (nI (n + 2))
        have hN1 : MR (N1 1) s := by rw [f1 1 (by decide)]; exact hN
        obtain ⟨N2, e2, f2, g2⟩ := m_reaches (M := N1) (w.2.1 (2 * i + 1) (by omega)) (nI (n + 2))
        rw [if_pos hc, m_f0 hN hlt hli, bind_s, show nI (n + 1 + 1) = nI (n + 2) from rfl, e1, bind_s, m_f1 hN1 hlt hli, bind_s, e2, bind_s]
        refine ⟨_, hlt, rfl, N2, rfl, fun k hk => by rw [f2 k hk, f1 k hk, h1 k hk], fun u hu => ?_⟩
        have ga := g1 u hu
        have gb := g2 u hu
        have n2 : nI (n + 2) ≠ 0 := nI_ne0 (by omega) (by omega)
        refine ⟨fun z => ?_, fun z => ?_⟩
        · have hNu := (h2 u hu).1 z
          have nz : ¬ N 24 u = 0 := by rw [hNu]; exact z
          rw [if_neg (fun q => nz q.2)] at ga
          rw [ga, if_neg (fun q => nz q.2)] at gb
          rw [gb, hNu]
        · rcases (h2 u hu).2 z with ⟨y1, y2⟩ | ⟨y1, y2⟩
          · left
            rw [y1, if_neg (fun q => n2 q.2)] at ga
            rw [ga, if_neg (fun q => n2 q.2)] at gb
            exact ⟨gb, y2⟩
          · by_cases q0 : s.1 7 (2 * i) = nI u
            · left
              rw [if_pos ⟨q0, y1⟩] at ga
              rw [ga, if_neg (fun q => n2 q.2)] at gb
              exact ⟨gb, i, 0, hlt, by omega, hMi, q0⟩
            · rw [if_neg (fun q => q0 q.1), y1] at ga
              by_cases q1 : s.1 7 (2 * i + 1) = nI u
              · left
                rw [if_pos ⟨q1, ga⟩] at gb
                exact ⟨gb, i, 1, hlt, by omega, hMi, q1⟩
              · right
                rw [if_neg (fun q => q1 q.1), ga] at gb
                refine ⟨gb, fun a f ha hf hMa => ?_⟩
                by_cases e : a = i
                · subst e
                  rcases (show f = 0 ∨ f = 1 by omega) with rfl | rfl
                  · exact q0
                  · exact q1
                · exact y2 a f (by omega) hf hMa
      · rw [if_neg hc]
        refine ⟨_, hlt, rfl, N, rfl, h1, fun u hu => ⟨(h2 u hu).1, fun z => ?_⟩⟩
        rcases (h2 u hu).2 z with y | ⟨y1, y2⟩
        · exact Or.inl y
        · refine Or.inr ⟨y1, fun a f ha hf hMa => ?_⟩
          by_cases e : a = i
          · subst e
            exact absurd (by rw [(h2 a hlt).1 (by rw [hMa]; exact nI_ne0 (by omega) (by omega))]; exact hMa) hc
          · exact y2 a f (by omega) hf hMa
    · right
      have hi2 : i = 32 := by omega
      subst hi2
      rw [if_pos (by decide)]
      exact ⟨N, rfl, h1, h2⟩
  obtain ⟨N, e, h1, h2⟩ := key
  refine ⟨N, e, h1, fun u hu => ?_⟩
  have ofl : ∀ a, a < 32 → (M 24 a = nI (n + 1) ↔ levm s.1 n a) := fun a ha => by
    rcases hfa a ha with ⟨z, nl⟩ | ⟨j, hj, ej, lj⟩
    · rw [z]
      exact ⟨fun q => absurd q.symm (nI_ne0 (by omega) (by omega)), fun q => absurd q.1 (nl n (by omega))⟩
    · rw [ej, nI_eq (by omega) (by omega)]
      constructor
      · intro q
        have : j = n := by omega
        rw [← this]; exact lj
      · intro q
        rcases Nat.lt_trichotomy j n with z | z | z
        · exact absurd lj.1 (q.2 j z)
        · omega
        · exact absurd q.1 (lj.2 n z)
  rcases hfa u hu with ⟨z, nl⟩ | ⟨j, hj, ej, lj⟩
  · rcases (h2 u hu).2 z with ⟨y1, a, f, ha, hf, hMa, e7⟩ | ⟨y1, y2⟩
    · right
      refine ⟨n + 1, by omega, y1, ⟨a, f, ha, hf, ((ofl a ha).mp hMa).1, e7⟩, fun i hi => nl i (by omega)⟩
    · left
      refine ⟨y1, fun j hj => ?_⟩
      by_cases e' : j = n + 1
      · subst e'
        rintro ⟨a, f, ha, hf, la, e7⟩
        by_cases lm : ∀ i, i < n → ¬ lev s.1 i a
        · exact y2 a f ha hf ((ofl a ha).mpr ⟨la, lm⟩) e7
        · have : ∃ i, i < n ∧ lev s.1 i a := Classical.byContradiction (fun q => lm (fun i hi z => q ⟨i, hi, z⟩))
          obtain ⟨i, hi, li⟩ := this
          exact nl (i + 1) (by omega) ⟨a, f, ha, hf, li, e7⟩
      · exact nl j (by omega)
  · right
    exact ⟨j, by omega, by rw [(h2 u hu).1 (by rw [ej]; exact nI_ne0 (by omega) (by omega))]; exact ej, lj⟩
