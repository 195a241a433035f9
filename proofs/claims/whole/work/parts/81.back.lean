/-! ===== 81 how far to a thing: the class's side ===== -/
def blev (h : IA) (g : Nat) : Nat → Nat → Prop
  | 0, a => a = g
  | n + 1, a => ∃ f b, f < 2 ∧ b < 32 ∧ h 7 (2 * a + f) = nI b ∧ blev h g n b
def blevm (h : IA) (g j a : Nat) : Prop := blev h g j a ∧ ∀ i, i < j → ¬ blev h g i a
def Fb (h : IA) (g n : Nat) (F : Nat → Int32) : Prop := ∀ a, a < 32 → lv h a → (F a = 0 ∧ ∀ j, j < n → ¬ blev h g j a) ∨ ∃ j, j < n ∧ F a = nI (j + 1) ∧ blevm h g j a
theorem c_isFar {A : IA} {v : Int32} (hv : Nl v) (L : Int32) : sX4_isFar A v L = some (if v ≠ -5 ∧ A 1 v.toNatClampNeg = L then 1 else 0) := by
  unfold sX4_isFar
  by_cases h5 : v = -5
  · rw [if_pos h5, if_neg (fun q => q.1 h5)]
  · rw [if_neg h5]
    obtain ⟨u, hu, rfl⟩ := hv.resolve_left h5
    rw [ck_nI hu (by omega)]
    by_cases e : A 1 (nI u).toNatClampNeg = L
    · rw [if_pos e, if_pos ⟨h5, e⟩]
    · rw [if_neg e, if_neg (fun q => e q.2)]
def lead (h : IA) (F : Nat → Int32) (L : Int32) (u : Nat) : Prop := ∃ f, f < 2 ∧ h 7 (2 * u + f) ≠ -5 ∧ F (h 7 (2 * u + f)).toNatClampNeg = L
theorem c_leads {A N : IA} {s : HS} (h : CR A s) (w : Wf s) {u : Nat} (hu : u < 32) (L : Int32) : (sX4_leadsTo N A (nI u) L = some 1 ∧ lead s.1 (N 1) L u) ∨ (sX4_leadsTo N A (nI u) L = some 0 ∧ ¬ lead s.1 (N 1) L u) := by
  unfold sX4_leadsTo
  rw [c_f0 h hu, bind_s, c_isFar (w.2.1 _ (by omega)), bind_s, ite10, c_f1 h hu, bind_s, c_isFar (w.2.1 _ (by omega)), bind_s, ite10]
  by_cases q0 : s.1 7 (2 * u) ≠ -5 ∧ N 1 (s.1 7 (2 * u)).toNatClampNeg = L
  · rw [if_pos q0]; exact Or.inl ⟨rfl, 0, by omega, q0.1, q0.2⟩
  · rw [if_neg q0]
    by_cases q1 : s.1 7 (2 * u + 1) ≠ -5 ∧ N 1 (s.1 7 (2 * u + 1)).toNatClampNeg = L
    · rw [if_pos q1]; exact Or.inl ⟨rfl, 1, by omega, q1.1, q1.2⟩
    · rw [if_neg q1]
      refine Or.inr ⟨rfl, fun ⟨f, hf, a, b⟩ => ?_⟩
      rcases (show f = 0 ∨ f = 1 by omega) with rfl | rfl
      · exact q0 ⟨a, b⟩
      · exact q1 ⟨a, b⟩
theorem c_round {A : IA} {s : HS} (h : CR A s) (hI : Inv s) {g : Nat} {M : IA} {n : Nat} (hn : n < 40) (hfb : Fb s.1 g (n + 1) (M 1)) (q1 : Int32 × Int32 × IA) (hq : q1.2.1 = nI (n + 1)) : ∃ gw N, loopN (sX4_measureTo_L36 A q1) 2000 (0, 0, M) = some (gw, N) ∧ Fb s.1 g (n + 2) (N 1) ∧ (gw = 0 ∨ gw = 1) ∧ (gw = 0 → ∀ u, u < 32 → N 1 u = M 1 u) := by
  have w := hI.1.1
  have key : ∃ b : Int32 × IA, loopN (sX4_measureTo_L36 A q1) 2000 (0, 0, M) = some b ∧ ((b.1 = 0 ∨ b.1 = 1) ∧ (b.1 = 0 → ∀ u, u < 32 → b.2 1 u = M 1 u) ∧ ∀ u, u < 32 → (M 1 u ≠ 0 → b.2 1 u = M 1 u) ∧ (M 1 u = 0 → (b.2 1 u = nI (n + 2) ∧ lv s.1 u ∧ lead s.1 (M 1) (nI (n + 1)) u) ∨ (b.2 1 u = 0 ∧ (lv s.1 u → ¬ lead s.1 (M 1) (nI (n + 1)) u)))) := by
    refine loop_inv 32 (fun i a => ∃ (gw : Int32) (N : IA), a = (gw, nI i, N) ∧ (gw = 0 ∨ gw = 1) ∧ (gw = 0 → ∀ u, u < 32 → N 1 u = M 1 u) ∧ ∀ u, u < 32 → (M 1 u ≠ 0 → N 1 u = M 1 u) ∧ (M 1 u = 0 → (N 1 u = nI (n + 2) ∧ lv s.1 u ∧ lead s.1 (M 1) (nI (n + 1)) u) ∨ (N 1 u = 0 ∧ (u < i → lv s.1 u → ¬ lead s.1 (M 1) (nI (n + 1)) u)))) (fun b : Int32 × IA => (b.1 = 0 ∨ b.1 = 1) ∧ (b.1 = 0 → ∀ u, u < 32 → b.2 1 u = M 1 u) ∧ ∀ u, u < 32 → (M 1 u ≠ 0 → b.2 1 u = M 1 u) ∧ (M 1 u = 0 → (b.2 1 u = nI (n + 2) ∧ lv s.1 u ∧ lead s.1 (M 1) (nI (n + 1)) u) ∨ (b.2 1 u = 0 ∧ (lv s.1 u → ¬ lead s.1 (M 1) (nI (n + 1)) u)))) ?_ 2000 0 _ (Nat.zero_le _) (by omega) ⟨0, M, by rw [nI_0], Or.inl rfl, fun _ _ _ => rfl, fun u hu => ⟨fun _ => rfl, fun z => Or.inr ⟨z, fun q => absurd q (Nat.not_lt_zero u)⟩⟩⟩
    rintro i a hi ⟨gw, N, rfl, h1, h2, h3⟩
    have n2 : nI (n + 2) ≠ 0 := nI_ne0 (by omega) (by omega)
    have same : ∀ u, u < 32 → (N 1 u = nI (n + 1) ↔ M 1 u = nI (n + 1)) := fun u hu => by
      by_cases z : M 1 u = 0
      · rw [z]
        rcases (h3 u hu).2 z with y | y
        · rw [y.1]
          exact ⟨fun q => by rw [nI_eq (by omega) (by omega)] at q; omega, fun q => absurd q.symm (nI_ne0 (by omega) (by omega))⟩
        · rw [y.1]
      · rw [(h3 u hu).1 z]
    have lsame : ∀ u, u < 32 → (lead s.1 (N 1) (nI (n + 1)) u ↔ lead s.1 (M 1) (nI (n + 1)) u) := fun u hu => by
      constructor
      · rintro ⟨f, hf, h5, e⟩
        obtain ⟨y, hy, ey, ec⟩ := nl_cl (w.2.1 (2 * u + f) (by omega)) h5
        rw [ec] at e
        exact ⟨f, hf, h5, by rw [ec]; exact (same y hy).mp e⟩
      · rintro ⟨f, hf, h5, e⟩
        obtain ⟨y, hy, ey, ec⟩ := nl_cl (w.2.1 (2 * u + f) (by omega)) h5
        rw [ec] at e
        exact ⟨f, hf, h5, by rw [ec]; exact (same y hy).mpr e⟩
    unfold sX4_measureTo_L36
    dsimp +instances only
    by_cases hlt : i < 32
    · left
      have go : (lv s.1 i → M 1 i = 0 → N 1 i = 0 → ¬ lead s.1 (M 1) (nI (n + 1)) i) → ∃ (gw' : Int32) (N' : IA), ((gw, nI (i + 1), N) : Int32 × Int32 × IA) = (gw', nI (i + 1), N') ∧ (gw' = 0 ∨ gw' = 1) ∧ (gw' = 0 → ∀ u, u < 32 → N' 1 u = M 1 u) ∧ ∀ u, u < 32 → (M 1 u ≠ 0 → N' 1 u = M 1 u) ∧ (M 1 u = 0 → (N' 1 u = nI (n + 2) ∧ lv s.1 u ∧ lead s.1 (M 1) (nI (n + 1)) u) ∨ (N' 1 u = 0 ∧ (u < i + 1 → lv s.1 u → ¬ lead s.1 (M 1) (nI (n + 1)) u))) := by
        intro hno
        refine ⟨gw, N, rfl, h1, h2, fun u hu => ⟨(h3 u hu).1, fun z => ?_⟩⟩
        rcases (h3 u hu).2 z with y | ⟨y1, y2⟩
        · exact Or.inl y
        · refine Or.inr ⟨y1, fun hui hl => ?_⟩
          by_cases e : u = i
          · subst e; exact hno hl z y1
          · exact y2 (by omega) hl
      rw [if_neg (show ¬ (32 : Int32) ≤ nI i from nI_ge (b := 32) hlt (by omega)), c_there h hlt, bind_s, ite01, nI_1, ck_nI hlt (by omega), nI_clamp (by omega), hq, nI_1]
      by_cases hl : s.1 4 i ≤ 0
      · rw [if_pos hl]
        exact ⟨_, hlt, rfl, go (fun q => absurd hl q)⟩
      · rw [if_neg hl]
        by_cases h0 : N 1 i = 0
        · rw [if_pos h0]
          rcases c_leads (N := N) h w hlt (nI (n + 1)) with ⟨e, hle⟩ | ⟨e, hle⟩
          · rw [e, bind_s, if_neg (show ¬ (1 : Int32) = 0 by decide), ck_nI hlt (by omega), bd_eq]
            have hM0 : M 1 i = 0 := by
              by_cases z : M 1 i = 0
              · exact z
              · rw [(h3 i hlt).1 z] at h0; exact h0
            refine ⟨_, hlt, rfl, 1, _, rfl, Or.inr rfl, fun q => absurd q (by decide), fun u hu => ?_⟩
            rw [wr_at]
            by_cases e' : u = i
            · subst e'
              rw [if_pos ⟨rfl, rfl⟩]
              exact ⟨fun z => absurd hM0 z, fun _ => Or.inl ⟨rfl, hl, (lsame u hu).mp hle⟩⟩
            · rw [if_neg (fun q => e' q.2)]
              refine ⟨(h3 u hu).1, fun z => ?_⟩
              rcases (h3 u hu).2 z with y | ⟨y1, y2⟩
              · exact Or.inl y
              · exact Or.inr ⟨y1, fun hui => y2 (by omega)⟩
          · rw [e, bind_s, if_pos rfl]
            exact ⟨_, hlt, rfl, go (fun _ _ _ q => hle ((lsame i hlt).mpr q))⟩
        · rw [if_neg h0]
          exact ⟨_, hlt, rfl, go (fun _ _ q => absurd q h0)⟩
    · right
      have hi2 : i = 32 := by omega
      subst hi2
      rw [if_pos (by decide)]
      exact ⟨(gw, N), rfl, h1, h2, fun u hu => ⟨(h3 u hu).1, fun z => ((h3 u hu).2 z).elim Or.inl (fun y => Or.inr ⟨y.1, y.2 hu⟩)⟩⟩
  obtain ⟨⟨gw, N⟩, e, h1, h2, h3⟩ := key
  refine ⟨gw, N, e, fun u hu hl => ?_, h1, h2⟩
  have ofl : ∀ a, a < 32 → lv s.1 a → (M 1 a = nI (n + 1) ↔ blevm s.1 g n a) := fun a ha hla => by
    rcases hfb a ha hla with ⟨z, nl⟩ | ⟨j, hj, ej, lj⟩
    · rw [z]
      exact ⟨fun q => absurd q.symm (nI_ne0 (by omega) (by omega)), fun q => absurd q.1 (nl n (by omega))⟩
    · rw [ej, nI_eq (by omega) (by omega)]
      constructor
      · intro q
        have : j = n := by omega
        rw [← this]; exact lj
      · intro q
        rcases Nat.lt_trichotomy j n with z | z | z
        · exact absurd lj.1 (q.2 j z)
        · omega
        · exact absurd q.1 (lj.2 n z)
  have flive : ∀ i, i < 64 → s.1 7 i ≠ -5 → lv s.1 (s.1 7 i).toNatClampNeg := fun i hi h5 => (hI.1.2.2.2.2.1.1 i hi).resolve_left h5
  rcases hfb u hu hl with ⟨z, nl⟩ | ⟨j, hj, ej, lj⟩
  · rcases (h3 u hu).2 z with ⟨y1, _, f, hf, h5, e7⟩ | ⟨y1, y2⟩
    · right
      obtain ⟨b, hb', eb, ec⟩ := nl_cl (w.2.1 (2 * u + f) (by omega)) h5
      have hlb := flive (2 * u + f) (by omega) h5
      rw [ec] at e7 hlb
      exact ⟨n + 1, by omega, y1, ⟨f, b, hf, hb', eb, ((ofl b hb' hlb).mp e7).1⟩, fun i hi => nl i (by omega)⟩
    · left
      refine ⟨y1, fun j hj => ?_⟩
      by_cases e' : j = n + 1
      · subst e'
        rintro ⟨f, b, hf, hb', eb, lb⟩
        have h5 : s.1 7 (2 * u + f) ≠ -5 := fun q => nI_pos (n := b) (by omega) (by rw [← eb, q]; decide)
        have ec : (s.1 7 (2 * u + f)).toNatClampNeg = b := by rw [eb, nI_clamp (by omega)]
        have hlb := flive (2 * u + f) (by omega) h5
        rw [ec] at hlb
        by_cases lm : ∀ i, i < n → ¬ blev s.1 g i b
        · exact y2 hl ⟨f, hf, h5, by rw [ec]; exact (ofl b hb' hlb).mpr ⟨lb, lm⟩⟩
        · obtain ⟨i, hi, li⟩ : ∃ i, i < n ∧ blev s.1 g i b := Classical.byContradiction (fun q => lm (fun i hi z => q ⟨i, hi, z⟩))
          exact nl (i + 1) (by omega) ⟨f, b, hf, hb', eb, li⟩
      · exact nl j (by omega)
  · right
    exact ⟨j, by omega, ((h3 u hu).1 (by rw [ej]; exact nI_ne0 (by omega) (by omega))).trans ej, lj⟩
