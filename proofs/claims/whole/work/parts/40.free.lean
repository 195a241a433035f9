/-! ===== 40 the lowest free regions side by side; numbers ===== -/
def frees (h : IA) (q w : Nat) : Prop := ∀ e, q ≤ e → e < q + w → h 0 e = 0
def FreeR (h : IA) (w : Nat) (v : Int32) : Prop := (∃ q, q + w ≤ 10 ∧ frees h q w ∧ (∀ p, p < q → ¬ frees h p w) ∧ v = nI q) ∨ ((∀ q, q + w ≤ 10 → ¬ frees h q w) ∧ v = -9)
theorem FreeR.one {h : IA} {w : Nat} {v u : Int32} (h1 : FreeR h w v) (h2 : FreeR h w u) : v = u := by
  rcases h1 with ⟨q, a1, a2, a3, a4⟩ | ⟨a1, a2⟩
  · rcases h2 with ⟨p, b1, b2, b3, b4⟩ | ⟨b1, b2⟩
    · have : q = p := by
        rcases Nat.lt_trichotomy q p with c | c | c
        · exact absurd a2 (b3 q c)
        · exact c
        · exact absurd b2 (a3 p c)
      rw [a4, b4, this]
    · exact absurd a2 (b1 q a1)
  · rcases h2 with ⟨p, b1, b2, b3, b4⟩ | ⟨b1, b2⟩
    · exact absurd b2 (a1 p b1)
    · rw [a2, b2]
theorem nI_sub {a b : Nat} (h : b ≤ a) : nI a - nI b = nI (a - b) := by
  have e : nI a = nI (a - b) + nI b := by rw [nI_add]; congr 1; omega
  rw [e, Int32.add_sub_cancel]
theorem c_freeRow {A : IA} {s : HS} (h : CR A s) {w : Nat} (hw : 0 < w) (hw2 : w < 11) : ∃ v, sX1_freeRow A (nI w) = some v ∧ FreeR s.1 w v := by
  refine loop_inv 10 (fun i a => ∃ row, a = (nI row, nI i) ∧ row < w ∧ row ≤ i ∧ frees s.1 (i - row) row ∧ (row < i → s.1 0 (i - row - 1) ≠ 0) ∧ ∀ q, q + w ≤ i → ¬ frees s.1 q w) (FreeR s.1 w) ?_ 2000 0 _ (Nat.zero_le _) (by omega) ⟨0, by rw [nI_0], hw, Nat.le_refl _, fun e h1 h2 => by omega, fun q => by omega, fun q hq => by omega⟩
  rintro i a hi ⟨row, rfl, h1, h2, h3, h4, h5⟩
  unfold sX1_freeRow_L4
  dsimp +instances only
  by_cases hlt : i < 10
  · rw [if_neg (show ¬ (10 : Int32) ≤ nI i from nI_ge (b := 10) hlt (by omega)), ck_nI hlt (by omega), nI_clamp (by omega), h.1 0 i (w_rg hlt (by omega))]
    by_cases hf : s.1 0 i = 0
    · rw [if_pos hf]
      rw [bd_eq, nI_1]
      have h3' : frees s.1 (i - row) (row + 1) := fun e q1 q2 => by
        by_cases e2 : e = i
        · rw [e2]; exact hf
        · exact h3 e q1 (by omega)
      by_cases he : row + 1 = w
      · right
        rw [if_pos (by rw [he])]
        refine ⟨nI (i - row), ?_, Or.inl ⟨i - row, by omega, by rw [← he]; exact h3', fun p hp hq => ?_, rfl⟩⟩
        · congr 2
          rw [← he, Int32.sub_eq_add_neg, Int32.add_assoc, Int32.add_comm (-nI (row + 1)) 1, ← Int32.add_assoc, nI_1, ← Int32.sub_eq_add_neg, nI_sub (by omega)]
          congr 1
          omega
        · exact h5 p (by omega) hq
      · left
        rw [if_neg (by rw [nI_eq (by omega) (by omega)]; exact he), nI_1]
        refine ⟨_, hlt, rfl, row + 1, rfl, by omega, by omega, ?_, ?_, ?_⟩
        · rw [show i + 1 - (row + 1) = i - row by omega]; exact h3'
        · intro q
          rw [show i + 1 - (row + 1) - 1 = i - row - 1 by omega]
          exact h4 (by omega)
        · intro q hq hfr
          by_cases e : q + w ≤ i
          · exact h5 q e hfr
          · have e2 : q + w = i + 1 := by omega
            exact h4 (by omega) (hfr (i - row - 1) (by omega) (by omega))
    · left
      rw [if_neg hf, if_neg (by rw [show (0 : Int32) = nI 0 from rfl, nI_eq (by omega) (by omega)]; omega), nI_1]
      refine ⟨_, hlt, rfl, 0, by rw [nI_0], hw, by omega, fun e q1 q2 => by omega, fun _ => by rw [show i + 1 - 0 - 1 = i by omega]; exact hf, ?_⟩
      intro q hq hfr
      by_cases e : q + w ≤ i
      · exact h5 q e hfr
      · exact hf (hfr i (by omega) (by omega))
  · right
    have hi2 : i = 10 := by omega
    subst hi2
    rw [if_pos (by decide)]
    exact ⟨_, rfl, Or.inr ⟨h5, rfl⟩⟩
theorem m_allFree {M : IA} {s : HS} (h : MR (M 1) s) {q w : Nat} (hq : q + w ≤ 10) : ∃ b, loopN (sX7_lowestFree_L15 M (nI w) (nI q)) 2000 (1, nI q) = some b ∧ ((b = 1 ∧ frees s.1 q w) ∨ (b = 0 ∧ ¬ frees s.1 q w)) := by
  refine loop_inv (q + w) (fun i a => q ≤ i ∧ ∃ v, a = (v, nI i) ∧ ((v = 1 ∧ frees s.1 q (i - q)) ∨ (v = 0 ∧ ¬ frees s.1 q w))) (fun b => (b = 1 ∧ frees s.1 q w) ∨ (b = 0 ∧ ¬ frees s.1 q w)) ?_ 2000 q _ (by omega) (by omega) ⟨Nat.le_refl _, 1, rfl, Or.inl ⟨rfl, fun e h1 h2 => by omega⟩⟩
  rintro i a hi ⟨hqi, v, rfl, hv⟩
  unfold sX7_lowestFree_L15
  dsimp +instances only
  rw [show nI q + nI w = nI (q + w) from nI_add q w]
  by_cases hlt : i < q + w
  · left
    rw [if_neg (nI_ge hlt (by omega)), nI_1, m_kd h (show i < 10 by omega), bind_s]
    rcases hv with ⟨rfl, hv⟩ | ⟨rfl, hv⟩
    · rw [if_neg (by decide)]
      by_cases hf : s.1 0 i = 0
      · rw [if_pos hf]
        refine ⟨_, hlt, rfl, by omega, 1, rfl, Or.inl ⟨rfl, fun e q1 q2 => ?_⟩⟩
        by_cases e2 : e = i
        · rw [e2]; exact hf
        · exact hv e q1 (by omega)
      · rw [if_neg hf]
        exact ⟨_, hlt, rfl, by omega, 0, rfl, Or.inr ⟨rfl, fun w2 => hf (w2 i hqi hlt)⟩⟩
    · rw [if_pos rfl]
      exact ⟨_, hlt, rfl, by omega, 0, rfl, Or.inr ⟨rfl, hv⟩⟩
  · right
    have hi2 : i = q + w := by omega
    subst hi2
    rw [if_pos (nI_le (Nat.le_refl _) (by omega))]
    refine ⟨_, rfl, ?_⟩
    rw [show q + w - q = w by omega] at hv
    exact hv
theorem m_lowestFree {M : IA} {s : HS} (h : MR (M 1) s) {w : Nat} (hw : 0 < w) (hw2 : w < 11) : ∃ v, sX7_lowestFree M (nI w) = some v ∧ FreeR s.1 w v := by
  refine loop_inv 10 (fun i a => a = nI i ∧ ∀ p, p < i → ¬ frees s.1 p w) (FreeR s.1 w) ?_ 2000 0 _ (Nat.zero_le _) (by omega) ⟨nI_0.symm, fun p hp => by omega⟩
  rintro i a hi ⟨rfl, h1⟩
  unfold sX7_lowestFree_L2
  rw [show nI i + nI w = nI (i + w) from nI_add i w]
  by_cases hlt : i + w ≤ 10
  · rw [if_neg (show ¬ (10 : Int32) < nI (i + w) from nI_nlt (a := 10) hlt (by omega))]
    obtain ⟨b, e, hb⟩ := m_allFree h hlt
    rw [e, bind_s]
    rcases hb with ⟨rfl, hf⟩ | ⟨rfl, hf⟩
    · right
      rw [if_neg (by decide)]
      exact ⟨_, rfl, Or.inl ⟨i, hlt, hf, h1, rfl⟩⟩
    · left
      rw [if_pos rfl, nI_1]
      refine ⟨_, by omega, rfl, rfl, fun p hp => ?_⟩
      by_cases e2 : p = i
      · rw [e2]; exact hf
      · exact h1 p (by omega)
  · right
    rw [if_pos (show (10 : Int32) < nI (i + w) from nI_lt (a := 10) (by omega) (by omega))]
    refine ⟨_, rfl, Or.inr ⟨fun p hp => h1 p (by omega), rfl⟩⟩
/-! the lowest number that is not used -/
def unused (h : IA) (t : Nat) : Prop := h 4 t ≤ 0 ∧ ∀ u, u < t → ¬ h 4 u ≤ 0
theorem c_unused {A : IA} {s : HS} (h : CR A s) : ∃ v, sX1_unusedNumber A = some v ∧ ((v = -9 ∧ ∀ u, u < 32 → ¬ s.1 4 u ≤ 0) ∨ ∃ t, t < 32 ∧ v = nI t ∧ unused s.1 t) := by
  refine loop_inv 32 (fun i a => a = nI i ∧ ∀ u, u < i → ¬ s.1 4 u ≤ 0) (fun v => (v = -9 ∧ ∀ u, u < 32 → ¬ s.1 4 u ≤ 0) ∨ ∃ t, t < 32 ∧ v = nI t ∧ unused s.1 t) ?_ 2000 0 _ (Nat.zero_le _) (by omega) ⟨nI_0.symm, fun p hp => by omega⟩
  rintro i a hi ⟨rfl, h1⟩
  unfold sX1_unusedNumber_L2
  by_cases hlt : i < 32
  · rw [if_neg (show ¬ (32 : Int32) ≤ nI i from nI_ge (b := 32) hlt (by omega)), c_there h hlt, bind_s, ite01]
    by_cases hz : s.1 4 i ≤ 0
    · right
      rw [if_pos hz]
      exact ⟨_, rfl, Or.inr ⟨i, hlt, rfl, hz, h1⟩⟩
    · left
      rw [if_neg hz, nI_1]
      refine ⟨_, hlt, rfl, rfl, fun u hu => ?_⟩
      by_cases e : u = i
      · rw [e]; exact hz
      · exact h1 u (by omega)
  · right
    have hi2 : i = 32 := by omega
    subst hi2
    rw [if_pos (by decide)]
    exact ⟨_, rfl, Or.inl ⟨rfl, h1⟩⟩
theorem m_unused {M : IA} {s : HS} (h : MR (M 1) s) : ∃ v, sX7_lowestNumber M = some v ∧ ((v = 32 ∧ ∀ u, u < 32 → ¬ s.1 4 u ≤ 0) ∨ ∃ t, t < 32 ∧ v = nI t ∧ unused s.1 t) := by
  have key : ∃ v, loopN (sX7_lowestNumber_L2 M) 2000 0 = some v ∧ ((v = 32 ∧ ∀ u, u < 32 → ¬ s.1 4 u ≤ 0) ∨ ∃ t, t < 32 ∧ v = nI t ∧ unused s.1 t) := by
    refine loop_inv 32 (fun i a => a = nI i ∧ ∀ u, u < i → ¬ s.1 4 u ≤ 0) (fun v => (v = 32 ∧ ∀ u, u < 32 → ¬ s.1 4 u ≤ 0) ∨ ∃ t, t < 32 ∧ v = nI t ∧ unused s.1 t) ?_ 2000 0 _ (Nat.zero_le _) (by omega) ⟨nI_0.symm, fun p hp => by omega⟩
    rintro i a hi ⟨rfl, h1⟩
    unfold sX7_lowestNumber_L2
    by_cases hlt : i < 32
    · rw [if_neg (show ¬ (32 : Int32) ≤ nI i from nI_ge (b := 32) hlt (by omega)), m_there h hlt, bind_s, ite01]
      by_cases hz : s.1 4 i ≤ 0
      · right
        rw [if_pos hz]
        exact ⟨_, rfl, Or.inr ⟨i, hlt, rfl, hz, h1⟩⟩
      · left
        rw [if_neg hz, nI_1]
        refine ⟨_, hlt, rfl, rfl, fun u hu => ?_⟩
        by_cases e : u = i
        · rw [e]; exact hz
        · exact h1 u (by omega)
    · right
      have hi2 : i = 32 := by omega
      subst hi2
      rw [if_pos (by decide)]
      exact ⟨_, rfl, Or.inl ⟨rfl, h1⟩⟩
  obtain ⟨v, e, hv⟩ := key
  refine ⟨v, ?_, hv⟩
  unfold sX7_lowestNumber
  rw [e]
  rfl
theorem unused_one {h : IA} {t u : Nat} (h1 : unused h t) (h2 : unused h u) : t = u := by
  rcases Nat.lt_trichotomy t u with c | c | c
  · exact absurd h1.1 (h2.2 t c)
  · exact c
  · exact absurd h2.1 (h1.2 u c)
