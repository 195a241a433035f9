/-! ===== 86 the reference's leads: all things ===== -/
theorem lev_live {s : HS} (hI : Inv s) {j t : Nat} (ht : t < 32) (h : lev s.1 j t) : lv s.1 t := by
  cases j with
  | zero =>
    obtain ⟨r, hr, e⟩ := h
    have := (hI.1.2.2.2.2.1.2.1 r hr).resolve_left (fun q => nI_pos (n := t) (by omega) (by rw [← e, q]; decide))
    rw [e, nI_clamp (show t < 2 ^ 31 by omega)] at this; exact this
  | succ j =>
    obtain ⟨a, f, ha, hf, _, e⟩ := h
    have := (hI.1.2.2.2.2.1.1 (2 * a + f) (by omega)).resolve_left (fun q => nI_pos (n := t) (by omega) (by rw [← e, q]; decide))
    rw [e, nI_clamp (show t < 2 ^ 31 by omega)] at this; exact this
/-- row 24 tells the level -/
theorem fa_iff {h : IA} {F : Nat → Int32} (hF : Fa h 33 F) {a n : Nat} (ha : a < 32) (hn : n < 100) : F a = nI (n + 1) ↔ levm h n a := by
  rcases hF a ha with ⟨z, nl⟩ | ⟨j, hj, ej, lj⟩
  · rw [z]
    refine ⟨fun q => absurd q.symm (nI_ne0 (by omega) (by omega)), fun q => ?_⟩
    have := levm_lt ha q
    exact absurd q.1 (nl n (by omega))
  · rw [ej, nI_eq (by omega) (by omega)]
    constructor
    · intro q
      have : j = n := by omega
      rw [← this]; exact lj
    · intro q
      rw [levm_one lj q]
/-- on a shortest way to g, from its level n on -/
def LD (h : IA) (g D n e : Nat) : Prop := ∃ i, n ≤ i ∧ i ≤ D ∧ levm h i e ∧ blev h g (D - i) e
theorem lev_on {h : IA} {g D i m a : Nat} (hD : levm h D g) (ha : a < 32) (l : lev h i a) (b : blev h g m a) (e : i + m = D) : levm h i a :=
  ⟨l, fun i' hi l' => hD.2 (i' + m) (by omega) (lev_blev m i' a ha l' b)⟩
theorem blev_on {h : IA} {g D i m a : Nat} (hD : levm h D g) (ha : a < 32) (l : lev h i a) (b : blev h g m a) (e : i + m = D) : blevm h g m a :=
  ⟨b, fun m' hm b' => hD.2 (i + m') (by omega) (lev_blev m' i a ha l b')⟩
theorem ld_succ {h : IA} {g D n : Nat} (hn : n < D) (e : Nat) : LD h g D n e ↔ (LD h g D (n + 1) e ∨ (levm h n e ∧ blev h g (D - n) e)) := by
  constructor
  · rintro ⟨i, h1, h2, h3, h4⟩
    by_cases q : i = n
    · subst q; exact Or.inr ⟨h3, h4⟩
    · exact Or.inl ⟨i, by omega, h2, h3, h4⟩
  · rintro (⟨i, h1, h2, h3, h4⟩ | ⟨h3, h4⟩)
    · exact ⟨i, by omega, h2, h3, h4⟩
    · exact ⟨n, Nat.le_refl _, by omega, h3, h4⟩
/-- one level's round -/
theorem m_lead2 {M : IA} {s : HS} (h : MR (M 1) s) (hI : Inv s) {g D n : Nat} (hF : Fa s.1 33 (M 24)) (hD : levm s.1 D g) (hn : n < D) (hD32 : D < 32) (h01 : ∀ t, t < 32 → M 25 t = 0 ∨ M 25 t = 1) (hL : ∀ e, e < 32 → (M 25 e = 1 ↔ LD s.1 g D (n + 1) e)) (q3 : Int32 × IA) (hq3 : q3.1 = nI (n + 1)) : ∃ N, loopN (sX7_laysLeads_L45 q3) 2000 (0, M) = some N ∧ ((∀ k, k ≠ 25 → N k = M k) ∧ (∀ t, t < 32 → N 25 t = 0 ∨ N 25 t = 1) ∧ ∀ e, e < 32 → (N 25 e = 1 ↔ LD s.1 g D n e)) := by
  refine loop_inv 32 (fun i a => ∃ N : IA, a = (nI i, N) ∧ (∀ k, k ≠ 25 → N k = M k) ∧ (∀ t, t < 32 → N 25 t = 0 ∨ N 25 t = 1) ∧ ∀ e, e < 32 → (N 25 e = 1 ↔ (LD s.1 g D (n + 1) e ∨ (e < i ∧ levm s.1 n e ∧ blev s.1 g (D - n) e)))) (fun N : IA => (∀ k, k ≠ 25 → N k = M k) ∧ (∀ t, t < 32 → N 25 t = 0 ∨ N 25 t = 1) ∧ ∀ e, e < 32 → (N 25 e = 1 ↔ LD s.1 g D n e)) ?_ 2000 0 _ (Nat.zero_le _) (by omega) ⟨M, by rw [nI_0], fun _ _ => rfl, h01, fun e he => (hL e he).trans ⟨Or.inl, fun q => q.resolve_right (fun z => Nat.not_lt_zero e z.1)⟩⟩
  rintro i a hi ⟨N, rfl, h1, h2, h3⟩
  unfold sX7_laysLeads_L45
  dsimp +instances only
  by_cases hlt : i < 32
  · left
    have hN : MR (N 1) s := by rw [h1 1 (by decide)]; exact h
    have e24 : N 24 = M 24 := h1 24 (by decide)
    rw [if_neg (show ¬ (32 : Int32) ≤ nI i from nI_ge (b := 32) hlt (by omega)), nI_1]
    by_cases hc : M 24 i = nI (n + 1)
    · have li : levm s.1 n i := (fa_iff hF hlt (by omega)).mp hc
      obtain ⟨N2, e2, f2, g2, k2⟩ := m_lead1 (M := N) hN (e := i) (n := n + 1) hlt (lev_live hI hlt li.1) (by omega) (by rw [e24]; exact hc) h2 q3 (nI i, N) hq3 rfl
      rw [e2, bind_s]
      refine ⟨_, hlt, rfl, N2, rfl, fun k hk => by rw [f2 k hk, h1 k hk], fun t ht => ?_, fun e he => ?_⟩
      · by_cases q : t = i
        · subst q
          rcases k2 with y | y
          · exact Or.inr y.1
          · exact Or.inl y.1
        · rw [g2 t q]; exact h2 t ht
      · by_cases q : e = i
        · subst q
          rcases k2 with ⟨y1, y2⟩ | ⟨y1, y0, y2⟩
          · refine ⟨fun _ => ?_, fun _ => y1⟩
            rcases y2 with y2 | ⟨o, f, ho, hf, a, b, c⟩
            · rcases (h3 e he).mp y2 with z | z
              · exact Or.inl z
              · exact absurd z.1 (Nat.lt_irrefl e)
            · rw [e24] at b
              have lo : levm s.1 (n + 1) o := (fa_iff hF ho (by omega)).mp b
              rcases (h3 o ho).mp a with ⟨i', z1, z2, z3, z4⟩ | z
              · have w := levm_one z3 lo
                subst w
                refine Or.inr ⟨by omega, li, ?_⟩
                rw [show D - n = (D - (n + 1)) + 1 by omega]
                exact ⟨f, o, hf, ho, c, z4⟩
              · have w := levm_one z.2.1 lo
                omega
          · rw [y1]
            refine ⟨fun q => absurd q (by decide), fun q => ?_⟩
            exfalso
            rcases q with q | ⟨_, _, q⟩
            · have w := (h3 e he).mpr (Or.inl q)
              rw [y0] at w
              exact absurd w (by decide)
            · rw [show D - n = (D - (n + 1)) + 1 by omega] at q
              obtain ⟨f, b, hf, hb', eb, lb⟩ := q
              have l1 : levm s.1 (n + 1) b := lev_on hD hb' ⟨e, f, he, hf, li.1, eb⟩ lb (by omega)
              exact y2 b f hb' hf ((h3 b hb').mpr (Or.inl ⟨n + 1, Nat.le_refl _, by omega, l1, lb⟩)) (by rw [e24]; exact (fa_iff hF hb' (by omega)).mpr l1) eb
        · rw [g2 e q, h3 e he]
          constructor
          · rintro (z | z)
            · exact Or.inl z
            · exact Or.inr ⟨by omega, z.2⟩
          · rintro (z | z)
            · exact Or.inl z
            · exact Or.inr ⟨by omega, z.2⟩
    · have st : sX7_laysLeads_L54 q3 (nI i, N) (0, N) = some (.inr N) := by
        unfold sX7_laysLeads_L54
        dsimp +instances only
        rw [if_neg (show ¬ (32 : Int32) ≤ 0 by decide), ck_nI hlt (by omega), nI_clamp (show i < 2 ^ 31 by omega), hq3, e24, if_neg hc]
      rw [show loopN (sX7_laysLeads_L54 q3 (nI i, N)) 2000 (0, N) = some N from loopN_inr (k := 1999) st, bind_s]
      refine ⟨_, hlt, rfl, N, rfl, h1, h2, fun e he => (h3 e he).trans ⟨?_, ?_⟩⟩
      · rintro (z | z)
        · exact Or.inl z
        · exact Or.inr ⟨by omega, z.2⟩
      · rintro (z | z)
        · exact Or.inl z
        · by_cases q : e = i
          · subst q
            exact absurd ((fa_iff hF he (by omega)).mpr z.2.1) hc
          · exact Or.inr ⟨by omega, z.2⟩
  · right
    have hi2 : i = 32 := by omega
    subst hi2
    rw [if_pos (show (32 : Int32) ≤ nI 32 by decide)]
    refine ⟨N, rfl, h1, h2, fun e he => (h3 e he).trans (Iff.trans ⟨?_, ?_⟩ (ld_succ hn e).symm)⟩
    · rintro (z | z)
      · exact Or.inl z
      · exact Or.inr z.2
    · rintro (z | z)
      · exact Or.inl z
      · exact Or.inr ⟨he, z⟩
theorem nI_less (n : Nat) : nI (n + 1) + (-1) = nI n := by
  rw [← Int32.sub_eq_add_neg]; exact nI_pred n
theorem m_leads {M : IA} {s : HS} (h : MR (M 1) s) (hI : Inv s) {g D : Nat} (hg : g < 32) (hF : Fa s.1 33 (M 24)) (hD : levm s.1 D g) : ∃ N, sX7_laysLeads M (nI g) = some N ∧ (∀ k, k ≠ 25 → N k = M k) ∧ (∀ t, t < 32 → N 25 t = 0 ∨ N 25 t = 1) ∧ ∀ e, e < 32 → (N 25 e = 1 ↔ LD s.1 g D 0 e) := by
  have hD32 := levm_lt hg hD
  have k1 : ∃ N, loopN (sX7_laysLeads_L2 (nI g)) 2000 (0, M) = some N ∧ ((∀ k, k ≠ 25 → N k = M k) ∧ ∀ t, t < 32 → N 25 t = if t = g then 1 else 0) := by
    refine loop_inv 32 (fun i a => ∃ N : IA, a = (nI i, N) ∧ (∀ k, k ≠ 25 → N k = M k) ∧ ∀ t, t < i → N 25 t = if t = g then 1 else 0) (fun N : IA => (∀ k, k ≠ 25 → N k = M k) ∧ ∀ t, t < 32 → N 25 t = if t = g then 1 else 0) ?_ 2000 0 _ (Nat.zero_le _) (by omega) ⟨M, by rw [nI_0], fun _ _ => rfl, fun t ht => absurd ht (Nat.not_lt_zero t)⟩
    rintro i a hi ⟨N, rfl, h1, h2⟩
    unfold sX7_laysLeads_L2
    dsimp +instances only
    by_cases hlt : i < 32
    · left
      have put : ∀ v : Int32, v = (if i = g then 1 else 0) → (∀ k, k ≠ 25 → wr N 25 i v k = M k) ∧ ∀ t, t < i + 1 → wr N 25 i v 25 t = if t = g then 1 else 0 := fun v hv => ⟨fun k hk => by rw [wr_row_ne _ _ _ hk, h1 k hk], fun t ht => by
        rw [wr_at]
        by_cases e : t = i
        · rw [if_pos ⟨rfl, e⟩, e]; exact hv
        · rw [if_neg (fun q => e q.2)]; exact h2 t (by omega)⟩
      rw [if_neg (show ¬ (32 : Int32) ≤ nI i from nI_ge (b := 32) hlt (by omega)), ck_nI hlt (by omega), ck_nI hlt (by omega), nI_clamp (show i < 2 ^ 31 by omega), bd_eq, bd_eq, nI_1]
      by_cases c : i = g
      · rw [if_pos (show nI i = nI g by rw [c])]
        exact ⟨_, hlt, rfl, _, rfl, put 1 (by rw [if_pos c])⟩
      · rw [if_neg (show ¬ nI i = nI g from fun q => c ((nI_eq (by omega) (by omega)).mp q))]
        exact ⟨_, hlt, rfl, _, rfl, put 0 (by rw [if_neg c])⟩
    · right
      have hi2 : i = 32 := by omega
      subst hi2
      rw [if_pos (show (32 : Int32) ≤ nI 32 by decide)]
      exact ⟨N, rfl, h1, h2⟩
  obtain ⟨N1, e1, f1, z1⟩ := k1
  have k2 : ∃ N, loopN sX7_laysLeads_L39 2000 (nI D, N1) = some N ∧ ((∀ k, k ≠ 25 → N k = M k) ∧ (∀ t, t < 32 → N 25 t = 0 ∨ N 25 t = 1) ∧ ∀ e, e < 32 → (N 25 e = 1 ↔ LD s.1 g D 0 e)) := by
    have s0 : ∀ t, t < 32 → N1 25 t = 0 ∨ N1 25 t = 1 := fun t ht => by
      rw [z1 t ht]
      by_cases q : t = g
      · rw [if_pos q]; exact Or.inr rfl
      · rw [if_neg q]; exact Or.inl rfl
    have s1 : ∀ e, e < 32 → (N1 25 e = 1 ↔ LD s.1 g D (D - 0) e) := fun e he => by
      rw [z1 e he, Nat.sub_zero]
      by_cases q : e = g
      · rw [if_pos q]
        refine ⟨fun _ => ⟨D, Nat.le_refl _, Nat.le_refl _, by rw [q]; exact hD, ?_⟩, fun _ => rfl⟩
        rw [Nat.sub_self]
        exact q
      · rw [if_neg q]
        refine ⟨fun z => absurd z (by decide), ?_⟩
        rintro ⟨i, y1, y2, y3, y4⟩
        have w : i = D := by omega
        rw [w, Nat.sub_self] at y4
        exact absurd y4 q
    refine loop_inv D (fun i a => ∃ N : IA, a = (nI (D - i), N) ∧ (∀ k, k ≠ 25 → N k = M k) ∧ (∀ t, t < 32 → N 25 t = 0 ∨ N 25 t = 1) ∧ ∀ e, e < 32 → (N 25 e = 1 ↔ LD s.1 g D (D - i) e)) (fun N : IA => (∀ k, k ≠ 25 → N k = M k) ∧ (∀ t, t < 32 → N 25 t = 0 ∨ N 25 t = 1) ∧ ∀ e, e < 32 → (N 25 e = 1 ↔ LD s.1 g D 0 e)) ?_ 2000 0 _ (Nat.zero_le _) (by omega) ⟨N1, by rw [Nat.sub_zero], f1, s0, s1⟩
    rintro i a hi ⟨N, rfl, h1, h2, h3⟩
    unfold sX7_laysLeads_L39
    dsimp +instances only
    by_cases hlt : i < D
    · left
      obtain ⟨n, hn⟩ : ∃ n, D - i = n + 1 := ⟨D - i - 1, by omega⟩
      have hn2 : D - (i + 1) = n := by omega
      rw [hn] at h3 ⊢
      obtain ⟨N3, e3, f3, g3, k3⟩ := m_lead2 (M := N) (by rw [h1 1 (by decide)]; exact h) hI (g := g) (D := D) (n := n) (by rw [h1 24 (by decide)]; exact hF) hD (by omega) hD32 h2 h3 (nI (n + 1), N) rfl
      rw [if_neg (nI_nle (n := n + 1) (by omega) (by omega)), e3, bind_s, nI_less]
      exact ⟨_, hlt, rfl, N3, by rw [hn2], fun k hk => by rw [f3 k hk, h1 k hk], g3, by rw [hn2]; exact k3⟩
    · right
      have hi2 : i = D := by omega
      subst hi2
      rw [Nat.sub_self] at h3 ⊢
      rw [if_pos (show nI 0 ≤ (0 : Int32) by decide)]
      exact ⟨N, rfl, h1, h2, h3⟩
  obtain ⟨N2, e2, f2, g2, l2⟩ := k2
  refine ⟨N2, ?_, f2, g2, l2⟩
  unfold sX7_laysLeads
  rw [e1, bind_s, ck_nI hg (by omega), nI_clamp (show g < 2 ^ 31 by omega), bd_eq, f1 24 (by decide), (fa_iff hF hg (by omega)).mpr hD, nI_pred, e2]
  rfl
