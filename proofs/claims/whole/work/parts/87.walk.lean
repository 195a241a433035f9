/-! ===== 87 the reference's walk ===== -/
theorem m_seek {z2 : IA} {q1 : Int32 × Int32} {y : Nat} (hy : y < 32) (hbad : ∀ i, i < y → sX7_way_L79 z2 q1 (nI i) = some (.inl (nI (i + 1)))) (hgood : sX7_way_L79 z2 q1 (nI y) = some (.inr (nI y))) : loopN (sX7_way_L79 z2 q1) 2000 0 = some (nI y) := by
  obtain ⟨b, e, rfl⟩ : ∃ b, loopN (sX7_way_L79 z2 q1) 2000 0 = some b ∧ b = nI y := by
    refine loop_inv y (fun i a => a = nI i) (fun b => b = nI y) ?_ 2000 0 _ (Nat.zero_le _) (by omega) (by rw [nI_0])
    rintro i a hi rfl
    by_cases hlt : i < y
    · exact Or.inl ⟨_, hlt, hbad i hlt, rfl⟩
    · have w : i = y := by omega
      subst w
      exact Or.inr ⟨_, hgood, rfl⟩
  exact e
theorem seek0 {M : IA} {s : HS} {g D : Nat} (hF : Fa s.1 33 (M 24)) (h01 : ∀ t, t < 32 → M 25 t = 0 ∨ M 25 t = 1) (hL : ∀ e, e < 32 → (M 25 e = 1 ↔ LD s.1 g D 0 e)) (v : Int32) {i : Nat} (hi : i < 32) : (sX7_way_L79 M (v, nI (0 + 1)) (nI i) = some (.inr (nI i)) ∧ lev s.1 0 i ∧ blev s.1 g D i) ∨ (sX7_way_L79 M (v, nI (0 + 1)) (nI i) = some (.inl (nI (i + 1))) ∧ ¬ (lev s.1 0 i ∧ blev s.1 g D i)) := by
  unfold sX7_way_L79
  dsimp +instances only
  rw [ck_nI hi (by omega), ck_nI hi (by omega), nI_clamp (show i < 2 ^ 31 by omega), nI_1, if_pos (show nI (0 + 1) ≤ (1 : Int32) by decide)]
  by_cases c : M 24 i = nI (0 + 1)
  · have li : levm s.1 0 i := (fa_iff hF hi (by omega)).mp c
    rw [if_pos c]
    rcases h01 i hi with z | z
    · rw [if_pos z]
      refine Or.inr ⟨rfl, fun q => ?_⟩
      have w := (hL i hi).mpr ⟨0, Nat.le_refl _, Nat.zero_le _, li, q.2⟩
      rw [z] at w; exact absurd w (by decide)
    · rw [if_neg (show ¬ M 25 i = 0 by rw [z]; decide)]
      obtain ⟨i', _, _, l', b⟩ := (hL i hi).mp z
      have w := levm_one l' li
      subst w
      exact Or.inl ⟨rfl, li.1, b⟩
  · rw [if_neg c]
    exact Or.inr ⟨rfl, fun q => c ((fa_iff hF hi (n := 0) (by omega)).mpr ⟨q.1, fun j hj => absurd hj (Nat.not_lt_zero j)⟩)⟩
theorem seek1 {M : IA} {s : HS} (h : MR (M 1) s) {g D : Nat} (hF : Fa s.1 33 (M 24)) (h01 : ∀ t, t < 32 → M 25 t = 0 ∨ M 25 t = 1) (hL : ∀ e, e < 32 → (M 25 e = 1 ↔ LD s.1 g D 0 e)) {n x : Nat} (hn : n < 40) (hnD : n + 1 ≤ D) (hx : x < 32) (hl : lv s.1 x) {i : Nat} (hi : i < 32) : (sX7_way_L79 M (nI x, nI (n + 1 + 1)) (nI i) = some (.inr (nI i)) ∧ levm s.1 (n + 1) i ∧ blev s.1 g (D - (n + 1)) i ∧ ∃ f, f < 2 ∧ s.1 7 (2 * x + f) = nI i) ∨ (sX7_way_L79 M (nI x, nI (n + 1 + 1)) (nI i) = some (.inl (nI (i + 1))) ∧ ¬ (levm s.1 (n + 1) i ∧ blev s.1 g (D - (n + 1)) i ∧ ∃ f, f < 2 ∧ s.1 7 (2 * x + f) = nI i)) := by
  unfold sX7_way_L79
  dsimp +instances only
  rw [ck_nI hi (by omega), ck_nI hi (by omega), nI_clamp (show i < 2 ^ 31 by omega), nI_1, if_neg (show ¬ nI (n + 1 + 1) ≤ (1 : Int32) from nI_ge (a := 1) (b := n + 1 + 1) (by omega) (by omega))]
  by_cases c : M 24 i = nI (n + 1 + 1)
  · have li : levm s.1 (n + 1) i := (fa_iff hF hi (by omega)).mp c
    rw [if_pos c]
    rcases h01 i hi with z | z
    · rw [if_pos z]
      refine Or.inr ⟨rfl, fun q => ?_⟩
      have w := (hL i hi).mpr ⟨n + 1, Nat.zero_le _, hnD, li, q.2.1⟩
      rw [z] at w; exact absurd w (by decide)
    · rw [if_neg (show ¬ M 25 i = 0 by rw [z]; decide)]
      obtain ⟨i', _, _, l', b⟩ := (hL i hi).mp z
      have w := levm_one l' li
      subst w
      rcases m_isField h (o := i) hx hl with ⟨eq, fe⟩ | ⟨eq, nf⟩
      · rw [eq, bind_s, if_neg (show ¬ (1 : Int32) = 0 by decide)]
        exact Or.inl ⟨rfl, li, b, fe⟩
      · rw [eq, bind_s, if_pos (show (0 : Int32) = 0 from rfl)]
        exact Or.inr ⟨rfl, fun ⟨_, _, f, hf, e⟩ => nf f hf e⟩
  · rw [if_neg c]
    exact Or.inr ⟨rfl, fun q => c ((fa_iff hF hi (by omega)).mpr q.1)⟩
theorem pth_lev {h : IA} {g D first : Nat} (hD : levm h D g) (hf : first < 32) (l0 : lev h 0 first) (b0 : blevm h g D first) : ∀ k y, k ≤ D → Pth h g D first k y → y < 32 ∧ levm h k y ∧ blevm h g (D - k) y := by
  intro k
  induction k with
  | zero =>
    intro y _ p
    have e : y = first := p
    rw [e]
    exact ⟨hf, ⟨l0, fun i hi => absurd hi (Nat.not_lt_zero i)⟩, b0⟩
  | succ k ih =>
    rintro y hk ⟨x, hx, p, n⟩
    obtain ⟨_, lx, _⟩ := ih x (by omega) p
    obtain ⟨f, hf', e⟩ := n.2.1
    have b : blevm h g (D - (k + 1)) y := by rw [show D - (k + 1) = D - k - 1 by omega]; exact n.2.2.1
    exact ⟨n.1, lev_on hD n.1 ⟨x, f, hx, hf', lx.1, e⟩ b.1 (by omega), b⟩
theorem m_walk {M : IA} {s : HS} (h : MR (M 1) s) (hI : Inv s) {g D first : Nat} (hF : Fa s.1 33 (M 24)) (h01 : ∀ t, t < 32 → M 25 t = 0 ∨ M 25 t = 1) (hL : ∀ e, e < 32 → (M 25 e = 1 ↔ LD s.1 g D 0 e)) (hD : levm s.1 D g) (hD32 : D < 32) (hf : first < 32) (l0 : lev s.1 0 first) (b0 : blevm s.1 g D first) (hmin : ∀ v, v < 32 → lev s.1 0 v → blevm s.1 g D v → first ≤ v) (hP : ∀ k, k ≤ D → ∃ y, Pth s.1 g D first k y) {k : Nat} (hk : k ≤ D) : ∃ y, loopN (sX7_way_L68 (nI k) M) 2000 (-9, 1) = some (nI y) ∧ Pth s.1 g D first k y := by
  have key : ∃ b, loopN (sX7_way_L68 (nI k) M) 2000 (-9, 1) = some b ∧ ∃ y, b = nI y ∧ Pth s.1 g D first k y := by
    refine loop_inv (k + 1) (fun i a => ∃ v, a = (v, nI (i + 1)) ∧ ∀ j, i = j + 1 → ∃ y, v = nI y ∧ Pth s.1 g D first j y) (fun b => ∃ y, b = nI y ∧ Pth s.1 g D first k y) ?_ 2000 0 _ (Nat.zero_le _) (by omega) ⟨-9, rfl, fun j hj => by omega⟩
    rintro i a hi ⟨v, rfl, hv⟩
    unfold sX7_way_L68
    dsimp +instances only
    by_cases hlt : i < k + 1
    · left
      have step : ∃ y, loopN (sX7_way_L79 M (v, nI (i + 1))) 2000 0 = some (nI y) ∧ Pth s.1 g D first i y := by
        cases i with
        | zero =>
          refine ⟨first, m_seek hf (fun e he => ?_) ?_, rfl⟩
          · rcases seek0 (s := s) hF h01 hL v (i := e) (by omega) with ⟨_, q1, q2⟩ | ⟨q, _⟩
            · have w := hmin e (by omega) q1 (blev_on hD (by omega) q1 q2 (by omega))
              omega
            · exact q
          · rcases seek0 (s := s) hF h01 hL v hf with ⟨q, _⟩ | ⟨_, q⟩
            · exact q
            · exact absurd ⟨l0, b0.1⟩ q
        | succ j =>
          obtain ⟨x, rfl, px⟩ := hv j rfl
          obtain ⟨y, x', hx', px', ny⟩ := hP (j + 1) (by omega)
          have w := Pth.one j x' x px' px
          subst w
          obtain ⟨hx, lx, bx⟩ := pth_lev hD hf l0 b0 j x' (by omega) px
          obtain ⟨hy, ly, by'⟩ := pth_lev hD hf l0 b0 (j + 1) y (by omega) ⟨x', hx', px', ny⟩
          have hlx : lv s.1 x' := lev_live hI hx lx.1
          refine ⟨y, m_seek hy (fun e he => ?_) ?_, ⟨x', hx', px', ny⟩⟩
          · rcases seek1 h hF h01 hL (n := j) (by omega) (by omega) hx hlx (i := e) (by omega) with ⟨_, q1, q2, f, hf', ef⟩ | ⟨q, _⟩
            · have be := blev_on hD (show e < 32 by omega) q1.1 q2 (by omega)
              rw [show D - (j + 1) = D - j - 1 by omega] at be
              have w := ny.2.2.2 f e hf' (by omega) ef be
              omega
            · exact q
          · rcases seek1 h hF h01 hL (n := j) (by omega) (by omega) hx hlx (i := y) hy with ⟨q, _⟩ | ⟨_, q⟩
            · exact q
            · exact absurd ⟨ly, by'.1, ny.2.1⟩ q
      obtain ⟨y, ey, py⟩ := step
      rw [nI_1, nI_1, if_neg (nI_nlt (a := k + 1) (b := i + 1) (by omega) (by omega)), ey, bind_s]
      refine ⟨_, hlt, rfl, nI y, rfl, fun j hj => ⟨y, rfl, ?_⟩⟩
      have w : j = i := by omega
      rw [w]
      exact py
    · right
      have hi2 : i = k + 1 := by omega
      subst hi2
      rw [nI_1, nI_1, if_pos (nI_lt (a := k + 1) (b := k + 1 + 1) (by omega) (by omega))]
      obtain ⟨y, ey, py⟩ := hv k rfl
      exact ⟨_, rfl, y, ey, py⟩
  obtain ⟨b, e, y, rfl, p⟩ := key
  exact ⟨y, e, p⟩
