/-! ===== 84 the class's walk ===== -/
/-- y is the lowest field of x that is m away from g -/
def Nx (h : IA) (g m x y : Nat) : Prop := y < 32 ∧ (∃ f, f < 2 ∧ h 7 (2 * x + f) = nI y) ∧ blevm h g m y ∧ ∀ f v, f < 2 → v < 32 → h 7 (2 * x + f) = nI v → blevm h g m v → y ≤ v
theorem Nx.one {h : IA} {g m x y z : Nat} (h1 : Nx h g m x y) (h2 : Nx h g m x z) : y = z := by
  obtain ⟨f, hf, e⟩ := h1.2.1
  obtain ⟨f', hf', e'⟩ := h2.2.1
  have a := h1.2.2.2 f' z hf' h2.1 e' h2.2.2.1
  have b := h2.2.2.2 f y hf h1.1 e h1.2.2.1
  omega
def Pth (h : IA) (g D first : Nat) : Nat → Nat → Prop
  | 0, y => y = first
  | k + 1, y => ∃ x, x < 32 ∧ Pth h g D first k x ∧ Nx h g (D - k - 1) x y
theorem Pth.one {h : IA} {g D first : Nat} : ∀ (k y z : Nat), Pth h g D first k y → Pth h g D first k z → y = z := by
  intro k
  induction k with
  | zero => intro y z a b; have a' : y = first := a; have b' : z = first := b; rw [a', b']
  | succ k ih =>
    rintro y z ⟨x, _, p1, n1⟩ ⟨x', _, p2, n2⟩
    have := ih x x' p1 p2
    subst this
    exact n1.one n2
theorem far_iff {s : HS} {g : Nat} {F : Nat → Int32} (hF : FbA s.1 g F) {y m : Nat} (hy : y < 32) (hl : lv s.1 y) (hm : m < 100) : F y = nI (m + 1) ↔ blevm s.1 g m y := by
  rcases hF y hy hl with ⟨z, nl⟩ | ⟨j, hj, ej, lj⟩
  · rw [z]
    exact ⟨fun q => absurd q.symm (nI_ne0 (by omega) (by omega)), fun q => absurd q.1 (nl m)⟩
  · rw [ej, nI_eq (by omega) (by omega)]
    constructor
    · intro q
      have : j = m := by omega
      rw [← this]; exact lj
    · intro q
      rw [blevm_one lj q]
theorem c_next {A N : IA} {s : HS} (h : CR A s) (hI : Inv s) {g : Nat} (hF : FbA s.1 g (N 1)) {x m : Nat} (hx : x < 32) (hl : lv s.1 x) (hb' : blevm s.1 g (m + 1) x) : ∃ y, sX4_nextOf N A (nI x) = some (nI y) ∧ Nx s.1 g m x y ∧ lv s.1 y := by
  have w := hI.1.1
  have hm := blevm_lt hx hb'
  have eF : N 1 x = nI (m + 1 + 1) := (far_iff hF hx hl (by omega)).mpr hb'
  have fl : ∀ f, f < 2 → ∀ y, y < 32 → s.1 7 (2 * x + f) = nI y → lv s.1 y := fun f hf y hy e => by
    have := (hI.1.2.2.2.2.1.1 (2 * x + f) (by omega)).resolve_left (fun q => nI_pos (n := y) (by omega) (by rw [← e, q]; decide))
    rw [e, nI_clamp (show y < 2 ^ 31 by omega)] at this; exact this
  have isf : ∀ f, f < 2 → ((s.1 7 (2 * x + f) ≠ -5 ∧ N 1 (s.1 7 (2 * x + f)).toNatClampNeg = nI (m + 1)) ↔ ∃ y, y < 32 ∧ s.1 7 (2 * x + f) = nI y ∧ blevm s.1 g m y) := fun f hf => by
    constructor
    · rintro ⟨h5, e⟩
      obtain ⟨y, hy, ey, ec⟩ := nl_cl (w.2.1 (2 * x + f) (by omega)) h5
      rw [ec] at e
      exact ⟨y, hy, ey, (far_iff hF hy (fl f hf y hy ey) (by omega)).mp e⟩
    · rintro ⟨y, hy, ey, ly⟩
      refine ⟨fun q => nI_pos (n := y) (by omega) (by rw [← ey, q]; decide), ?_⟩
      rw [ey, nI_clamp (show y < 2 ^ 31 by omega)]
      exact (far_iff hF hy (fl f hf y hy ey) (by omega)).mpr ly
  unfold sX4_nextOf
  rw [ck_nI hx (by omega), nI_clamp (by omega), eF, bd_eq, nI_pred, c_f0 h hx, bind_s, c_f1 h hx, bind_s, c_isFar (w.2.1 _ (by omega)), c_isFar (w.2.1 _ (by omega)), bind_s, bind_s, ite10, ite10, bind_s, ite10]
  have i0 := isf 0 (by omega)
  have i1 := isf 1 (by omega)
  rw [Nat.add_zero] at i0
  by_cases q0 : s.1 7 (2 * x) ≠ -5 ∧ N 1 (s.1 7 (2 * x)).toNatClampNeg = nI (m + 1)
  · obtain ⟨y0, hy0, ey0, l0⟩ := i0.mp q0
    rw [if_pos q0]
    by_cases q1 : s.1 7 (2 * x + 1) ≠ -5 ∧ N 1 (s.1 7 (2 * x + 1)).toNatClampNeg = nI (m + 1)
    · obtain ⟨y1, hy1, ey1, l1⟩ := i1.mp q1
      rw [if_pos q1, ey0, ey1]
      by_cases c : nI y1 < nI y0
      · rw [if_pos c]
        rw [nI_ltI (by omega) (by omega)] at c
        refine ⟨y1, rfl, ⟨hy1, ⟨1, by omega, ey1⟩, l1, fun f v hf hv e lv' => ?_⟩, fl 1 (by omega) y1 hy1 ey1⟩
        rcases (show f = 0 ∨ f = 1 by omega) with rfl | rfl
        · have : y0 = v := (nI_eq (by omega) (by omega)).mp (by rw [← ey0]; exact e)
          omega
        · have : y1 = v := (nI_eq (by omega) (by omega)).mp (by rw [← ey1]; exact e)
          omega
      · rw [if_neg c]
        rw [nI_ltI (by omega) (by omega)] at c
        refine ⟨y0, rfl, ⟨hy0, ⟨0, by omega, ey0⟩, l0, fun f v hf hv e lv' => ?_⟩, fl 0 (by omega) y0 hy0 ey0⟩
        rcases (show f = 0 ∨ f = 1 by omega) with rfl | rfl
        · have : y0 = v := (nI_eq (by omega) (by omega)).mp (by rw [← ey0]; exact e)
          omega
        · have : y1 = v := (nI_eq (by omega) (by omega)).mp (by rw [← ey1]; exact e)
          omega
    · rw [if_neg q1, ey0]
      refine ⟨y0, rfl, ⟨hy0, ⟨0, by omega, ey0⟩, l0, fun f v hf hv e lv' => ?_⟩, fl 0 (by omega) y0 hy0 ey0⟩
      rcases (show f = 0 ∨ f = 1 by omega) with rfl | rfl
      · have : y0 = v := (nI_eq (by omega) (by omega)).mp (by rw [← ey0]; exact e)
        omega
      · exact absurd (i1.mpr ⟨v, hv, e, lv'⟩) q1
  · rw [if_neg q0]
    by_cases q1 : s.1 7 (2 * x + 1) ≠ -5 ∧ N 1 (s.1 7 (2 * x + 1)).toNatClampNeg = nI (m + 1)
    · obtain ⟨y1, hy1, ey1, l1⟩ := i1.mp q1
      rw [if_pos q1, ey1]
      refine ⟨y1, rfl, ⟨hy1, ⟨1, by omega, ey1⟩, l1, fun f v hf hv e lv' => ?_⟩, fl 1 (by omega) y1 hy1 ey1⟩
      rcases (show f = 0 ∨ f = 1 by omega) with rfl | rfl
      · exact absurd (i0.mpr ⟨v, hv, e, lv'⟩) q0
      · have : y1 = v := (nI_eq (by omega) (by omega)).mp (by rw [← ey1]; exact e)
        omega
    · obtain ⟨f, b, hf, hbb, e, lb⟩ := blevm_back hx hb'
      rcases (show f = 0 ∨ f = 1 by omega) with rfl | rfl
      · exact absurd (i0.mpr ⟨b, hbb, e, lb⟩) q0
      · exact absurd (i1.mpr ⟨b, hbb, e, lb⟩) q1
theorem c_walk {A N : IA} {s : HS} (h : CR A s) (hI : Inv s) {g D first : Nat} (hF : FbA s.1 g (N 1)) (hx : first < 32) (hl : lv s.1 first) (hb' : blevm s.1 g D first) {k : Nat} (hk : k ≤ D) : ∃ y, sX4_walk N A (nI first) (nI k) = some (nI y) ∧ Pth s.1 g D first k y ∧ y < 32 := by
  have hD := blevm_lt hx hb'
  have key : ∃ b, loopN (sX4_walk_L6 N A (nI k)) 2000 (nI first, 0) = some b ∧ ∃ y, b = nI y ∧ Pth s.1 g D first k y ∧ y < 32 := by
    refine loop_inv k (fun i a => ∃ y, a = (nI y, nI i) ∧ Pth s.1 g D first i y ∧ y < 32 ∧ lv s.1 y ∧ blevm s.1 g (D - i) y) (fun b => ∃ y, b = nI y ∧ Pth s.1 g D first k y ∧ y < 32) ?_ 2000 0 _ (Nat.zero_le _) (by omega) ⟨first, by rw [nI_0], rfl, hx, hl, hb'⟩
    rintro i a hi ⟨y, rfl, p, hy, hly, by'⟩
    unfold sX4_walk_L6
    dsimp +instances only
    by_cases hlt : i < k
    · left
      rw [if_neg (nI_ge hlt (by omega)), if_neg (show ¬ (32 : Int32) ≤ nI i from nI_ge (b := 32) (by omega) (by omega)), nI_1]
      obtain ⟨z, ez, nz, lz⟩ := c_next h hI hF hy hly (m := D - i - 1) (by rw [show D - i - 1 + 1 = D - i by omega]; exact by')
      rw [ez, bind_s]
      exact ⟨_, hlt, rfl, z, rfl, ⟨y, hy, p, nz⟩, nz.1, lz, by rw [show D - (i + 1) = D - i - 1 by omega]; exact nz.2.2.1⟩
    · right
      have hi2 : i = k := by omega
      subst hi2
      rw [if_pos (nI_le (Nat.le_refl _) (by omega))]
      exact ⟨_, rfl, y, rfl, p, hy⟩
  obtain ⟨b, e, y, rfl, p, hy⟩ := key
  refine ⟨y, ?_, p, hy⟩
  unfold sX4_walk
  rw [e]
  rfl
