/-! ===== 38 which regions a pause takes ===== -/
def yg (h : IA) : Nat → Int32 × Int32
  | 0 => (0, 0)
  | r + 1 => if h 0 r = 1 then ((yg h r).1 ||| (1 <<< (nI r &&& 31)), (yg h r).2 + h 1 r) else yg h r
def gi (h : IA) (r : Nat) : Int := if h 0 r = 2 ∧ h 2 r ≠ -9 then (h 1 r - h 2 r).toInt else 0
def fl (h : IA) (g : Int) : Nat → Nat → List Nat
  | 0, _ => []
  | n + 1, r => if gi h r = g then r :: fl h g n (r + 1) else fl h g n (r + 1)
def Lo (h : IA) : Nat → List Nat
  | 0 => []
  | n + 1 => fl h ((n + 2 : Nat) : Int) 10 0 ++ Lo h n
def chs (h : IA) (rate goal : UInt32) : List Nat → Int32 × UInt32 → Int32 × UInt32
  | [], x => x
  | r :: L, x => if Op.cmpValue (FP.fcmp (FP.fadd x.2 (FP.fmul rate (FP.i2f (h 2 r)))) goal) .l ≤ 0 then chs h rate goal L (x.1 ||| (1 <<< (nI r &&& 31)), FP.fadd x.2 (FP.fmul rate (FP.i2f (h 2 r)))) else x
theorem chs_cons (h : IA) (rate goal : UInt32) (r : Nat) (L : List Nat) (x : Int32 × UInt32) : chs h rate goal (r :: L) x = if Op.cmpValue (FP.fcmp (FP.fadd x.2 (FP.fmul rate (FP.i2f (h 2 r)))) goal) .l ≤ 0 then chs h rate goal L (x.1 ||| (1 <<< (nI r &&& 31)), FP.fadd x.2 (FP.fmul rate (FP.i2f (h 2 r)))) else x := rfl
def fc0 (h : IA) (rate yl : UInt32) : UInt32 := FP.fadd 1092616192 (FP.fmul rate (FP.fmul yl (FP.i2f (yg h 10).2)))
def chz (h : IA) (rate yl goal : UInt32) : Int32 × UInt32 := chs h rate goal (Lo h 7) ((yg h 10).1, fc0 h rate yl)
theorem mem_fl (h : IA) (g : Int) : ∀ n r x, x ∈ fl h g n r ↔ r ≤ x ∧ x < r + n ∧ gi h x = g := by
  intro n
  induction n with
  | zero => intro r x; exact ⟨fun q => absurd q List.not_mem_nil, fun q => by omega⟩
  | succ n ih =>
    intro r x
    unfold fl
    by_cases e : gi h r = g
    · rw [if_pos e, List.mem_cons, ih]
      constructor
      · rintro (q | q)
        · subst q; exact ⟨Nat.le_refl _, by omega, e⟩
        · exact ⟨by omega, by omega, q.2.2⟩
      · intro q
        by_cases e2 : x = r
        · exact Or.inl e2
        · exact Or.inr ⟨by omega, by omega, q.2.2⟩
    · rw [if_neg e, ih]
      constructor
      · intro q; exact ⟨by omega, by omega, q.2.2⟩
      · intro q
        by_cases e2 : x = r
        · subst e2; exact absurd q.2.2 e
        · exact ⟨by omega, by omega, q.2.2⟩
theorem mem_Lo (h : IA) : ∀ n x, x ∈ Lo h n ↔ x < 10 ∧ 2 ≤ gi h x ∧ gi h x ≤ ((n + 1 : Nat) : Int) := by
  intro n
  induction n with
  | zero => intro x; exact ⟨fun q => absurd q List.not_mem_nil, fun q => by omega⟩
  | succ n ih =>
    intro x
    show x ∈ fl h ((n + 2 : Nat) : Int) 10 0 ++ Lo h n ↔ _
    rw [List.mem_append, mem_fl, ih]
    constructor
    · rintro (q | q)
      · exact ⟨by omega, by omega, by omega⟩
      · exact ⟨q.1, q.2.1, by omega⟩
    · intro q
      by_cases e : gi h x = ((n + 2 : Nat) : Int)
      · exact Or.inl ⟨by omega, by omega, e⟩
      · exact Or.inr ⟨q.1, q.2.1, by omega⟩
def Rk (h : IA) (x y : Nat) : Prop := gi h y < gi h x ∨ (gi h y = gi h x ∧ x < y)
theorem pw_fl (h : IA) (g : Int) : ∀ n r, (fl h g n r).Pairwise (Rk h) := by
  intro n
  induction n with
  | zero => intro r; exact List.Pairwise.nil
  | succ n ih =>
    intro r
    unfold fl
    by_cases e : gi h r = g
    · rw [if_pos e, List.pairwise_cons]
      refine ⟨fun y hy => ?_, ih (r + 1)⟩
      rw [mem_fl] at hy
      exact Or.inr ⟨by rw [hy.2.2, e], by omega⟩
    · rw [if_neg e]; exact ih (r + 1)
theorem pw_Lo (h : IA) : ∀ n, (Lo h n).Pairwise (Rk h) := by
  intro n
  induction n with
  | zero => exact List.Pairwise.nil
  | succ n ih =>
    show (fl h ((n + 2 : Nat) : Int) 10 0 ++ Lo h n).Pairwise (Rk h)
    rw [List.pairwise_append]
    refine ⟨pw_fl h _ 10 0, ih, fun x hx y hy => ?_⟩
    rw [mem_fl] at hx
    rw [mem_Lo] at hy
    exact Or.inl (by omega)
/-! the reference's way through it -/
theorem toInt_inj {a b : Int32} (h : a.toInt = b.toInt) : a = b := Int32.toInt_inj.mp h
theorem gainOf_eq {M : IA} {s : HS} (h : MR (M 1) s) {r : Nat} (hr : r < 10) : ∃ v, sX7_gainOf M (nI r) = some v ∧ v.toInt = gi s.1 r := by
  unfold sX7_gainOf gi
  rw [m_kd h hr, bind_s, m_lv h hr, bind_s, m_tp h hr, bind_s, bind_s]
  by_cases h2 : s.1 0 r = 2
  · rw [if_pos h2]
    by_cases h9 : s.1 2 r = -9
    · rw [if_pos h9, if_neg (fun q => q.2 h9)]; exact ⟨0, rfl, rfl⟩
    · rw [if_neg h9, if_pos ⟨h2, h9⟩]; exact ⟨_, rfl, rfl⟩
  · rw [if_neg h2, if_neg (fun q => h2 q.1)]; exact ⟨0, rfl, rfl⟩
/-- rows 11 and 13, and the foretold float, alone change -/
def Ch (M : IA) (F : FA) (M' : IA) (F' : FA) (y : Int32) (x : Int32 × UInt32) : Prop := (∀ k, k ≠ 11 → k ≠ 13 → M' k = M k) ∧ (∀ k, k ≠ 12 → F' k = F k) ∧ M' 11 0 = x.1 ∧ M' 13 0 = y ∧ F' 12 0 = x.2
theorem m_young {M : IA} {s : HS} (h : MR (M 1) s) : ∃ N, loopN sX7_laysChosen_L12 2000 (0, sc (sc M 11 0) 13 0) = some N ∧ (∀ k, k ≠ 11 → k ≠ 13 → N k = M k) ∧ N 11 0 = (yg s.1 10).1 ∧ N 13 0 = (yg s.1 10).2 := by
  refine loop_inv 10 (fun i a => ∃ N : IA, a = (nI i, N) ∧ (∀ k, k ≠ 11 → k ≠ 13 → N k = M k) ∧ N 11 0 = (yg s.1 i).1 ∧ N 13 0 = (yg s.1 i).2) (fun N : IA => (∀ k, k ≠ 11 → k ≠ 13 → N k = M k) ∧ N 11 0 = (yg s.1 10).1 ∧ N 13 0 = (yg s.1 10).2) ?_ 2000 0 _ (Nat.zero_le _) (by omega) ⟨sc (sc M 11 0) 13 0, by rw [nI_0], fun k h1 h2 => by rw [sc_row_ne _ _ h2, sc_row_ne _ _ h1], rfl, rfl⟩
  rintro i a hi ⟨N, rfl, h1, h2, h3⟩
  unfold sX7_laysChosen_L12
  dsimp +instances only
  by_cases hlt : i < 10
  · left
    have hN : MR (N 1) s := by rw [h1 1 (by omega) (by omega)]; exact h
    rw [if_neg (show ¬ (10 : Int32) ≤ nI i from nI_ge (b := 10) hlt (by omega)), m_kd hN hlt, bind_s, nI_1]
    by_cases hk : s.1 0 i = 1
    · rw [if_pos hk]
      have hN2 : MR ((sc N 11 (N 11 0 ||| (1 <<< (nI i &&& 31)))) 1) s := by rw [sc_row_ne _ _ (by omega)]; exact hN
      rw [bd_eq, m_tp hN2 hlt, bind_s, bd_eq]
      refine ⟨_, hlt, rfl, _, rfl, fun k q1 q2 => by rw [sc_row_ne _ _ q2, sc_row_ne _ _ q1, h1 k q1 q2], ?_, ?_⟩
      · show sc (sc N 11 _) 13 _ 11 0 = _
        rw [sc_row_ne _ _ (by omega), sc_same, h2]
        show _ = (if s.1 0 i = 1 then _ else _ : Int32 × Int32).1
        rw [if_pos hk]
      · show sc (sc N 11 _) 13 _ 13 0 = _
        rw [sc_same, sc_row_ne _ _ (by omega), h3]
        show _ = (if s.1 0 i = 1 then _ else _ : Int32 × Int32).2
        rw [if_pos hk]
    · rw [if_neg hk]
      refine ⟨_, hlt, rfl, N, rfl, h1, ?_, ?_⟩
      · rw [h2]
        show _ = (if s.1 0 i = 1 then _ else _ : Int32 × Int32).1
        rw [if_neg hk]
      · rw [h3]
        show _ = (if s.1 0 i = 1 then _ else _ : Int32 × Int32).2
        rw [if_neg hk]
  · right
    have hi2 : i = 10 := by omega
    subst hi2
    rw [if_pos (by decide)]
    exact ⟨N, rfl, h1, h2, h3⟩
theorem m_inner {M : IA} {F : FA} {s : HS} (h : MR (M 1) s) (goal : Int32) (y : Int32) (g : Nat) (q3 : Int32 × IA × FA) (hq : q3.1 = nI (g + 2)) (hg : g < 7) (T : List Nat) :
    ∀ (n r k : Nat) (N : IA) (K : FA) (x : Int32 × UInt32), Ch M F N K y x → r + n = 10 → n < k →
      (∃ N' K' x', loopN (sX7_laysChosen_L97 goal q3) k (nI r, N, K) = some (.inl (nI (g + 1), N', K')) ∧ Ch M F N' K' y x' ∧ chs s.1 (F 2 0) (FP.i2f goal) (fl s.1 ((g + 2 : Nat) : Int) n r ++ T) x = chs s.1 (F 2 0) (FP.i2f goal) T x') ∨
      (∃ N' K', loopN (sX7_laysChosen_L97 goal q3) k (nI r, N, K) = some (.inr (N', K')) ∧ Ch M F N' K' y (chs s.1 (F 2 0) (FP.i2f goal) (fl s.1 ((g + 2 : Nat) : Int) n r ++ T) x)) := by
  intro n
  induction n with
  | zero =>
    intro r k N K x hc hr hk
    obtain ⟨j, rfl⟩ : ∃ j, k = j + 1 := ⟨k - 1, by omega⟩
    have hr2 : r = 10 := by omega
    subst hr2
    left
    refine ⟨N, K, x, loopN_inr ?_, hc, rfl⟩
    unfold sX7_laysChosen_L97
    dsimp +instances only
    rw [if_pos (by decide), hq, pk_m1]
  | succ n ih =>
    intro r k N K x hc hr hk
    obtain ⟨j, rfl⟩ : ∃ j, k = j + 1 := ⟨k - 1, by omega⟩
    have hr2 : r < 10 := by omega
    have hN : MR (N 1) s := by rw [hc.1 1 (by omega) (by omega)]; exact h
    obtain ⟨v, ev, hv⟩ := gainOf_eq hN hr2
    unfold fl
    by_cases e : gi s.1 r = ((g + 2 : Nat) : Int)
    · have hv2 : v = nI (g + 2) := toInt_inj (by rw [hv, e, nI_toInt (by omega)])
      rw [if_pos e, List.cons_append, chs_cons]
      have hF : K 2 (Int32.toNatClampNeg 0) = F 2 0 := by rw [hc.2.1 2 (by omega)]; rfl
      have hstep : sX7_laysChosen_L97 goal q3 (nI r, N, K) = (if Op.cmpValue (FP.fcmp (FP.fadd x.2 (FP.fmul (F 2 0) (FP.i2f (s.1 2 r)))) (FP.i2f goal)) .l ≤ 0 then some (.inl (nI (r + 1), sc N 11 (x.1 ||| (1 <<< (nI r &&& 31))), scF K 12 (FP.fadd x.2 (FP.fmul (F 2 0) (FP.i2f (s.1 2 r)))))) else some (.inr (.inr (N, K)))) := by
        unfold sX7_laysChosen_L97
        dsimp +instances only
        rw [if_neg (show ¬ (10 : Int32) ≤ nI r from nI_ge (b := 10) hr2 (by omega)), ev, bind_s, hv2, hq, if_pos rfl, m_lv hN hr2, bind_s, hF, hc.2.2.2.2, hc.2.2.1, nI_1]
        rfl
      by_cases hcmp : Op.cmpValue (FP.fcmp (FP.fadd x.2 (FP.fmul (F 2 0) (FP.i2f (s.1 2 r)))) (FP.i2f goal)) .l ≤ 0
      · rw [if_pos hcmp] at hstep ⊢
        rw [loopN_inl hstep]
        refine ih (r + 1) j _ _ (x.1 ||| (1 <<< (nI r &&& 31)), FP.fadd x.2 (FP.fmul (F 2 0) (FP.i2f (s.1 2 r)))) ⟨fun k q1 q2 => by rw [sc_row_ne _ _ q1, hc.1 k q1 q2], fun k q => ?_, ?_, ?_, ?_⟩ (by omega) (by omega)
        · unfold scF setRF
          rw [show Nat.beq k 12 = false from by
            cases hb : Nat.beq k 12 with
            | false => rfl
            | true => exact absurd (Nat.eq_of_beq_eq_true hb) q]
          exact hc.2.1 k q
        · rw [sc_same]
        · rw [sc_row_ne _ _ (by omega)]; exact hc.2.2.2.1
        · rfl
      · rw [if_neg hcmp] at hstep ⊢
        right
        exact ⟨N, K, loopN_inr hstep, hc⟩
    · have hv2 : ¬ v = nI (g + 2) := fun q => e (by rw [← hv, q, nI_toInt (by omega)])
      rw [if_neg e]
      rw [loopN_inl (a' := (nI (r + 1), N, K)) (by
        unfold sX7_laysChosen_L97
        dsimp +instances only
        rw [if_neg (show ¬ (10 : Int32) ≤ nI r from nI_ge (b := 10) hr2 (by omega)), ev, bind_s, hq, if_neg hv2, nI_1])]
      exact ih (r + 1) j N K x hc (by omega) (by omega)
theorem m_outer {M : IA} {F : FA} {s : HS} (h : MR (M 1) s) (goal : Int32) (y : Int32) :
    ∀ (g k : Nat) (N : IA) (K : FA) (x : Int32 × UInt32), Ch M F N K y x → g < 8 → g < k → ∃ N' K', loopN (sX7_laysChosen_L90 goal) k (nI (g + 1), N, K) = some (N', K') ∧ Ch M F N' K' y (chs s.1 (F 2 0) (FP.i2f goal) (Lo s.1 g) x) := by
  intro g
  induction g with
  | zero =>
    intro k N K x hc _ hk
    obtain ⟨j, rfl⟩ : ∃ j, k = j + 1 := ⟨k - 1, by omega⟩
    refine ⟨N, K, loopN_inr ?_, hc⟩
    unfold sX7_laysChosen_L90
    dsimp +instances only
    rw [if_pos (by decide)]
  | succ g ih =>
    intro k N K x hc hg hk
    obtain ⟨j, rfl⟩ : ∃ j, k = j + 1 := ⟨k - 1, by omega⟩
    have hgt : ¬ nI (g + 1 + 1) ≤ (1 : Int32) := nI_ge (a := 1) (by omega) (by omega)
    rcases m_inner h goal y g (nI (g + 1 + 1), N, K) rfl (by omega) (Lo s.1 g) 10 0 2000 N K x hc rfl (by omega) with ⟨N', K', x', e, hc', ex⟩ | ⟨N', K', e, hc'⟩
    · rw [loopN_inl (a' := (nI (g + 1), N', K')) (by
        unfold sX7_laysChosen_L90
        dsimp +instances only
        rw [if_neg hgt]
        exact e)]
      obtain ⟨N2, K2, e2, hc2⟩ := ih j N' K' x' hc' (by omega) (by omega)
      refine ⟨N2, K2, e2, ?_⟩
      show Ch M F N2 K2 y (chs s.1 (F 2 0) (FP.i2f goal) (fl s.1 ((g + 2 : Nat) : Int) 10 0 ++ Lo s.1 g) x)
      rw [ex]; exact hc2
    · refine ⟨N', K', loopN_inr ?_, hc'⟩
      unfold sX7_laysChosen_L90
      dsimp +instances only
      rw [if_neg hgt]
      exact e
theorem m_choose {M : IA} {F : FA} {s : HS} (h : MR (M 1) s) (goal : Int32) : ∃ N K, sX7_laysChosen M F goal = some (N, K) ∧ Ch M F N K (yg s.1 10).2 (chz s.1 (F 2 0) (F 2 1) (FP.i2f goal)) := by
  obtain ⟨N, e, h1, h2, h3⟩ := m_young h
  unfold sX7_laysChosen
  rw [bd_eq, bd_eq, e, bind_s, h3, bd_eq]
  have hF : ∀ k, k ≠ 12 → ∀ v, scF F 12 v k = F k := by
    intro k q v
    unfold scF setRF
    rw [show Nat.beq k 12 = false from by
      cases hb : Nat.beq k 12 with
      | false => rfl
      | true => exact absurd (Nat.eq_of_beq_eq_true hb) q]
    rfl
  exact m_outer h goal (yg s.1 10).2 7 2000 N _ ((yg s.1 10).1, fc0 s.1 (F 2 0) (F 2 1)) ⟨h1, fun k q => hF k q _, h2, h3, rfl⟩ (by omega) (by omega)
