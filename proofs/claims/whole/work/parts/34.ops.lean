/-! ===== 34 WHAT IS DONE TO A HEAP, both sides: free, end, empty, black cells ===== -/
abbrev m3 (r : Nat) : Int32 := (3 <<< ((2 * nI r) &&& 31)) ^^^ (-1)
def fr0 (r : Nat) (s : HS) : HS := (wr (wr (wr (wr s.1 0 r 0) 1 r 0) 2 r (-9)) 3 r 0, dropL (nI (2 * r + 1)) (dropL (nI (2 * r)) s.2.1), s.2.2)
def fr1 (r : Nat) (s : HS) : HS := it (fun i (s : HS) => ((wr s.1 3 i ((fun v => v &&& m3 r) (s.1 3 i)), s.2) : HS)) 10 (fr0 r s)
theorem fr1_2 (r : Nat) (s : HS) : (fr1 r s).2 = (dropL (nI (2 * r + 1)) (dropL (nI (2 * r)) s.2.1), s.2.2) := (it_wr 3 (fun v => v &&& m3 r) 10 (fr0 r s)).1
theorem fr1_at (r : Nat) (s : HS) (a b : Nat) : (fr1 r s).1 a b = if a = 3 ∧ b < 10 then (if b = r then 0 else s.1 3 b) &&& m3 r else if a = 3 ∧ b = r then 0 else if a = 2 ∧ b = r then -9 else if a = 1 ∧ b = r then 0 else if a = 0 ∧ b = r then 0 else s.1 a b := by
  refine ((it_wr 3 (fun v => v &&& m3 r) 10 (fr0 r s)).2 a b).trans ?_
  show (if a = 3 ∧ b < 10 then (wr (wr (wr (wr s.1 0 r 0) 1 r 0) 2 r (-9)) 3 r 0) 3 b &&& m3 r else (wr (wr (wr (wr s.1 0 r 0) 1 r 0) 2 r (-9)) 3 r 0) a b) = _
  by_cases h : a = 3 ∧ b < 10
  · rw [if_pos h, if_pos h, wr_at]
    by_cases h2 : b = r
    · rw [if_pos ⟨rfl, h2⟩, if_pos h2]
    · rw [if_neg (fun q => h2 q.2), if_neg h2, wr_at, if_neg (by omega), wr_at, if_neg (by omega), wr_at, if_neg (by omega)]
  · rw [if_neg h, if_neg h, wr_at, wr_at, wr_at, wr_at]
theorem c_drop {A : IA} {s : HS} (h : CR A s) (x : Int32) : ∃ z, sX5_drop (A 10) (A 18 0) x = some z ∧ CR (sc (setR A 10 z.1) 18 z.2) (s.1, dropL x s.2.1, s.2.2) := by
  obtain ⟨f, e, hr⟩ := drop_spec h.2.1 x
  exact ⟨_, e, cr_dirty h hr⟩
theorem c_free {A : IA} {s : HS} (h : CR A s) {r : Nat} (hr : r < 10) : ∃ B, sX1_freeOne A (nI r) = some B ∧ CR B (fr1 r s) := by
  have hc : (nI r).toNatClampNeg = r := nI_clamp (by omega)
  have h4 : CR (wr (wr (wr (wr A 0 r 0) 1 r 0) 2 r (-9)) 3 r 0) (wr (wr (wr (wr s.1 0 r 0) 1 r 0) 2 r (-9)) 3 r 0, s.2) := cr_wr (cr_wr (cr_wr (cr_wr h (w_rg hr (by omega)) 0) (w_rg hr (by omega)) 0) (w_rg hr (by omega)) (-9)) (w_rg hr (by omega)) 0
  obtain ⟨z1, e1, h5⟩ := c_drop h4 (nI (2 * r))
  obtain ⟨z2, e2, h6⟩ := c_drop h5 (nI (2 * r + 1))
  obtain ⟨B, e3, h7, _⟩ := for_rel (step := sX1_freeOne_L55 (nI r)) (fun i (s : HS) => ((wr s.1 3 i ((fun v => v &&& m3 r) (s.1 3 i)), s.2) : HS)) (fun s x => CR x s) (fun _ _ => True) 10 (by omega)
    (fun i s x hi _ hx => by
      refine ⟨wr x 3 i (s.1 3 i &&& m3 r), ?_, cr_wr hx (w_rg hi (by omega)) _, trivial⟩
      unfold sX1_freeOne_L55 sX6_cardsOf
      dsimp +instances only
      rw [if_neg (show ¬ (10 : Int32) ≤ nI i from nI_ge (b := 10) hi (by omega)), ck_nI hi (by omega), bind_s, ck_nI hi (by omega), nI_clamp (by omega), hx.1 3 i (w_rg hi (by omega)), nI_1]
      rfl)
    (fun s x _ _ => by
      unfold sX1_freeOne_L55
      dsimp +instances only
      rw [if_pos (show (10 : Int32) ≤ nI 10 by decide)]) (s := fr0 r s) trivial h6
  refine ⟨B, ?_, h7⟩
  unfold sX1_freeOne sX6_cardOf
  rw [ck_nI hr (by omega), hc, bd_eq, ck_nI hr (by omega), bd_eq, ck_nI hr (by omega), bd_eq, ck_nI hr (by omega), bd_eq, bind_s, show (2 : Int32) * nI r + 0 / 4 = nI (2 * r) from mul2 r 0, e1, bind_s, bd_eq, bind_s, show (2 : Int32) * nI r + 4 / 4 = nI (2 * r + 1) from mul2 r 1, e2, bind_s, bd_eq, e3]
  rfl
theorem m_clean {M : IA} {s : HS} (h : MR (M 1) s) (x : Int32) : ∃ N, sX7_becomesClean M x = some N ∧ MR (N 1) (s.1, dropL x s.2.1, s.2.2) ∧ Fr M N := by
  obtain ⟨N, e, h1, h2, h3⟩ := becomesClean_spec h.2.1.1 h.2.1.2 x
  exact ⟨N, e, mr_dirty h h1 (Nat.le_trans (dropL_len x _) h.2.1.2) h3, h2⟩
theorem m_free {M : IA} {s : HS} (h : MR (M 1) s) {r : Nat} (hr : r < 10) : ∃ N, sX7_becomesFreeAlone M (nI r) = some N ∧ MR (N 1) (fr1 r s) ∧ Fr M N := by
  obtain ⟨M1, e1, h1, f1⟩ := m_set h hr (k := 0) (by omega) 0
  obtain ⟨M2, e2, h2, f2⟩ := m_set h1 hr (k := 1) (by omega) 0
  obtain ⟨M3, e3, h3, f3⟩ := m_set h2 hr (k := 2) (by omega) (-9)
  obtain ⟨M4, e4, h4, f4⟩ := m_set h3 hr (k := 3) (by omega) 0
  obtain ⟨M5, e5, h5, f5⟩ := m_clean h4 (nI (2 * r))
  obtain ⟨M6, e6, h6, f6⟩ := m_clean h5 (nI (2 * r + 1))
  obtain ⟨M7, e7, h7, _⟩ := for_rel (step := sX7_becomesFreeAlone_L47 (nI r)) (fun i (s : HS) => ((wr s.1 3 i ((fun v => v &&& m3 r) (s.1 3 i)), s.2) : HS)) (fun s x => MR (x 1) s ∧ Fr M x) (fun _ _ => True) 10 (by omega)
    (fun i s x hi _ hx => by
      obtain ⟨N, e, g1, g2⟩ := m_set hx.1 hi (k := 3) (by omega) (s.1 3 i &&& m3 r)
      refine ⟨N, ?_, ⟨g1, hx.2.trans g2⟩, trivial⟩
      unfold sX7_becomesFreeAlone_L47
      dsimp +instances only
      rw [if_neg (show ¬ (10 : Int32) ≤ nI i from nI_ge (b := 10) hi (by omega)), m_mm hx.1 hi, bind_s, show sX7_setsRegion x (nI i) 3 (s.1 3 i &&& m3 r) = some N from e, bind_s, nI_1])
    (fun s x _ _ => by
      unfold sX7_becomesFreeAlone_L47
      dsimp +instances only
      rw [if_pos (show (10 : Int32) ≤ nI 10 by decide)]) (s := fr0 r s) trivial ⟨h6, ((((f1.trans f2).trans f3).trans f4).trans f5).trans f6⟩
  refine ⟨M7, ?_, h7.1, h7.2⟩
  unfold sX7_becomesFreeAlone
  rw [show sX7_setsRegion M (nI r) 0 0 = some M1 from e1, bind_s, show sX7_setsRegion M1 (nI r) 1 0 = some M2 from e2, bind_s, show sX7_setsRegion M2 (nI r) 2 (-9) = some M3 from e3, bind_s, show sX7_setsRegion M3 (nI r) 3 0 = some M4 from e4, bind_s, mul2n r, e5, bind_s, nI_1, e6, bind_s, e7]
  rfl
/-! with its rests -/
def fwl : Nat → Nat → HS → HS
  | 0, _, s => s
  | n + 1, e, s => if e < 10 then (if s.1 0 e = 4 then fwl n (e + 1) (fr1 e s) else s) else s
def fw (r : Nat) (s : HS) : HS := if s.1 0 r = 3 then fwl 10 (r + 1) (fr1 r s) else fr1 r s
theorem c_fwl : ∀ (n e k : Nat) (s : HS) (A : IA), CR A s → e ≤ 10 → 10 ≤ e + n → n < k → ∃ B, loopN sX1_freeWithRests_L25a k (nI e, A) = some B ∧ CR B (fwl n e s) := by
  intro n
  induction n with
  | zero =>
    intro e k s A h h1 h2 hk
    obtain ⟨j, rfl⟩ : ∃ j, k = j + 1 := ⟨k - 1, by omega⟩
    have he : e = 10 := by omega
    subst he
    exact ⟨A, loopN_inr (by unfold sX1_freeWithRests_L25a; dsimp +instances only; rw [if_pos (by decide)]), h⟩
  | succ n ih =>
    intro e k s A h h1 h2 hk
    obtain ⟨j, rfl⟩ : ∃ j, k = j + 1 := ⟨k - 1, by omega⟩
    unfold fwl
    by_cases he : e < 10
    · rw [if_pos he]
      by_cases h4 : s.1 0 e = 4
      · rw [if_pos h4]
        obtain ⟨B, eB, hB⟩ := c_free h he
        rw [loopN_inl (a' := (nI (e + 1), B)) (by unfold sX1_freeWithRests_L25a; dsimp +instances only; rw [if_neg (show ¬ (10 : Int32) ≤ nI e from nI_ge (b := 10) he (by omega)), ck_nI he (by omega), nI_clamp (by omega), h.1 0 e (w_rg he (by omega)), if_pos h4, eB, bind_s, nI_1])]
        exact ih (e + 1) j _ B hB (by omega) (by omega) (by omega)
      · rw [if_neg h4]
        exact ⟨A, loopN_inr (by unfold sX1_freeWithRests_L25a; dsimp +instances only; rw [if_neg (show ¬ (10 : Int32) ≤ nI e from nI_ge (b := 10) he (by omega)), ck_nI he (by omega), nI_clamp (by omega), h.1 0 e (w_rg he (by omega)), if_neg h4]), h⟩
    · rw [if_neg he]
      have he2 : e = 10 := by omega
      subst he2
      exact ⟨A, loopN_inr (by unfold sX1_freeWithRests_L25a; dsimp +instances only; rw [if_pos (by decide)]), h⟩
theorem c_fw {A : IA} {s : HS} (h : CR A s) {r : Nat} (hr : r < 10) : ∃ B, sX1_freeWithRests A (nI r) = some B ∧ CR B (fw r s) := by
  obtain ⟨B, eB, hB⟩ := c_free h hr
  unfold sX1_freeWithRests fw
  rw [ck_nI hr (by omega), nI_clamp (by omega), h.1 0 r (w_rg hr (by omega)), eB]
  by_cases h3 : s.1 0 r = 3
  · rw [if_pos h3, if_pos h3]
    obtain ⟨B2, e2, h2⟩ := c_fwl 10 (r + 1) 2000 _ B hB (by omega) (by omega) (by omega)
    refine ⟨B2, ?_, h2⟩
    show (loopN sX1_freeWithRests_L25a 2000 (nI r + 1, B)).bind (fun q4 => some q4) = _
    rw [nI_1, e2]
    rfl
  · rw [if_neg h3, if_neg h3]
    exact ⟨B, rfl, hB⟩
theorem m_fwl : ∀ (n e k : Nat) (s : HS) (M : IA), MR (M 1) s → e ≤ 10 → 10 ≤ e + n → n < k → ∃ N, loopN sX7_becomesFree_L25a k (nI e, M) = some N ∧ MR (N 1) (fwl n e s) ∧ Fr M N := by
  intro n
  induction n with
  | zero =>
    intro e k s A h h1 h2 hk
    obtain ⟨j, rfl⟩ : ∃ j, k = j + 1 := ⟨k - 1, by omega⟩
    have he : e = 10 := by omega
    subst he
    exact ⟨A, loopN_inr (by unfold sX7_becomesFree_L25a; dsimp +instances only; rw [if_pos (by decide)]), h, Fr.refl A⟩
  | succ n ih =>
    intro e k s A h h1 h2 hk
    obtain ⟨j, rfl⟩ : ∃ j, k = j + 1 := ⟨k - 1, by omega⟩
    unfold fwl
    by_cases he : e < 10
    · rw [if_pos he]
      by_cases h4 : s.1 0 e = 4
      · rw [if_pos h4]
        obtain ⟨B, eB, hB, fB⟩ := m_free h he
        rw [loopN_inl (a' := (nI (e + 1), B)) (by unfold sX7_becomesFree_L25a; dsimp +instances only; rw [if_neg (show ¬ (10 : Int32) ≤ nI e from nI_ge (b := 10) he (by omega)), m_kd h he, bind_s, if_pos h4, eB, bind_s, nI_1])]
        obtain ⟨N, eN, hN, fN⟩ := ih (e + 1) j _ B hB (by omega) (by omega) (by omega)
        exact ⟨N, eN, hN, fB.trans fN⟩
      · rw [if_neg h4]
        exact ⟨A, loopN_inr (by unfold sX7_becomesFree_L25a; dsimp +instances only; rw [if_neg (show ¬ (10 : Int32) ≤ nI e from nI_ge (b := 10) he (by omega)), m_kd h he, bind_s, if_neg h4]), h, Fr.refl A⟩
    · rw [if_neg he]
      have he2 : e = 10 := by omega
      subst he2
      exact ⟨A, loopN_inr (by unfold sX7_becomesFree_L25a; dsimp +instances only; rw [if_pos (by decide)]), h, Fr.refl A⟩
theorem m_fw {M : IA} {s : HS} (h : MR (M 1) s) {r : Nat} (hr : r < 10) : ∃ N, sX7_becomesFree M (nI r) = some N ∧ MR (N 1) (fw r s) ∧ Fr M N := by
  obtain ⟨B, eB, hB, fB⟩ := m_free h hr
  unfold sX7_becomesFree fw
  rw [m_kd h hr, bind_s, eB]
  by_cases h3 : s.1 0 r = 3
  · rw [if_pos h3, if_pos h3]
    obtain ⟨N, eN, hN, fN⟩ := m_fwl 10 (r + 1) 2000 _ B hB (by omega) (by omega) (by omega)
    refine ⟨N, ?_, hN, fB.trans fN⟩
    show (loopN sX7_becomesFree_L25a 2000 (nI r + 1, B)).bind (fun q4 => some q4) = _
    rw [nI_1, eN]
    rfl
  · rw [if_neg h3, if_neg h3]
    exact ⟨B, rfl, hB, fB⟩
/-! a thing ends -/
abbrev nil_if (t : Nat) (v : Int32) : Int32 := if v = nI t then -5 else v
def en1 (t : Nat) (s : HS) : HS := it (fun i (s : HS) => ((wr s.1 7 i (nil_if t (s.1 7 i)), s.2) : HS)) 64 (wr s.1 4 t 0, s.2)
theorem en1_2 (t : Nat) (s : HS) : (en1 t s).2 = s.2 := (it_wr 7 (nil_if t) 64 (wr s.1 4 t 0, s.2)).1
theorem en1_at (t : Nat) (s : HS) (a b : Nat) : (en1 t s).1 a b = if a = 7 ∧ b < 64 then nil_if t (s.1 7 b) else if a = 4 ∧ b = t then 0 else s.1 a b := by
  refine ((it_wr 7 (nil_if t) 64 (wr s.1 4 t 0, s.2)).2 a b).trans ?_
  show (if a = 7 ∧ b < 64 then nil_if t (wr s.1 4 t 0 7 b) else wr s.1 4 t 0 a b) = _
  rw [wr_at, wr_at, if_neg (show ¬ ((7 : Nat) = 4 ∧ b = t) by omega)]
theorem c_end {A : IA} {s : HS} (h : CR A s) {t : Nat} (ht : t < 32) : ∃ B, sX1_endThing A (nI t) = some B ∧ CR B (en1 t s) := by
  obtain ⟨B, e, hB, _⟩ := for_rel (step := sX1_endThing_L9 (nI t)) (fun i (s : HS) => ((wr s.1 7 i (nil_if t (s.1 7 i)), s.2) : HS)) (fun s x => CR x s) (fun _ _ => True) 64 (by omega)
    (fun i s x hi _ hx => by
      unfold sX1_endThing_L9
      dsimp +instances only
      rw [if_neg (show ¬ (64 : Int32) ≤ nI i from nI_ge (b := 64) hi (by omega)), ck_nI hi (by omega), nI_clamp (by omega), hx.1 7 i (w_fd hi)]
      by_cases e : s.1 7 i = nI t
      · rw [if_pos e, ck_nI hi (by omega), nI_1, show nil_if t (s.1 7 i) = -5 from if_pos e]
        exact ⟨_, rfl, cr_wr hx (w_fd hi) _, trivial⟩
      · rw [if_neg e, nI_1, show nil_if t (s.1 7 i) = s.1 7 i from if_neg e, wr_self]
        exact ⟨_, rfl, hx, trivial⟩)
    (fun s x _ _ => by
      unfold sX1_endThing_L9
      dsimp +instances only
      rw [if_pos (show (64 : Int32) ≤ nI 64 by decide)]) (s := (wr s.1 4 t 0, s.2)) trivial (cr_wr h (w_th ht (by omega) (by omega) (by omega)) 0)
  refine ⟨B, ?_, hB⟩
  unfold sX1_endThing
  rw [ck_nI ht (by omega), nI_clamp (by omega)]
  show (loopN (sX1_endThing_L9 (nI t)) 2000 (0, wr A 4 t 0)).bind (fun q2 => some q2) = _
  rw [e]
  rfl
theorem loop2 {τ : Type} {step : Int32 × τ → Option ((Int32 × τ) ⊕ τ)} {x y z : τ} (h0 : step (0, x) = some (.inl (1, y))) (h1 : step (1, y) = some (.inl (2, z))) (h2 : step (2, z) = some (.inr z)) : loopN step 2000 (0, x) = some z := by
  rw [loopN_inl h0, loopN_inl h1, loopN_inr h2]
theorem m_end {M : IA} {s : HS} (h : MR (M 1) s) {t : Nat} (ht : t < 32) : ∃ N, sX7_isNoMore M (nI t) = some N ∧ MR (N 1) (en1 t s) ∧ Fr M N := by
  have key : ∀ (o : Nat) (x : IA) (q : HS) (f : Nat) (q1 : Int32 × IA), q1.1 = nI o → o < 32 → f < 2 → MR (x 1) q → ∃ y, sX7_isNoMore_L22 (nI t) q1 (nI f, x) = some (.inl (nI f + 1, y)) ∧ MR (y 1) (wr q.1 7 (2 * o + f) (nil_if t (q.1 7 (2 * o + f))), q.2) ∧ Fr x y := by
    intro o x q f q1 hq ho hf hx
    unfold sX7_isNoMore_L22
    dsimp +instances only
    rw [if_neg (show ¬ (2 : Int32) ≤ nI f from nI_ge (b := 2) hf (by omega)), hq]
    have e6 : (6 : Int32) * nI o + 3 + nI f = nI (6 * o + (3 + f)) := by rw [show (6 : Int32) * nI o + 3 = nI (6 * o + 3) from mul6 o 3, nI_add, Nat.add_assoc]
    by_cases hd : q.1 4 o ≤ 0
    · have hd2 : q.1 4 ((2 * o + f) / 2) ≤ 0 := by rw [show (2 * o + f) / 2 = o by omega]; exact hd
      rw [show (3 : Int32) + nI f = nI (3 + f) from nI_add 3 f, ofThing_at ho (by omega), bind_s, e6, ck_nI (by omega) (by omega), nI_clamp (by omega)]
      by_cases e : x 1 (6 * o + (3 + f)) = nI t
      · rw [if_pos e]
        refine ⟨_, rfl, ?_, fr_wr _ _ _⟩
        have h1 := mr_wr hx (k := 7) (w_fd (show 2 * o + f < 64 by omega)) (lc_fd hf).symm (-5)
        have h2 := mr_dead0 h1 (j := 2 * o + f) hd2 (nil_if t (q.1 7 (2 * o + f)))
        refine ⟨fun a b hab hlb => ?_, h2.2⟩
        have := h2.1 a b hab hlb
        rw [this]
        show wr (wr q.1 7 (2 * o + f) (-5)) 7 (2 * o + f) (nil_if t (q.1 7 (2 * o + f))) a b = wr q.1 7 (2 * o + f) (nil_if t (q.1 7 (2 * o + f))) a b
        rw [wr_at, wr_at, wr_at]
        by_cases e3 : a = 7 ∧ b = 2 * o + f
        · rw [if_pos e3, if_pos e3]
        · rw [if_neg e3, if_neg e3, if_neg e3]
      · rw [if_neg e]
        exact ⟨_, rfl, mr_dead0 hx hd2 _, Fr.refl x⟩
    · rw [m_fd hx ho hf hd, bind_s]
      by_cases e : q.1 7 (2 * o + f) = nI t
      · rw [if_pos e, e6, ck_nI (by omega) (by omega), nI_clamp (by omega), show nil_if t (q.1 7 (2 * o + f)) = -5 from if_pos e]
        exact ⟨_, rfl, mr_wr hx (k := 7) (w_fd (by omega)) (lc_fd hf).symm _, fr_wr _ _ _⟩
      · rw [if_neg e, show nil_if t (q.1 7 (2 * o + f)) = q.1 7 (2 * o + f) from if_neg e, wr_self]
        exact ⟨_, rfl, hx, Fr.refl x⟩
  have hl : ∃ b, loopN (sX7_isNoMore_L14 (nI t)) 2000 (0, wr M 1 (6 * t) 0) = some b ∧ (MR (b 1) (en1 t s) ∧ Fr M b) := by
    refine loop_inv 32 (fun o a => ∃ x, a = (nI o, x) ∧ MR (x 1) (it (fun i (s : HS) => ((wr s.1 7 i (nil_if t (s.1 7 i)), s.2) : HS)) (2 * o) (wr s.1 4 t 0, s.2)) ∧ Fr M x) (fun b => MR (b 1) (en1 t s) ∧ Fr M b) ?_ 2000 0 _ (Nat.zero_le _) (by omega) ⟨_, by rw [nI_0], by rw [wr_row]; exact mr_zero h ht, fr_wr _ _ _⟩
    rintro o a ho ⟨x, rfl, hx, fx⟩
    unfold sX7_isNoMore_L14
    dsimp +instances only
    by_cases hlt : o < 32
    · left
      obtain ⟨y, ey, hy, fy⟩ := key o x _ 0 (nI o, x) rfl hlt (by omega) hx
      obtain ⟨z, ez, hz, fz⟩ := key o y _ 1 (nI o, x) rfl hlt (by omega) hy
      have e2 : sX7_isNoMore_L22 (nI t) (nI o, x) (2, z) = some (.inr z) := by
        unfold sX7_isNoMore_L22
        dsimp +instances only
        rw [if_pos (by decide)]
      rw [if_neg (show ¬ (32 : Int32) ≤ nI o from nI_ge (b := 32) hlt (by omega)), loop2 (y := y) (z := z) (show sX7_isNoMore_L22 (nI t) (nI o, x) (0, x) = some (.inl (1, y)) from ey) (show sX7_isNoMore_L22 (nI t) (nI o, x) (1, y) = some (.inl (2, z)) from ez) e2, bind_s, nI_1]
      refine ⟨_, hlt, rfl, z, rfl, ?_, (fx.trans fy).trans fz⟩
      exact hz
    · right
      have ho2 : o = 32 := by omega
      subst ho2
      rw [if_pos (by decide)]
      exact ⟨x, rfl, hx, fx⟩
  obtain ⟨b, e, hb1, hb2⟩ := hl
  refine ⟨b, ?_, hb1, hb2⟩
  unfold sX7_isNoMore
  rw [show (6 : Int32) * nI t + 0 = nI (6 * t) from mul6 t 0, ck_nI (by omega) (by omega), nI_clamp (by omega)]
  show (loopN (sX7_isNoMore_L14 (nI t)) 2000 (0, wr M 1 (6 * t) 0)).bind (fun q2 => some q2) = _
  rw [e]
  rfl
