/-! ===== 51 sweeping, both sides; the cost ===== -/
def hsB (st : Nat → Bool) (h : IA) (r : Nat) : Nat → Bool
  | 0 => false
  | t + 1 => hsB st h r t || (st t && decide (h 5 t = nI r))
theorem hsB_iff (st : Nat → Bool) (h : IA) (r : Nat) : ∀ n, hsB st h r n = true ↔ ∃ t, t < n ∧ st t = true ∧ h 5 t = nI r := by
  intro n
  induction n with
  | zero => exact ⟨fun q => Bool.noConfusion q, fun ⟨t, ht, _⟩ => absurd ht (Nat.not_lt_zero t)⟩
  | succ n ih =>
    show (hsB st h r n || (st n && decide (h 5 n = nI r))) = true ↔ _
    rw [Bool.or_eq_true, ih, Bool.and_eq_true, decide_eq_true_eq]
    constructor
    · rintro (⟨t, ht, w⟩ | w)
      · exact ⟨t, by omega, w⟩
      · exact ⟨n, by omega, w⟩
    · rintro ⟨t, ht, w⟩
      by_cases e : t = n
      · subst e; exact Or.inr w
      · exact Or.inl ⟨t, by omega, w⟩
def sw1 (m : Int32) (st : Nat → Bool) (r : Nat) (s : HS) : HS := if bt m r = true then (if hsB st (em r st s).1 r 32 = true then (wr (wr (em r st s).1 0 r 2) 2 r (-9), (em r st s).2) else fw r (em r st s)) else s
def swA (m : Int32) (st : Nat → Bool) (s : HS) : HS := it (sw1 m st) 10 s
theorem fr1_row (r : Nat) (s : HS) {k : Nat} (h : 4 ≤ k) : (fr1 r s).1 k = s.1 k := by
  funext i
  rw [fr1_at, if_neg (by omega), if_neg (by omega), if_neg (by omega), if_neg (by omega), if_neg (by omega)]
theorem fwl_row {k : Nat} (h : 4 ≤ k) : ∀ (n e : Nat) (s : HS), (fwl n e s).1 k = s.1 k := by
  intro n
  induction n with
  | zero => intro e s; rfl
  | succ n ih =>
    intro e s
    unfold fwl
    split
    · split
      · rw [ih, fr1_row e s h]
      · rfl
    · rfl
theorem fw_row (r : Nat) (s : HS) {k : Nat} (h : 4 ≤ k) : (fw r s).1 k = s.1 k := by
  unfold fw
  split
  · rw [fwl_row h, fr1_row r s h]
  · exact fr1_row r s h
def tif (h : IA) (r t : Nat) : Int32 := if h 4 t ≤ 0 then 0 else if h 5 t = nI r then 1 else 0
theorem c_thingsIn {A : IA} {s : HS} (h : CR A s) (r : Nat) : sX1_thingsIn A (nI r) = some (sm (tif s.1 r) 32) := by
  unfold sX1_thingsIn
  rw [for_sum (step := sX1_thingsIn_L4 A (nI r)) (tif s.1 r) 32 (by omega) (fun i a hi => by
      unfold sX1_thingsIn_L4 tif
      dsimp +instances only
      rw [if_neg (show ¬ (32 : Int32) ≤ nI i from nI_ge (b := 32) hi (by omega)), c_in h hi, bind_s, nI_1]
      by_cases h1 : s.1 4 i ≤ 0
      · rw [if_pos h1, if_pos rfl, Int32.add_zero]
      · rw [if_neg h1, ite10]
        by_cases h2 : s.1 5 i = nI r
        · rw [if_pos h2, if_pos h2]
        · rw [if_neg h2, if_neg h2, Int32.add_zero]) (fun a => by
      unfold sX1_thingsIn_L4
      dsimp +instances only
      rw [if_pos (show (32 : Int32) ≤ nI 32 by decide)])]
  rfl
theorem sm01 {f : Nat → Int32} : ∀ n, (∀ i, i < n → f i = 0 ∨ f i = 1) → ∃ c, c ≤ n ∧ sm f n = nI c ∧ (c = 0 ↔ ∀ i, i < n → f i = 0) := by
  intro n
  induction n with
  | zero => intro _; exact ⟨0, Nat.le_refl _, rfl, fun _ i hi => absurd hi (Nat.not_lt_zero i), fun _ => rfl⟩
  | succ n ih =>
    intro h
    obtain ⟨c, hc, e, hi⟩ := ih (fun i hi => h i (by omega))
    rcases h n (by omega) with h0 | h1
    · refine ⟨c, by omega, ?_, ?_⟩
      · show sm f n + f n = nI c
        rw [e, h0, Int32.add_zero]
      · rw [hi]
        constructor
        · intro q i hi2
          by_cases e2 : i = n
          · rw [e2]; exact h0
          · exact q i (by omega)
        · intro q i hi2; exact q i (by omega)
    · refine ⟨c + 1, by omega, ?_, ?_⟩
      · show sm f n + f n = nI (c + 1)
        rw [e, h1, nI_1]
      · constructor
        · intro q; omega
        · intro q
          have := q n (by omega)
          rw [h1] at this
          exact absurd this (by decide)
theorem tif_zero (h : IA) (r : Nat) : sm (tif h r) 32 = 0 ↔ ∀ t, t < 32 → ¬ (lv h t ∧ h 5 t = nI r) := by
  obtain ⟨c, hc, e, hi⟩ := sm01 (f := tif h r) 32 (fun i _ => by
    unfold tif
    split
    · exact Or.inl rfl
    · split
      · exact Or.inr rfl
      · exact Or.inl rfl)
  rw [e, show (0 : Int32) = nI 0 from rfl, nI_eq (by omega) (by omega), hi]
  constructor
  · intro q t ht w
    have := q t ht
    unfold tif at this
    rw [if_neg w.1, if_pos w.2] at this
    exact absurd this (by decide)
  · intro q t ht
    unfold tif
    split
    · rfl
    · next h1 =>
      split
      · next h2 => exact absurd ⟨h1, h2⟩ (q t ht)
      · rfl
theorem em_all (r : Nat) (st : Nat → Bool) (s : HS) : (em r st s).2 = s.2 ∧ (∀ k, k ≠ 4 → k ≠ 7 → (em r st s).1 k = s.1 k) ∧ (∀ t, (t < 32 ∧ dd s r st t → (em r st s).1 4 t = 0) ∧ (¬ (t < 32 ∧ dd s r st t) → (em r st s).1 4 t = s.1 4 t)) ∧ ∀ i, i < 64 → ((∃ u, u < 32 ∧ dd s r st u ∧ s.1 7 i = nI u) → (em r st s).1 7 i = -5) ∧ ((¬ ∃ u, u < 32 ∧ dd s r st u ∧ s.1 7 i = nI u) → (em r st s).1 7 i = s.1 7 i) := by
  unfold em
  exact em_n r st s 32 (Nat.le_refl _)
theorem em_st {r : Nat} {st : Nat → Bool} {s : HS} {t : Nat} (h : st t = true) : (em r st s).1 4 t = s.1 4 t := ((em_all r st s).2.2.1 t).2 (fun q => by rw [q.2.2.2] at h; exact Bool.noConfusion h)
theorem em_left {r : Nat} {st : Nat → Bool} {s : HS} {t : Nat} (ht : t < 32) (h : lv (em r st s).1 t) (h5 : (em r st s).1 5 t = nI r) : st t = true := by
  have q := em_all r st s
  by_cases e : st t = true
  · exact e
  · exfalso
    have h5' : s.1 5 t = nI r := by
      have : (em r st s).1 5 = s.1 5 := q.2.1 5 (by decide) (by decide)
      rw [this] at h5; exact h5
    by_cases hl : lv s.1 t
    · have : (em r st s).1 4 t = 0 := (q.2.2.1 t).1 ⟨ht, hl, h5', Bool.eq_false_iff.mpr e⟩
      unfold lv at h
      rw [this] at h
      exact h (by decide)
    · have : (em r st s).1 4 t = s.1 4 t := (q.2.2.1 t).2 (fun w => hl w.2.1)
      unfold lv at h hl
      rw [this] at h
      exact hl h
def StL (st : Nat → Bool) (s : HS) : Prop := ∀ t, t < 32 → st t = true → lv s.1 t
theorem stl_em {r : Nat} {st : Nat → Bool} {s : HS} (h : StL st s) : StL st (em r st s) := fun t ht q => by
  unfold lv
  rw [em_st q]; exact h t ht q
theorem stl_row {st : Nat → Bool} {s q : HS} (h : StL st s) (e : q.1 4 = s.1 4) : StL st q := fun t ht w => by
  unfold lv
  rw [e]; exact h t ht w
theorem stl_sw1 {m : Int32} {st : Nat → Bool} {r : Nat} {s : HS} (h : StL st s) : StL st (sw1 m st r s) := by
  unfold sw1
  have h1 : StL st (em r st s) := stl_em h
  generalize em r st s = q at h1 ⊢
  split
  · split
    · exact stl_row h1 (show wr (wr q.1 0 r 2) 2 r (-9) 4 = q.1 4 from rfl)
    · exact stl_row h1 (fw_row r _ (by decide))
  · exact h
theorem c_swept {A : IA} {s : HS} (h : CR A s) {Q : IA} {m : Int32} {st : Nat → Bool} (hm : Q 10 0 = m) (hq : ∀ t, t < 32 → bt (Q 8 0) t = st t) (hs : StL st s) : ∃ B, sX3_sweepChosen Q A = some B ∧ CR B (wr (swA m st s).1 13 0 (-9), (swA m st s).2) := by
  obtain ⟨B, e, hB, _⟩ := for_rel (step := sX3_sweepChosen_L2 Q) (sw1 m st) (fun s x => CR x s) (fun _ s => StL st s) 10 (by omega)
    (fun r s x hr hs hx => by
      refine (?_ : ∃ x', _ ∧ CR x' (sw1 m st r s) ∧ StL st (sw1 m st r s))
      have hsl := stl_sw1 (m := m) (r := r) hs
      unfold sX3_sweepChosen_L2 sX3_sweep
      dsimp +instances only
      rw [if_neg (show ¬ (10 : Int32) ≤ nI r from nI_ge (b := 10) hr (by omega)), hm, hasBit_eq m (by omega), bind_s, ite10, nI_1]
      unfold sw1 at hsl ⊢
      by_cases hb : bt m r = true
      · rw [if_pos hb] at hsl ⊢
        rw [if_pos hb]
        obtain ⟨B1, e1, h1⟩ := c_sweep1 hx (r := r) hq
        rw [e1, bind_s, c_thingsIn h1 r, bind_s]
        have hz : sm (tif (em r st s).1 r) 32 = 0 ↔ ¬ hsB st (em r st s).1 r 32 = true := by
          rw [tif_zero, hsB_iff]
          constructor
          · rintro q ⟨t, ht, w1, w2⟩
            exact q t ht ⟨stl_em hs t ht w1, w2⟩
          · intro q t ht w
            exact q ⟨t, ht, em_left ht w.1 w.2, w.2⟩
        by_cases hh : hsB st (em r st s).1 r 32 = true
        · rw [if_pos hh] at hsl ⊢
          rw [if_neg (fun w => hz.mp w hh), ck_nI hr (by omega), nI_clamp (by omega), bd_eq, ck_nI hr (by omega), bd_eq, bind_s]
          generalize em r st s = q at h1 hsl ⊢
          exact ⟨_, rfl, cr_wr (cr_wr h1 (w_rg hr (by omega)) 2) (w_rg hr (by omega)) (-9), hsl⟩
        · rw [if_neg hh] at hsl ⊢
          rw [if_pos (hz.mpr hh)]
          obtain ⟨B2, e2, h2⟩ := c_fw h1 hr
          rw [e2, bind_s, bind_s]
          exact ⟨B2, rfl, h2, hsl⟩
      · rw [if_neg hb] at hsl ⊢
        rw [if_neg hb]
        exact ⟨x, rfl, hx, hsl⟩)
    (fun s x _ _ => by
      unfold sX3_sweepChosen_L2
      dsimp +instances only
      rw [if_pos (show (10 : Int32) ≤ nI 10 by decide)]) (s := s) hs h
  refine ⟨_, ?_, cr_sc hB (k := 13) (by decide) (-9)⟩
  unfold sX3_sweepChosen
  rw [e, bind_s, bd_eq]
theorem m_staying {M : IA} {s : HS} (h : MR (M 1) s) {v : Int32} (hv : M 20 0 = v) (r : Nat) : sX7_hasStaying M (nI r) = some (if hsB (bt v) s.1 r 32 = true then 1 else 0) := by
  have key : ∃ b, loopN (sX7_hasStaying_L4 M (nI r)) 2000 (0, 0) = some b ∧ b = if hsB (bt v) s.1 r 32 = true then 1 else 0 := by
    refine loop_inv 32 (fun i a => a = (if hsB (bt v) s.1 r i = true then 1 else 0, nI i)) (fun b => b = if hsB (bt v) s.1 r 32 = true then 1 else 0) ?_ 2000 0 _ (Nat.zero_le _) (by omega) (by rw [nI_0]; rfl)
    rintro i a hi rfl
    unfold sX7_hasStaying_L4
    dsimp +instances only
    by_cases hlt : i < 32
    · left
      have e : hsB (bt v) s.1 r (i + 1) = (hsB (bt v) s.1 r i || (bt v i && decide (s.1 5 i = nI r))) := rfl
      rw [if_neg (show ¬ (32 : Int32) ≤ nI i from nI_ge (b := 32) hlt (by omega)), ite10, hv, hb_val v hlt, m_pl h hlt, bind_s, nI_1, e]
      by_cases h1 : hsB (bt v) s.1 r i = true
      · rw [if_pos h1, h1, Bool.true_or, if_pos rfl]
        exact ⟨_, hlt, rfl, rfl⟩
      · rw [if_neg h1, Bool.eq_false_iff.mpr h1, Bool.false_or]
        by_cases h2 : bt v i = true
        · rw [if_pos h2, if_pos rfl, h2, Bool.true_and]
          by_cases h3 : s.1 5 i = nI r
          · rw [if_pos h3, if_pos (decide_eq_true h3)]
            exact ⟨_, hlt, rfl, rfl⟩
          · rw [if_neg h3, if_neg (by rw [decide_eq_false h3]; decide)]
            exact ⟨_, hlt, rfl, rfl⟩
        · rw [if_neg h2, if_neg (by decide), Bool.eq_false_iff.mpr h2, Bool.false_and, if_neg (by decide)]
          exact ⟨_, hlt, rfl, rfl⟩
    · right
      have hi2 : i = 32 := by omega
      subst hi2
      rw [if_pos (by decide)]
      exact ⟨_, rfl, rfl⟩
  obtain ⟨b, e, rfl⟩ := key
  unfold sX7_hasStaying
  rw [e, bind_s, ckb_ite]
theorem m_swept {M : IA} {s : HS} (h : MR (M 1) s) {m v : Int32} (hm : M 11 0 = m) (hv : M 20 0 = v) : ∃ N, sX7_empties M = some N ∧ MR (N 1) (swA m (bt v) s) ∧ Fr M N := by
  obtain ⟨B, e, hB, _⟩ := for_rel (step := sX7_empties_L2) (sw1 m (bt v)) (fun s x => MR (x 1) s ∧ Fr M x) (fun _ _ => True) 10 (by omega)
    (fun r s x hr _ hx => by
      refine (?_ : ∃ x', _ ∧ (MR (x' 1) (sw1 m (bt v) r s) ∧ Fr M x') ∧ True)
      unfold sX7_empties_L2
      dsimp +instances only
      rw [if_neg (show ¬ (10 : Int32) ≤ nI r from nI_ge (b := 10) hr (by omega)), hx.2 11 (by decide), hm, hb_val m (by omega), hx.2 20 (by decide), hv, nI_1]
      unfold sw1
      by_cases hb : bt m r = true
      · rw [if_pos hb, if_pos hb, if_pos rfl]
        obtain ⟨N1, e1, h1, f1⟩ := m_emptied hx.1 (r := r) v
        rw [e1, bind_s, m_staying h1 (by rw [f1 20 (by decide), hx.2 20 (by decide), hv]), bind_s, ite10]
        by_cases hh : hsB (bt v) (em r (bt v) s).1 r 32 = true
        · rw [if_pos hh, if_pos hh]
          obtain ⟨N2, e2, h2, f2⟩ := m_set h1 hr (k := 0) (by omega) 2
          obtain ⟨N3, e3, h3, f3⟩ := m_set h2 hr (k := 2) (by omega) (-9)
          rw [show sX7_setsRegion N1 (nI r) 0 2 = some N2 from e2, bind_s, show sX7_setsRegion N2 (nI r) 2 (-9) = some N3 from e3, bind_s]
          generalize em r (bt v) s = q at h3 ⊢
          exact ⟨N3, rfl, ⟨h3, ((hx.2.trans f1).trans f2).trans f3⟩, trivial⟩
        · rw [if_neg hh, if_neg hh]
          obtain ⟨N2, e2, h2, f2⟩ := m_fw h1 hr
          rw [e2, bind_s]
          exact ⟨N2, rfl, ⟨h2, (hx.2.trans f1).trans f2⟩, trivial⟩
      · rw [if_neg hb, if_neg hb, if_neg (by decide)]
        exact ⟨x, rfl, hx, trivial⟩)
    (fun s x _ _ => by
      unfold sX7_empties_L2
      dsimp +instances only
      rw [if_pos (show (10 : Int32) ≤ nI 10 by decide)]) (s := s) trivial ⟨h, Fr.refl M⟩
  refine ⟨B, ?_, hB.1, hB.2⟩
  unfold sX7_empties
  rw [e]
  rfl
