/-! ===== 39 the class's way of choosing comes to the same ===== -/
theorem bt_yg (h : IA) : ∀ n, n ≤ 10 → ∀ r, r < 32 → (bt (yg h n).1 r = true ↔ r < n ∧ h 0 r = 1) := by
  intro n
  induction n with
  | zero =>
    intro _ r hr
    show bt 0 r = true ↔ _
    rw [bt_0 r hr]
    exact ⟨fun q => Bool.noConfusion q, fun q => by omega⟩
  | succ n ih =>
    intro hn r hr
    show bt (if h 0 n = 1 then ((yg h n).1 ||| (1 <<< (nI n &&& 31)), (yg h n).2 + h 1 n) else yg h n).1 r = true ↔ _
    have ih2 := ih (by omega) r hr
    by_cases hk : h 0 n = 1
    · rw [if_pos hk]
      show bt ((yg h n).1 ||| (1 <<< (nI n &&& 31))) r = true ↔ _
      rw [bt_or, Bool.or_eq_true, ih2, bt_one n (by omega) r hr, decide_eq_true_eq]
      constructor
      · rintro (q | q)
        · exact ⟨by omega, q.2⟩
        · subst q; exact ⟨by omega, hk⟩
      · intro q
        by_cases e : r = n
        · exact Or.inr e
        · exact Or.inl ⟨by omega, q.2⟩
    · rw [if_neg hk, ih2]
      constructor
      · intro q; exact ⟨by omega, q.2⟩
      · intro q
        by_cases e : r = n
        · subst e; exact absurd q.2 hk
        · exact ⟨by omega, q.2⟩
def elig (h : IA) (m : Int32) (r : Nat) : Prop := h 0 r = 2 ∧ h 2 r ≠ -9 ∧ bt m r = false
theorem gi_old {h : IA} {r : Nat} (h1 : h 0 r = 2) (h2 : h 2 r ≠ -9) : gi h r = (h 1 r - h 2 r).toInt := by unfold gi; rw [if_pos ⟨h1, h2⟩]
theorem c_best {A : IA} {s : HS} (h : CR A s) (m yc : Int32) (rest : List Nat) (hp : rest.Pairwise (Rk s.1)) (he : ∀ r, r < 10 → ((elig s.1 m r ∧ 1 < gi s.1 r) ↔ r ∈ rest)) (hl : ∀ r, r ∈ rest → r < 10) : sX0_bestOld m yc A = some (match rest with | [] => -9 | r :: _ => nI r) := by
  have key : ∃ b, loopN (sX0_bestOld_L8 m A) 2000 (-9, 1, 0) = some b ∧ ((b = -9 ∧ ∀ y, y < 10 → elig s.1 m y → gi s.1 y ≤ 1) ∨ ∃ n, b = nI n ∧ n < 10 ∧ elig s.1 m n ∧ 1 < gi s.1 n ∧ (∀ y, y < 10 → elig s.1 m y → gi s.1 y ≤ gi s.1 n) ∧ ∀ y, y < n → elig s.1 m y → gi s.1 y < gi s.1 n) := by
    refine loop_inv 10 (fun i a => ∃ b g, a = (b, g, nI i) ∧ (∀ y, y < i → elig s.1 m y → gi s.1 y ≤ g.toInt) ∧ ((b = -9 ∧ g = 1) ∨ ∃ n, b = nI n ∧ n < i ∧ elig s.1 m n ∧ gi s.1 n = g.toInt ∧ 1 < g.toInt ∧ ∀ y, y < n → elig s.1 m y → gi s.1 y < g.toInt)) _ ?_ 2000 0 _ (Nat.zero_le _) (by omega) ⟨-9, 1, by rw [nI_0], fun y hy => by omega, Or.inl ⟨rfl, rfl⟩⟩
    rintro i a hi ⟨b, g, rfl, h1, h2⟩
    unfold sX0_bestOld_L8
    dsimp +instances only
    by_cases hlt : i < 10
    · left
      have skip : ¬ elig s.1 m i → ∃ b' g', ((b, g, nI (i + 1)) : Int32 × Int32 × Int32) = (b', g', nI (i + 1)) ∧ (∀ y, y < i + 1 → elig s.1 m y → gi s.1 y ≤ g'.toInt) ∧ ((b' = -9 ∧ g' = 1) ∨ ∃ n, b' = nI n ∧ n < i + 1 ∧ elig s.1 m n ∧ gi s.1 n = g'.toInt ∧ 1 < g'.toInt ∧ ∀ y, y < n → elig s.1 m y → gi s.1 y < g'.toInt) := by
        intro hne
        refine ⟨b, g, rfl, fun y hy hye => ?_, ?_⟩
        · by_cases e : y = i
          · subst e; exact absurd hye hne
          · exact h1 y (by omega) hye
        · rcases h2 with q | ⟨n, q1, q2, q3⟩
          · exact Or.inl q
          · exact Or.inr ⟨n, q1, by omega, q3⟩
      rw [if_neg (show ¬ (10 : Int32) ≤ nI i from nI_ge (b := 10) hlt (by omega)), ck_nI hlt (by omega), nI_clamp (by omega), h.1 0 i (w_rg hlt (by omega)), nI_1, ck_nI hlt (by omega), h.1 2 i (w_rg hlt (by omega)), hasBit_eq m (by omega), bind_s, ite10, ck_nI hlt (by omega), ck_nI hlt (by omega), h.1 1 i (w_rg hlt (by omega))]
      by_cases hk : s.1 0 i = 2
      · rw [if_pos hk]
        by_cases h9 : s.1 2 i = -9
        · rw [if_pos h9]
          exact ⟨_, hlt, rfl, skip (fun q => q.2.1 h9)⟩
        · rw [if_neg h9]
          by_cases hb : bt m i = true
          · rw [if_pos hb]
            exact ⟨_, hlt, rfl, skip (fun q => by rw [q.2.2] at hb; exact Bool.noConfusion hb)⟩
          · rw [if_neg hb]
            rw [bd_eq]
            have hel : elig s.1 m i := ⟨hk, h9, Bool.eq_false_iff.mpr hb⟩
            have hgi := gi_old hk h9
            by_cases hle : s.1 1 i - s.1 2 i ≤ g
            · rw [if_pos hle]
              refine ⟨_, hlt, rfl, b, g, rfl, fun y hy hye => ?_, ?_⟩
              · by_cases e : y = i
                · subst e; rw [hgi]; exact Int32.le_iff_toInt_le.mp hle
                · exact h1 y (by omega) hye
              · rcases h2 with q | ⟨n, q1, q2, q3⟩
                · exact Or.inl q
                · exact Or.inr ⟨n, q1, by omega, q3⟩
            · rw [if_neg hle]
              have hgt : g.toInt < gi s.1 i := by
                rw [hgi]
                exact Int.not_le.mp (fun q => hle (Int32.le_iff_toInt_le.mpr q))
              have hg1 : 1 ≤ g.toInt := by
                rcases h2 with q | ⟨n, q1, q2, q3, q4, q5, q6⟩
                · rw [q.2]; decide
                · omega
              refine ⟨_, hlt, rfl, nI i, s.1 1 i - s.1 2 i, rfl, fun y hy hye => ?_, Or.inr ⟨i, rfl, by omega, hel, hgi, by omega, fun y hy hye => ?_⟩⟩
              · by_cases e : y = i
                · subst e; omega
                · have := h1 y (by omega) hye; omega
              · have := h1 y (by omega) hye; omega
      · rw [if_neg hk]
        exact ⟨_, hlt, rfl, skip (fun q => hk q.1)⟩
    · right
      have hi2 : i = 10 := by omega
      subst hi2
      rw [if_pos (by decide)]
      refine ⟨b, rfl, ?_⟩
      rcases h2 with q | ⟨n, q1, q2, q3, q4, q5, q6⟩
      · exact Or.inl ⟨q.1, fun y hy hye => by have := h1 y hy hye; rw [q.2] at this; exact this⟩
      · exact Or.inr ⟨n, q1, q2, q3, by omega, fun y hy hye => by have := h1 y hy hye; omega, fun y hy hye => by have := q6 y hy hye; omega⟩
  obtain ⟨b, e, hb⟩ := key
  unfold sX0_bestOld
  rw [e, bind_s]
  cases rest with
  | nil =>
    rcases hb with q | ⟨n, q1, q2, q3, q4, _⟩
    · rw [q.1]
    · exact absurd ((he n q2).mp ⟨q3, q4⟩) List.not_mem_nil
  | cons x L =>
    have hx10 := hl x List.mem_cons_self
    have hx := (he x hx10).mpr List.mem_cons_self
    rcases hb with q | ⟨n, q1, q2, q3, q4, q5, q6⟩
    · have := q.2 x hx10 hx.1
      omega
    · have hn := (he n q2).mp ⟨q3, q4⟩
      have hxn := q5 x hx10 hx.1
      rcases List.mem_cons.mp hn with e2 | e2
      · rw [q1, e2]
      · rcases (List.pairwise_cons.mp hp).1 n e2 with r1 | r1
        · omega
        · have := q6 x r1.2 hx.1
          omega
theorem c_old {A : IA} {s : HS} (h : CR A s) (F : FA) (goal : UInt32) (yc : Int32) : ∀ (rest : List Nat) (i k : Nat) (m : Int32) (f : UInt32), rest.Pairwise (Rk s.1) → (∀ r, r < 10 → ((elig s.1 m r ∧ 1 < gi s.1 r) ↔ r ∈ rest)) → (∀ r, r ∈ rest → r < 10) → i + rest.length ≤ 10 → rest.length < k →
    loopN (sX0_chooseOld_L2 A F goal) k (nI i, m, yc, f) = some ((chs s.1 (F 14 0) goal rest (m, f)).1, yc, (chs s.1 (F 14 0) goal rest (m, f)).2) := by
  intro rest
  induction rest with
  | nil =>
    intro i k m f hp he hl hi hk
    obtain ⟨j, rfl⟩ : ∃ j, k = j + 1 := ⟨k - 1, by omega⟩
    refine loopN_inr ?_
    unfold sX0_chooseOld_L2
    dsimp +instances only
    rw [c_best h m yc [] hp he hl, bind_s, if_pos rfl]
    split
    · rfl
    · rfl
  | cons r L ih =>
    intro i k m f hp he hl hi hk
    obtain ⟨j, rfl⟩ : ∃ j, k = j + 1 := ⟨k - 1, by omega⟩
    rw [List.length_cons] at hi hk
    have hr := hl r List.mem_cons_self
    have hp2 := List.pairwise_cons.mp hp
    have hrL : ¬ r ∈ L := fun q => by
      rcases hp2.1 r q with w | w
      · omega
      · omega
    have hst : sX0_chooseOld_L2 A F goal (nI i, m, yc, f) = (if Op.cmpValue (FP.fcmp (FP.fadd f (FP.fmul (F 14 0) (FP.i2f (s.1 2 r)))) goal) .l ≤ 0 then some (.inl (nI (i + 1), m ||| (1 <<< (nI r &&& 31)), yc, FP.fadd f (FP.fmul (F 14 0) (FP.i2f (s.1 2 r))))) else some (.inr (m, yc, f))) := by
      unfold sX0_chooseOld_L2
      dsimp +instances only
      rw [if_neg (show ¬ (10 : Int32) ≤ nI i from nI_ge (b := 10) (by omega) (by omega)), c_best h m yc (r :: L) hp he hl, bind_s]
      dsimp +instances only
      rw [if_neg (fun q => nI_pos (n := r) (by omega) (by rw [q]; decide)), ck_nI hr (by omega), nI_clamp (by omega), h.1 2 r (w_rg hr (by omega)), nI_1]
      rfl
    unfold chs
    dsimp +instances only
    by_cases hc : Op.cmpValue (FP.fcmp (FP.fadd f (FP.fmul (F 14 0) (FP.i2f (s.1 2 r)))) goal) .l ≤ 0
    · rw [if_pos hc] at hst ⊢
      rw [loopN_inl hst]
      refine ih (i + 1) j _ _ hp2.2 (fun y hy => ?_) (fun y hy => hl y (List.mem_cons_of_mem _ hy)) (by omega) (by omega)
      have hb : bt (m ||| (1 <<< (nI r &&& 31))) y = (bt m y || decide (y = r)) := by rw [bt_or, bt_one r (by omega) y (by omega)]
      constructor
      · rintro ⟨⟨q1, q2, q3⟩, q4⟩
        rw [hb, Bool.or_eq_false_iff, decide_eq_false_iff_not] at q3
        exact (List.mem_cons.mp ((he y hy).mp ⟨⟨q1, q2, q3.1⟩, q4⟩)).resolve_left q3.2
      · intro q
        have q2 := (he y hy).mpr (List.mem_cons_of_mem _ q)
        refine ⟨⟨q2.1.1, q2.1.2.1, ?_⟩, q2.2⟩
        rw [hb, q2.1.2.2, decide_eq_false (fun e => hrL (by rw [← e]; exact q))]
        rfl
    · rw [if_neg hc] at hst ⊢
      exact loopN_inr hst
theorem Lo_len (h : IA) : (Lo h 7).length ≤ 10 := by
  have h1 := nodup_len 10 ((Lo h 7).map nI) (by
    unfold List.Nodup
    rw [List.pairwise_map]
    refine List.Pairwise.imp_of_mem (fun {a b} ha hb' hr q => ?_) (pw_Lo h 7)
    rw [mem_Lo] at ha hb'
    rw [nI_eq (by omega) (by omega)] at q
    rcases hr with w | w
    · rw [q] at w; omega
    · omega) (fun x hx => by
    obtain ⟨a, ha, rfl⟩ := List.mem_map.mp hx
    rw [mem_Lo] at ha
    exact ⟨a, ha.1, rfl⟩) (by omega)
  rw [List.length_map] at h1
  exact h1
theorem c_young {A : IA} {s : HS} (h : CR A s) : loopN (sX0_choose_L12 A) 2000 (0, 0, 0) = some (yg s.1 10) := by
  obtain ⟨b, e, rfl⟩ : ∃ b, loopN (sX0_choose_L12 A) 2000 (0, 0, 0) = some b ∧ b = yg s.1 10 := by
    refine loop_inv 10 (fun i a => a = (nI i, (yg s.1 i).1, (yg s.1 i).2)) (fun b => b = yg s.1 10) ?_ 2000 0 _ (Nat.zero_le _) (by omega) (by rw [nI_0]; rfl)
    rintro i a hi rfl
    unfold sX0_choose_L12
    dsimp +instances only
    by_cases hlt : i < 10
    · left
      have ey : yg s.1 (i + 1) = if s.1 0 i = 1 then ((yg s.1 i).1 ||| (1 <<< (nI i &&& 31)), (yg s.1 i).2 + s.1 1 i) else yg s.1 i := rfl
      rw [if_neg (show ¬ (10 : Int32) ≤ nI i from nI_ge (b := 10) hlt (by omega)), ck_nI hlt (by omega), nI_clamp (by omega), h.1 0 i (w_rg hlt (by omega)), nI_1, ey]
      by_cases hk : s.1 0 i = 1
      · rw [if_pos hk, if_pos hk, bd_eq, ck_nI hlt (by omega), h.1 1 i (w_rg hlt (by omega))]
        exact ⟨_, hlt, rfl, rfl⟩
      · rw [if_neg hk, if_neg hk]
        exact ⟨_, hlt, rfl, rfl⟩
    · right
      have hi2 : i = 10 := by omega
      subst hi2
      rw [if_pos (by decide)]
      exact ⟨_, rfl, rfl⟩
  exact e
theorem c_choose {A : IA} {s : HS} (h : CR A s) (F : FA) (rg yc : Int32) (fcc : UInt32) (goal : Int32) (hg8 : ∀ r, r < 10 → gi s.1 r ≤ 8) : sX0_choose rg yc fcc A F goal = some ((chz s.1 (F 14 0) (F 15 0) (FP.i2f goal)).1, (yg s.1 10).2, (chz s.1 (F 14 0) (F 15 0) (FP.i2f goal)).2) := by
  unfold sX0_choose sX0_chooseOld
  rw [bd_eq, bd_eq, c_young h, bind_s, bd_eq]
  have hold := c_old h F (FP.i2f goal) (yg s.1 10).2 (Lo s.1 7) 0 2000 (yg s.1 10).1 (fc0 s.1 (F 14 0) (F 15 0)) (pw_Lo s.1 7) (fun r hr => by
    rw [mem_Lo]
    have hy := bt_yg s.1 10 (Nat.le_refl _) r (by omega)
    constructor
    · rintro ⟨q1, q2⟩
      exact ⟨hr, by omega, by have := hg8 r hr; omega⟩
    · rintro ⟨q1, q2, q3⟩
      have hk : s.1 0 r = 2 ∧ s.1 2 r ≠ -9 := by
        by_cases e : s.1 0 r = 2 ∧ s.1 2 r ≠ -9
        · exact e
        · unfold gi at q2
          rw [if_neg e] at q2
          omega
      refine ⟨⟨hk.1, hk.2, Bool.eq_false_iff.mpr (fun w => ?_)⟩, by omega⟩
      have := (hy.mp w).2
      rw [hk.1] at this
      exact absurd this (by decide)) (fun r hr => ((mem_Lo s.1 7 r).mp hr).1) (by have := Lo_len s.1; omega) (by have := Lo_len s.1; omega)
  rw [nI_0] at hold
  rw [show FP.fadd 1092616192 (FP.fmul (F 14 0) (FP.fmul (F 15 0) (FP.i2f (yg s.1 10).2))) = fc0 s.1 (F 14 0) (F 15 0) from rfl, hold]
  rfl
