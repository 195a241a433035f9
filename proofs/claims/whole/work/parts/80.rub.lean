/-! ===== 80 rubbish ===== -/
theorem levm_back {h : IA} {j t : Nat} (hl : levm h (j + 1) t) : ∃ a f, a < 32 ∧ f < 2 ∧ levm h j a ∧ h 7 (2 * a + f) = nI t := by
  obtain ⟨⟨a, f, ha, hf, la, e⟩, hm⟩ := hl
  exact ⟨a, f, ha, hf, ⟨la, fun i hi li => hm (i + 1) (by omega) ⟨a, f, ha, hf, li, e⟩⟩, e⟩
theorem levm_one {h : IA} {i j t : Nat} (h1 : levm h i t) (h2 : levm h j t) : i = j := by
  rcases Nat.lt_trichotomy i j with z | z | z
  · exact absurd h1.1 (h2.2 i z)
  · exact z
  · exact absurd h2.1 (h1.2 j z)
theorem levm_list {h : IA} : ∀ (j t : Nat), t < 32 → levm h j t → ∃ L : List Int32, L.length = j + 1 ∧ L.Nodup ∧ ∀ x, x ∈ L → ∃ u i, u < 32 ∧ x = nI u ∧ i ≤ j ∧ levm h i u := by
  intro j
  induction j with
  | zero => intro t ht hl; exact ⟨[nI t], rfl, List.pairwise_singleton _ _, fun x hx => ⟨t, 0, ht, List.mem_singleton.mp hx, Nat.le_refl _, hl⟩⟩
  | succ j ih =>
    intro t ht hl
    obtain ⟨a, f, ha, hf, la, e⟩ := levm_back hl
    obtain ⟨L, hL, hn, hx⟩ := ih a ha la
    refine ⟨L ++ [nI t], by rw [List.length_append, hL]; rfl, nodup_push hn (fun q => ?_), fun x q => ?_⟩
    · obtain ⟨u, i, hu, eu, hi, lu⟩ := hx _ q
      have : t = u := (nI_eq (by omega) (by omega)).mp eu
      subst this
      have := levm_one lu hl
      omega
    · rcases List.mem_append.mp q with q | q
      · obtain ⟨u, i, hu, eu, hi, lu⟩ := hx x q
        exact ⟨u, i, hu, eu, by omega, lu⟩
      · exact ⟨t, j + 1, ht, List.mem_singleton.mp q, Nat.le_refl _, hl⟩
theorem levm_lt {h : IA} {j t : Nat} (ht : t < 32) (hl : levm h j t) : j < 32 := by
  obtain ⟨L, hL, hn, hx⟩ := levm_list j t ht hl
  have := nodup_len 32 L hn (fun x q => by
    obtain ⟨u, i, hu, eu, _⟩ := hx x q
    exact ⟨u, hu, eu⟩) (by omega)
  omega
theorem lev_least {h : IA} {j t : Nat} (hl : lev h j t) : ∃ i, i ≤ j ∧ levm h i t := by
  obtain ⟨k, hk, hm⟩ := pk_least (fun k => lev h k t) ⟨j, hl⟩
  refine ⟨k, ?_, hk, hm⟩
  rcases Nat.lt_or_ge j k with z | z
  · exact absurd hl (hm j z)
  · exact z
theorem re_lev {s : HS} {t : Nat} (h : Re s.1 t) : ∃ j, lev s.1 j t := h (fun y => ∃ j, lev s.1 j y) (fun r u hr hu e => ⟨0, r, hr, e⟩) (fun a b f ha hb' hf ⟨j, lj⟩ e => ⟨j + 1, a, f, ha, hf, lj, e⟩)
theorem lev_re {s : HS} : ∀ (j t : Nat), t < 32 → lev s.1 j t → Re s.1 t := by
  intro j
  induction j with
  | zero => rintro t ht ⟨r, hr, e⟩; exact Re.root hr ht e
  | succ j ih => rintro t ht ⟨a, f, ha, hf, la, e⟩; exact Re.step ha ht hf (ih a ha la) e
theorem fa_zero {s : HS} {F : Nat → Int32} (h : Fa s.1 33 F) {t : Nat} (ht : t < 32) : F t = 0 ↔ ¬ Re s.1 t := by
  rcases h t ht with ⟨z, nl⟩ | ⟨j, hj, ej, lj⟩
  · refine ⟨fun _ hr => ?_, fun _ => z⟩
    obtain ⟨j, lj⟩ := re_lev hr
    obtain ⟨i, _, li⟩ := lev_least lj
    have := levm_lt ht li
    exact nl i (by omega) li.1
  · refine ⟨fun z => ?_, fun z => absurd (lev_re j t ht lj.1) z⟩
    rw [ej] at z
    exact absurd z (nI_ne0 (by omega) (by omega))
theorem m_far {M : IA} {s : HS} (h : MR (M 1) s) (hI : Inv s) : ∃ N, sX7_laysFar M = some N ∧ (∀ k, k ≠ 24 → N k = M k) ∧ Fa s.1 33 (N 24) := by
  have w := hI.1.1
  have k1 : ∃ N, loopN sX7_laysFar_L2 2000 (0, M) = some N ∧ ((∀ k, k ≠ 24 → N k = M k) ∧ ∀ t, t < 32 → N 24 t = 0) := by
    refine loop_inv 32 (fun i a => ∃ N : IA, a = (nI i, N) ∧ (∀ k, k ≠ 24 → N k = M k) ∧ ∀ t, t < i → N 24 t = 0) (fun N : IA => (∀ k, k ≠ 24 → N k = M k) ∧ ∀ t, t < 32 → N 24 t = 0) ?_ 2000 0 _ (Nat.zero_le _) (by omega) ⟨M, by rw [nI_0], fun _ _ => rfl, fun t ht => absurd ht (Nat.not_lt_zero t)⟩
    rintro i a hi ⟨N, rfl, h1, h2⟩
    unfold sX7_laysFar_L2
    dsimp +instances only
    by_cases hlt : i < 32
    · left
      rw [if_neg (show ¬ (32 : Int32) ≤ nI i from nI_ge (b := 32) hlt (by omega)), ck_nI hlt (by omega), nI_clamp (by omega), bd_eq, nI_1]
      refine ⟨_, hlt, rfl, _, rfl, fun k hk => by rw [wr_row_ne _ _ _ hk, h1 k hk], fun t ht => ?_⟩
      rw [wr_at]
      by_cases e : t = i
      · rw [if_pos ⟨rfl, e⟩]
      · rw [if_neg (fun q => e q.2)]; exact h2 t (by omega)
    · right
      have hi2 : i = 32 := by omega
      subst hi2
      rw [if_pos (by decide)]
      exact ⟨N, rfl, h1, h2⟩
  obtain ⟨N1, e1, f1, z1⟩ := k1
  have k2 : ∃ N, loopN sX7_laysFar_L23 2000 (0, N1) = some N ∧ ((∀ k, k ≠ 24 → N k = M k) ∧ ∀ t, t < 32 → (N 24 t = nI 1 ∧ ∃ r, r < 6 ∧ s.1 9 r = nI t) ∨ (N 24 t = 0 ∧ ∀ r, r < 6 → s.1 9 r ≠ nI t)) := by
    refine loop_inv 6 (fun i a => ∃ N : IA, a = (nI i, N) ∧ (∀ k, k ≠ 24 → N k = M k) ∧ ∀ t, t < 32 → (N 24 t = nI 1 ∧ ∃ r, r < 6 ∧ s.1 9 r = nI t) ∨ (N 24 t = 0 ∧ ∀ r, r < i → s.1 9 r ≠ nI t)) (fun N : IA => (∀ k, k ≠ 24 → N k = M k) ∧ ∀ t, t < 32 → (N 24 t = nI 1 ∧ ∃ r, r < 6 ∧ s.1 9 r = nI t) ∨ (N 24 t = 0 ∧ ∀ r, r < 6 → s.1 9 r ≠ nI t)) ?_ 2000 0 _ (Nat.zero_le _) (by omega) ⟨N1, by rw [nI_0], f1, fun t ht => Or.inr ⟨z1 t ht, fun r hr => absurd hr (Nat.not_lt_zero r)⟩⟩
    rintro i a hi ⟨N, rfl, h1, h2⟩
    unfold sX7_laysFar_L23
    dsimp +instances only
    by_cases hlt : i < 6
    · left
      have hN : MR (N 1) s := by rw [h1 1 (by decide)]; exact h
      obtain ⟨N2, e2, f2, g2⟩ := m_reaches (M := N) (w.2.2.1 i hlt) 1
      rw [if_neg (show ¬ (6 : Int32) ≤ nI i from nI_ge (b := 6) hlt (by omega)), show (192 : Int32) + nI i = nI (192 + i) from nI_add 192 i, ck_nI (by omega) (by omega), nI_clamp (by omega), m_root hN hlt, e2, bind_s, nI_1]
      refine ⟨_, hlt, rfl, N2, rfl, fun k hk => by rw [f2 k hk, h1 k hk], fun t ht => ?_⟩
      rw [g2 t ht]
      rcases h2 t ht with ⟨y1, y2⟩ | ⟨y1, y2⟩
      · left
        rw [if_neg (fun q => by rw [y1] at q; exact absurd q.2 (by decide))]
        exact ⟨y1, y2⟩
      · by_cases q : s.1 9 i = nI t
        · left
          rw [if_pos ⟨q, y1⟩]
          exact ⟨rfl, i, hlt, q⟩
        · right
          rw [if_neg (fun z => q z.1)]
          refine ⟨y1, fun r hr => ?_⟩
          by_cases e : r = i
          · rw [e]; exact q
          · exact y2 r (by omega)
    · right
      have hi2 : i = 6 := by omega
      subst hi2
      rw [if_pos (by decide)]
      exact ⟨N, rfl, h1, h2⟩
  obtain ⟨N2, e2, f2, z2⟩ := k2
  have fa1 : Fa s.1 1 (N2 24) := fun t ht => by
    rcases z2 t ht with ⟨y1, r, hr, e⟩ | ⟨y1, y2⟩
    · exact Or.inr ⟨0, by omega, y1, ⟨r, hr, e⟩, fun i hi => absurd hi (Nat.not_lt_zero i)⟩
    · refine Or.inl ⟨y1, fun j hj => ?_⟩
      have : j = 0 := by omega
      subst this
      rintro ⟨r, hr, e⟩
      exact y2 r hr e
  have k3 : ∃ N, loopN sX7_laysFar_L52 2000 (1, N2) = some N ∧ ((∀ k, k ≠ 24 → N k = M k) ∧ Fa s.1 33 (N 24)) := by
    refine loop_inv 32 (fun i a => ∃ N : IA, a = (nI (i + 1), N) ∧ (∀ k, k ≠ 24 → N k = M k) ∧ Fa s.1 (i + 1) (N 24)) (fun N : IA => (∀ k, k ≠ 24 → N k = M k) ∧ Fa s.1 33 (N 24)) ?_ 2000 0 _ (Nat.zero_le _) (by omega) ⟨N2, rfl, f2, fa1⟩
    rintro i a hi ⟨N, rfl, h1, h2⟩
    unfold sX7_laysFar_L52
    dsimp +instances only
    by_cases hlt : i < 32
    · left
      obtain ⟨N3, e3, f3, fa3⟩ := m_round (M := N) (by rw [h1 1 (by decide)]; exact h) hI (n := i) (by omega) h2 (nI (i + 1), N) rfl
      rw [if_neg (show ¬ (32 : Int32) < nI (i + 1) from nI_nlt (a := 32) (by omega) (by omega)), e3, bind_s, nI_1]
      exact ⟨_, hlt, rfl, N3, rfl, fun k hk => by rw [f3 k hk, h1 k hk], fa3⟩
    · right
      have hi2 : i = 32 := by omega
      subst hi2
      rw [if_pos (by decide)]
      exact ⟨N, rfl, h1, h2⟩
  obtain ⟨N3, e3, f3, fa3⟩ := k3
  refine ⟨N3, ?_, f3, fa3⟩
  unfold sX7_laysFar
  rw [e1, bind_s, e2, bind_s, e3]
  rfl
theorem op_rubbish : OP_rubbish Rl := by
  intro kf rgt yct fctc Ap Fpc Ar nxi kni HA HFc M MFc p0 h
  unfold sX6_rubbish sX7_rubbish
  obtain ⟨s, hA, hM, hInv, _, _⟩ := (rl_open h).1
  have hM1 : MR ((sc M 0 0) 1) s := by rw [sc0 M 1 (by decide)]; exact hM
  rw [bd_eq]
  rcases in_cases p0 0 1 (by omega) (by omega) with ⟨c, d⟩ | ⟨w, h1, h2, rfl, c, d⟩
  · rw [show sX7_in p0 0 1 = some 0 from c, show sX6_within p0 0 1 = some 0 from d, bind_s, bind_s, if_pos rfl, if_pos rfl]
    exact ⟨_, _, rfl, rfl, rfl, rl_sc h⟩
  · obtain ⟨B, eB, hB⟩ := c_reached hA hInv.1.1 Ar
    obtain ⟨N, eN, fN, faN⟩ := m_far hM1 hInv
    have hN : MR (N 1) s := by rw [fN 1 (by decide)]; exact hM1
    have sB : loopN (sX6_rubbish_L26 HA (nI w) B) 2000 (0, 0) = some (sm (fun t => if s.1 4 t ≤ 0 then 0 else if bt (B 0 0) t = true then 0 else (if nI w = 0 then 1 else s.1 4 t)) 32) := for_sum _ 32 (by omega) (fun i a hi => by
      unfold sX6_rubbish_L26
      dsimp +instances only
      rw [if_neg (show ¬ (32 : Int32) ≤ nI i from nI_ge (b := 32) hi (by omega)), c_there hA hi, bind_s, ite01, nI_1, hasBit_eq (B 0 0) hi, bind_s, ite10, ck_nI hi (by omega), nI_clamp (by omega), bd_eq, bd_eq, hA.1 4 i (w_th hi (by omega) (by omega) (by omega))]
      by_cases q1 : s.1 4 i ≤ 0
      · rw [if_pos q1, if_pos q1, Int32.add_zero]
      · rw [if_neg q1, if_neg q1]
        by_cases q2 : bt (B 0 0) i = true
        · rw [if_pos q2, if_pos q2, Int32.add_zero]
        · rw [if_neg q2, if_neg q2]
          by_cases q3 : nI w = 0
          · rw [if_pos q3, if_pos q3]
          · rw [if_neg q3, if_neg q3]) (fun a => by
      unfold sX6_rubbish_L26
      dsimp +instances only
      rw [if_pos (show (32 : Int32) ≤ nI 32 by decide)])
    have sN : loopN (sX7_rubbish_L24 (nI w) N) 2000 (0, 0) = some (sm (fun t => if s.1 4 t ≤ 0 then 0 else if N 24 t = 0 then (if nI w = 0 then 1 else s.1 4 t) else 0) 32) := for_sum _ 32 (by omega) (fun i a hi => by
      unfold sX7_rubbish_L24
      dsimp +instances only
      rw [if_neg (show ¬ (32 : Int32) ≤ nI i from nI_ge (b := 32) hi (by omega)), m_there hN hi, bind_s, ite01, nI_1, ck_nI hi (by omega), nI_clamp (by omega), bd_eq, m_sz hN hi, bind_s, bd_eq]
      by_cases q1 : s.1 4 i ≤ 0
      · rw [if_pos q1, if_pos q1, Int32.add_zero]
      · rw [if_neg q1, if_neg q1]
        by_cases q2 : N 24 i = 0
        · rw [if_pos q2, if_pos q2]
          by_cases q3 : nI w = 0
          · rw [if_pos q3, if_pos q3]
          · rw [if_neg q3, if_neg q3]
        · rw [if_neg q2, if_neg q2, Int32.add_zero]) (fun a => by
      unfold sX7_rubbish_L24
      dsimp +instances only
      rw [if_pos (show (32 : Int32) ≤ nI 32 by decide)])
    rw [show sX7_in (nI w) 0 1 = some 1 from c, show sX6_within (nI w) 0 1 = some 1 from d, bind_s, bind_s, if_neg (show ¬ (1 : Int32) = 0 by decide), if_neg (show ¬ (1 : Int32) = 0 by decide), eB, eN, bind_s, bind_s, sB, sN, bind_s, bind_s]
    have hR : Rl (kf, rgt, yct, fctc, Ap, Fpc, B, nxi, kni, HA, HFc) N MFc := rl_M (x := (kf, rgt, yct, fctc, Ap, Fpc, B, nxi, kni, HA, HFc)) (rl_sc (x := (kf, rgt, yct, fctc, Ap, Fpc, B, nxi, kni, HA, HFc)) h) (fN 1 (by decide)) (fN 3 (by decide)) (fN 5 (by decide)) (fN 6 (by decide)) (fN 8 (by decide))
    refine ⟨_, _, rfl, rfl, ?_, hR⟩
    refine sm_congr (fun t ht => ?_)
    by_cases q : bt (B 0 0) t = true
    · rw [if_pos q, if_neg (fun z => (fa_zero faN ht).mp z ((hB t ht).mp q))]
    · rw [if_neg q, if_pos ((fa_zero faN ht).mpr (fun z => q ((hB t ht).mpr z)))]
