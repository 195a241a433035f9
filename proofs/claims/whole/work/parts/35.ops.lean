/-! ===== 35 emptied regions, black cells, the end of marking ===== -/
def em1 (r : Nat) (st : Nat → Bool) (t : Nat) (s : HS) : HS := if s.1 4 t ≤ 0 then s else if s.1 5 t = nI r then (if st t = true then s else en1 t s) else s
def em (r : Nat) (st : Nat → Bool) (s : HS) : HS := it (em1 r st) 32 s
theorem c_emptied {A : IA} {s : HS} (h : CR A s) {r : Nat} : ∃ B, sX1_endThingsIn A (nI r) = some B ∧ CR B (em r (fun _ => false) s) := by
  obtain ⟨B, e, hB, _⟩ := for_rel (step := sX1_endThingsIn_L2 (nI r)) (em1 r (fun _ => false)) (fun s x => CR x s) (fun _ _ => True) 32 (by omega)
    (fun i s x hi _ hx => by
      unfold sX1_endThingsIn_L2 em1
      dsimp +instances only
      rw [if_neg (show ¬ (32 : Int32) ≤ nI i from nI_ge (b := 32) hi (by omega)), c_in hx hi, bind_s, nI_1]
      by_cases h1 : s.1 4 i ≤ 0
      · rw [if_pos h1, if_pos h1, if_pos rfl]
        exact ⟨_, rfl, hx, trivial⟩
      · rw [if_neg h1, if_neg h1, ite10]
        by_cases h2 : s.1 5 i = nI r
        · rw [if_pos h2, if_pos h2, if_neg (by decide)]
          obtain ⟨B, e, hB⟩ := c_end hx hi
          rw [e, bind_s]
          exact ⟨_, rfl, hB, trivial⟩
        · rw [if_neg h2, if_neg h2]
          exact ⟨_, rfl, hx, trivial⟩)
    (fun s x _ _ => by
      unfold sX1_endThingsIn_L2
      dsimp +instances only
      rw [if_pos (show (32 : Int32) ≤ nI 32 by decide)]) (s := s) trivial h
  refine ⟨B, ?_, hB⟩
  unfold sX1_endThingsIn
  rw [e]
  rfl
/-- the class's sweep asks its own bits what stays -/
theorem c_sweep1 {A : IA} {s : HS} (h : CR A s) {r : Nat} {Q : IA} {st : Nat → Bool} (hq : ∀ t, t < 32 → bt (Q 8 0) t = st t) : ∃ B, loopN (sX3_sweep_L2 Q (nI r)) 2000 (0, A) = some B ∧ CR B (em r st s) := by
  obtain ⟨B, e, hB, _⟩ := for_rel (step := sX3_sweep_L2 Q (nI r)) (em1 r st) (fun s x => CR x s) (fun _ _ => True) 32 (by omega)
    (fun i s x hi _ hx => by
      unfold sX3_sweep_L2 em1
      dsimp +instances only
      rw [if_neg (show ¬ (32 : Int32) ≤ nI i from nI_ge (b := 32) hi (by omega)), c_in hx hi, bind_s, nI_1]
      by_cases h1 : s.1 4 i ≤ 0
      · rw [if_pos h1, if_pos h1, if_pos rfl]
        exact ⟨_, rfl, hx, trivial⟩
      · rw [if_neg h1, if_neg h1, ite10]
        by_cases h2 : s.1 5 i = nI r
        · rw [if_pos h2, if_pos h2, hasBit_eq (Q 8 0) hi, bind_s, ite10, hq i hi]
          by_cases h3 : st i = true
          · rw [if_pos h3, if_pos h3]
            exact ⟨_, rfl, hx, trivial⟩
          · rw [if_neg h3, if_neg h3]
            obtain ⟨B, e, hB⟩ := c_end hx hi
            rw [e, bind_s]
            exact ⟨_, rfl, hB, trivial⟩
        · rw [if_neg h2, if_neg h2]
          exact ⟨_, rfl, hx, trivial⟩)
    (fun s x _ _ => by
      unfold sX3_sweep_L2
      dsimp +instances only
      rw [if_pos (show (32 : Int32) ≤ nI 32 by decide)]) (s := s) trivial h
  exact ⟨B, e, hB⟩
theorem m_emptied {M : IA} {s : HS} (h : MR (M 1) s) {r : Nat} (stay : Int32) : ∃ N, sX7_emptied M (nI r) stay = some N ∧ MR (N 1) (em r (bt stay) s) ∧ Fr M N := by
  obtain ⟨B, e, hB, _⟩ := for_rel (step := sX7_emptied_L2 (nI r) stay) (em1 r (bt stay)) (fun s x => MR (x 1) s ∧ Fr M x) (fun _ _ => True) 32 (by omega)
    (fun i s x hi _ hx => by
      unfold sX7_emptied_L2 em1
      dsimp +instances only
      rw [if_neg (show ¬ (32 : Int32) ≤ nI i from nI_ge (b := 32) hi (by omega)), m_there hx.1 hi, bind_s, ite01, nI_1]
      by_cases h1 : s.1 4 i ≤ 0
      · rw [if_pos h1, if_pos h1]
        exact ⟨_, rfl, hx, trivial⟩
      · rw [if_neg h1, if_neg h1, m_pl hx.1 hi, bind_s]
        by_cases h2 : s.1 5 i = nI r
        · rw [if_pos h2, if_pos h2, hb_val stay hi]
          by_cases h3 : bt stay i = true
          · rw [if_pos h3, if_pos h3, if_neg (by decide)]
            exact ⟨_, rfl, hx, trivial⟩
          · rw [if_neg h3, if_neg h3, if_pos rfl]
            obtain ⟨B, e, hB, fB⟩ := m_end hx.1 hi
            rw [e, bind_s]
            exact ⟨_, rfl, ⟨hB, hx.2.trans fB⟩, trivial⟩
        · rw [if_neg h2, if_neg h2]
          exact ⟨_, rfl, hx, trivial⟩)
    (fun s x _ _ => by
      unfold sX7_emptied_L2
      dsimp +instances only
      rw [if_pos (show (32 : Int32) ≤ nI 32 by decide)]) (s := s) trivial ⟨h, Fr.refl M⟩
  refine ⟨B, ?_, hB.1, hB.2⟩
  unfold sX7_emptied
  rw [e]
  rfl
theorem em_congr {r : Nat} {st st' : Nat → Bool} (h : ∀ t, t < 32 → st t = st' t) (s : HS) : em r st s = em r st' s := by
  unfold em
  have : ∀ n, n ≤ 32 → it (em1 r st) n s = it (em1 r st') n s := by
    intro n
    induction n with
    | zero => intro _; rfl
    | succ n ih =>
      intro hn
      show em1 r st n _ = em1 r st' n _
      rw [ih (by omega)]
      unfold em1
      rw [h n (by omega)]
  exact this 32 (Nat.le_refl _)
/-! black cells -/
def bcf (h : IA) (r t : Nat) : Int32 := if h 4 t ≤ 0 then 0 else if h 5 t = nI r then (if h 8 t = 2 then h 4 t else 0) else 0
def bc (h : IA) (r : Nat) : Int32 := sm (bcf h r) 32
theorem c_bc {A : IA} {s : HS} (h : CR A s) (r : Nat) : sX1_blackCells A (nI r) = some (bc s.1 r) := by
  unfold sX1_blackCells
  rw [for_sum (step := sX1_blackCells_L4 A (nI r)) (bcf s.1 r) 32 (by omega) (fun i a hi => by
      unfold sX1_blackCells_L4 bcf
      dsimp +instances only
      rw [if_neg (show ¬ (32 : Int32) ≤ nI i from nI_ge (b := 32) hi (by omega)), c_in h hi, bind_s, nI_1]
      by_cases h1 : s.1 4 i ≤ 0
      · rw [if_pos h1, if_pos h1, if_pos rfl, Int32.add_zero]
      · rw [if_neg h1, if_neg h1, ite10]
        by_cases h2 : s.1 5 i = nI r
        · rw [if_pos h2, if_pos h2, ck_nI hi (by omega), nI_clamp (by omega), h.1 8 i (w_th hi (by omega) (by omega) (by omega)), ck_nI hi (by omega), h.1 4 i (w_th hi (by omega) (by omega) (by omega))]
          by_cases h3 : s.1 8 i = 2
          · rw [if_pos h3, if_pos h3]; rfl
          · rw [if_neg h3, if_neg h3, Int32.add_zero]
        · rw [if_neg h2, if_neg h2, Int32.add_zero]) (fun a => by
      unfold sX1_blackCells_L4
      dsimp +instances only
      rw [if_pos (show (32 : Int32) ≤ nI 32 by decide)])]
  rfl
theorem m_bc {M : IA} {s : HS} (h : MR (M 1) s) (r : Nat) : sX7_blackCells M (nI r) = some (bc s.1 r) := by
  unfold sX7_blackCells
  rw [for_sum (step := sX7_blackCells_L4 M (nI r)) (bcf s.1 r) 32 (by omega) (fun i a hi => by
      unfold sX7_blackCells_L4 bcf bd
      dsimp +instances only
      rw [if_neg (show ¬ (32 : Int32) ≤ nI i from nI_ge (b := 32) hi (by omega)), m_there h hi, bind_s, ite01, nI_1]
      by_cases h1 : s.1 4 i ≤ 0
      · rw [if_pos h1, if_pos h1]
      · rw [if_neg h1, if_neg h1, m_pl h hi, bind_s]
        by_cases h2 : s.1 5 i = nI r
        · rw [if_pos h2, if_pos h2, m_co h hi, bind_s, m_sz h hi]
          by_cases h3 : s.1 8 i = 2
          · rw [if_pos h3, if_pos h3]; rfl
          · rw [if_neg h3, if_neg h3]
        · rw [if_neg h2, if_neg h2]) (fun a => by
      unfold sX7_blackCells_L4
      dsimp +instances only
      rw [if_pos (show (32 : Int32) ≤ nI 32 by decide)])]
  rfl
/-! marking ends -/
def ea1 (r : Nat) (s : HS) : HS := if s.1 0 r = 2 then (wr s.1 2 r (bc s.1 r), s.2) else s
def eb1 (r : Nat) (s : HS) : HS := if (s.1 0 r = 2 ∨ s.1 0 r = 3) ∧ bc s.1 r = 0 then fw r (em r (fun _ => false) s) else s
def ends (s : HS) : HS := it eb1 10 (it ea1 10 (wr s.1 12 0 0, s.2))
theorem c_ends {A : IA} {s : HS} (h : CR A s) : ∃ B, sX1_endMarkingIfNoneGrey A = some B ∧ CR B (if s.2.2 = [] then ends s else s) := by
  unfold sX1_endMarkingIfNoneGrey
  rw [h.2.2.1]
  by_cases hg : s.2.2 = []
  · rw [if_pos hg, hg, if_pos (show nI (List.length ([] : List Int32)) ≤ 0 by decide)]
    obtain ⟨B1, e1, h1, _⟩ := for_rel (step := sX1_endMarkingIfNoneGrey_L18) ea1 (fun s x => CR x s) (fun _ _ => True) 10 (by omega)
      (fun i s x hi _ hx => by
        unfold sX1_endMarkingIfNoneGrey_L18 ea1
        dsimp +instances only
        rw [if_neg (show ¬ (10 : Int32) ≤ nI i from nI_ge (b := 10) hi (by omega)), ck_nI hi (by omega), nI_clamp (by omega), hx.1 0 i (w_rg hi (by omega)), nI_1]
        by_cases h1 : s.1 0 i = 2
        · rw [if_pos h1, if_pos h1, c_bc hx, bind_s, ck_nI hi (by omega)]
          exact ⟨_, rfl, cr_wr hx (w_rg hi (by omega)) _, trivial⟩
        · rw [if_neg h1, if_neg h1]
          exact ⟨_, rfl, hx, trivial⟩)
      (fun s x _ _ => by
        unfold sX1_endMarkingIfNoneGrey_L18
        dsimp +instances only
        rw [if_pos (show (10 : Int32) ≤ nI 10 by decide)]) (s := (wr s.1 12 0 0, s.2)) trivial (cr_sc h (by decide) 0)
    obtain ⟨B2, e2, h2, _⟩ := for_rel (step := sX1_endMarkingIfNoneGrey_L53) eb1 (fun s x => CR x s) (fun _ _ => True) 10 (by omega)
      (fun i s x hi _ hx => by
        obtain ⟨B, eB, hB⟩ := c_emptied hx (r := i)
        obtain ⟨B', eB', hB'⟩ := c_fw hB hi
        unfold sX1_endMarkingIfNoneGrey_L53 eb1
        dsimp +instances only
        rw [if_neg (show ¬ (10 : Int32) ≤ nI i from nI_ge (b := 10) hi (by omega)), ck_nI hi (by omega), nI_clamp (by omega), hx.1 0 i (w_rg hi (by omega)), nI_1, c_bc hx, bind_s, ck_nI hi (by omega), eB, bind_s, eB', bind_s]
        by_cases h1 : s.1 0 i = 2
        · rw [if_pos h1]
          by_cases h3 : bc s.1 i = 0
          · rw [if_pos h3, if_pos ⟨Or.inl h1, h3⟩]
            exact ⟨_, rfl, hB', trivial⟩
          · rw [if_neg h3, if_neg (fun q => h3 q.2)]
            exact ⟨_, rfl, hx, trivial⟩
        · rw [if_neg h1]
          by_cases h2 : s.1 0 i = 3
          · rw [if_pos h2]
            by_cases h3 : bc s.1 i = 0
            · rw [if_pos h3, if_pos ⟨Or.inr h2, h3⟩]
              exact ⟨_, rfl, hB', trivial⟩
            · rw [if_neg h3, if_neg (fun q => h3 q.2)]
              exact ⟨_, rfl, hx, trivial⟩
          · rw [if_neg h2, if_neg (fun q => q.1.elim h1 h2)]
            exact ⟨_, rfl, hx, trivial⟩)
      (fun s x _ _ => by
        unfold sX1_endMarkingIfNoneGrey_L53
        dsimp +instances only
        rw [if_pos (show (10 : Int32) ≤ nI 10 by decide)]) (s := it ea1 10 (wr s.1 12 0 0, s.2)) trivial h1
    refine ⟨B2, ?_, h2⟩
    show (loopN sX1_endMarkingIfNoneGrey_L18 2000 (0, sc A 12 0)).bind (fun q2 => (loopN sX1_endMarkingIfNoneGrey_L53 2000 (0, q2)).bind (fun q4 => some q4)) = _
    rw [e1, bind_s, e2]
    rfl
  · rw [if_neg hg, if_neg (nI_nle (List.length_pos_iff.mpr hg) (by have := h.2.2.2.1; omega))]
    exact ⟨A, rfl, h⟩
theorem m_ends {M : IA} {s : HS} (h : MR (M 1) s) : ∃ N, sX7_ends M = some N ∧ MR (N 1) (ends s) ∧ Fr M N := by
  unfold sX7_ends
  obtain ⟨B1, e1, h1, _⟩ := for_rel (step := sX7_ends_L11) ea1 (fun s x => MR (x 1) s ∧ Fr M x) (fun _ _ => True) 10 (by omega)
    (fun i s x hi _ hx => by
      unfold sX7_ends_L11 ea1
      dsimp +instances only
      rw [if_neg (show ¬ (10 : Int32) ≤ nI i from nI_ge (b := 10) hi (by omega)), m_kd hx.1 hi, bind_s, nI_1]
      by_cases h1 : s.1 0 i = 2
      · obtain ⟨N, e, g1, g2⟩ := m_set hx.1 hi (k := 2) (by omega) (bc s.1 i)
        rw [if_pos h1, if_pos h1, m_bc hx.1, bind_s, show sX7_setsRegion x (nI i) 2 (bc s.1 i) = some N from e, bind_s]
        exact ⟨_, rfl, ⟨g1, hx.2.trans g2⟩, trivial⟩
      · rw [if_neg h1, if_neg h1]
        exact ⟨_, rfl, hx, trivial⟩)
    (fun s x _ _ => by
      unfold sX7_ends_L11
      dsimp +instances only
      rw [if_pos (show (10 : Int32) ≤ nI 10 by decide)]) (s := (wr s.1 12 0 0, s.2)) (x := wr M 1 (Int32.toNatClampNeg 292) 0) trivial ⟨mr_wr h (k := 12) (j := 0) (by decide) (by decide) 0, fr_wr _ _ _⟩
  obtain ⟨B2, e2, h2, _⟩ := for_rel (step := sX7_ends_L46) eb1 (fun s x => MR (x 1) s ∧ Fr M x) (fun _ _ => True) 10 (by omega)
    (fun i s x hi _ hx => by
      obtain ⟨B, eB, hB, fB⟩ := m_emptied hx.1 (r := i) 0
      rw [em_congr (st' := fun _ => false) (fun t ht => bt_0 t ht)] at hB
      obtain ⟨B', eB', hB', fB'⟩ := m_fw hB hi
      unfold sX7_ends_L46 eb1
      dsimp +instances only
      rw [if_neg (show ¬ (10 : Int32) ≤ nI i from nI_ge (b := 10) hi (by omega)), m_kd hx.1 hi, bind_s, nI_1, m_bc hx.1, bind_s, eB, bind_s, eB', bind_s]
      by_cases h1 : s.1 0 i = 2
      · rw [if_pos h1]
        by_cases h3 : bc s.1 i = 0
        · rw [if_pos h3, if_pos ⟨Or.inl h1, h3⟩]
          exact ⟨_, rfl, ⟨hB', hx.2.trans (fB.trans fB')⟩, trivial⟩
        · rw [if_neg h3, if_neg (fun q => h3 q.2)]
          exact ⟨_, rfl, hx, trivial⟩
      · rw [if_neg h1]
        by_cases h2 : s.1 0 i = 3
        · rw [if_pos h2]
          by_cases h3 : bc s.1 i = 0
          · rw [if_pos h3, if_pos ⟨Or.inr h2, h3⟩]
            exact ⟨_, rfl, ⟨hB', hx.2.trans (fB.trans fB')⟩, trivial⟩
          · rw [if_neg h3, if_neg (fun q => h3 q.2)]
            exact ⟨_, rfl, hx, trivial⟩
        · rw [if_neg h2, if_neg (fun q => q.1.elim h1 h2)]
          exact ⟨_, rfl, hx, trivial⟩)
    (fun s x _ _ => by
      unfold sX7_ends_L46
      dsimp +instances only
      rw [if_pos (show (10 : Int32) ≤ nI 10 by decide)]) (s := it ea1 10 (wr s.1 12 0 0, s.2)) trivial h1
  refine ⟨B2, ?_, h2.1, h2.2⟩
  show (loopN sX7_ends_L11 2000 (0, wr M 1 (Int32.toNatClampNeg 292) 0)).bind (fun q2 => (loopN sX7_ends_L46 2000 (0, q2)).bind (fun q4 => some q4)) = _
  rw [e1, bind_s, e2]
  rfl
