/-! ===== 37 cards refined ===== -/
def nt (c : Nat) (v : Int32) (s : HS) : HS := if v = -5 then s else if s.1 5 v.toNatClampNeg = nI (c / 2) then s else (wr s.1 3 (pP s.1 v.toNatClampNeg) (s.1 3 (pP s.1 v.toNatClampNeg) ||| (1 <<< (nI c &&& 31))), s.2)
theorem nt_2 (c : Nat) (v : Int32) (s : HS) : (nt c v s).2 = s.2 := by
  unfold nt
  split
  · rfl
  · split
    · rfl
    · rfl
theorem nt_row (c : Nat) (v : Int32) (s : HS) {k : Nat} (hk : k ≠ 3) : (nt c v s).1 k = s.1 k := by
  unfold nt
  split
  · rfl
  · split
    · rfl
    · exact wr_row_ne _ _ _ hk
/-- Wf asks nothing of rows 0-3, 12 and on -/
theorem wf_same {s q : HS} (w : Wf s) (h4 : q.1 4 = s.1 4) (h5 : q.1 5 = s.1 5) (h6 : q.1 6 = s.1 6) (h7 : q.1 7 = s.1 7) (h8 : q.1 8 = s.1 8) (h9 : q.1 9 = s.1 9) (h2 : q.2 = s.2) : Wf q := by
  unfold Wf
  rw [h4, h5, h6, h7, h8, h9, h2]
  exact w
theorem wf_nt {c : Nat} {v : Int32} {s : HS} (w : Wf s) : Wf (nt c v s) := wf_same w (nt_row c v s (by decide)) (nt_row c v s (by decide)) (nt_row c v s (by decide)) (nt_row c v s (by decide)) (nt_row c v s (by decide)) (nt_row c v s (by decide)) (nt_2 c v s)
theorem c_nt {A : IA} {s : HS} (h : CR A s) (w : Wf s) {c : Nat} (hc : c < 20) {v : Int32} (hv : Nl v) : ∃ B, sX1_noteField A (nI c) v = some B ∧ CR B (nt c v s) := by
  unfold sX1_noteField nt
  by_cases h5 : v = -5
  · rw [if_pos h5, if_pos h5]; exact ⟨A, rfl, h⟩
  · rw [if_neg h5, if_neg h5]
    obtain ⟨t, ht, rfl⟩ := hv.resolve_left h5
    have hcl : (nI t).toNatClampNeg = t := nI_clamp (by omega)
    unfold sX6_regionOfCard
    rw [ck_nI ht (by omega), bind_s, hcl, h.1 5 t (w_th ht (by omega) (by omega) (by omega)), show nI c / (2 : Int32) = nI (c / 2) from pk_div (d := 2) (by omega) (by omega) (by omega)]
    by_cases h1 : s.1 5 t = nI (c / 2)
    · rw [if_pos h1, if_pos h1]; exact ⟨A, rfl, h⟩
    · have hp := w.pl ht
      rw [if_neg h1, if_neg h1, ck_nI ht (by omega), hp.1, ck_nI hp.2 (by omega), ck_nI hp.2 (by omega), nI_clamp (by have := hp.2; omega), h.1 3 _ (w_rg hp.2 (by omega))]
      exact ⟨_, rfl, cr_wr h (w_rg hp.2 (by omega)) _⟩
def rt1 (c t : Nat) (s : HS) : HS := if s.1 4 t ≤ 0 then s else if nI (cdo s.1 t) = nI c then nt c ((nt c (s.1 7 (2 * t)) s).1 7 (2 * t + 1)) (nt c (s.1 7 (2 * t)) s) else s
def rf (c : Nat) (s : HS) : HS := it (rt1 c) 32 (s.1, dropL (nI c) s.2.1, s.2.2)
theorem wf_rt1 {c t : Nat} {s : HS} (w : Wf s) : Wf (rt1 c t s) := by
  unfold rt1
  split
  · exact w
  · split
    · exact wf_nt (wf_nt w)
    · exact w
theorem wf_drop {s : HS} (w : Wf s) (x : Int32) : Wf (s.1, dropL x s.2.1, s.2.2) :=
  ⟨w.1, w.2.1, w.2.2.1, fun y hy => w.2.2.2.1 y (mem_dropL.mp hy).1, dropL_nodup w.2.2.2.2.1, w.2.2.2.2.2.1, w.2.2.2.2.2.2.1, w.2.2.2.2.2.2.2⟩
theorem wf_rf {c : Nat} {s : HS} (w : Wf s) : Wf (rf c s) := it_inv (fun _ s => Wf s) 32 (wf_drop w _) (fun _ _ _ h => wf_rt1 h)
theorem rt1_2 (c t : Nat) (s : HS) : (rt1 c t s).2 = s.2 := by
  unfold rt1
  split
  · rfl
  · split
    · rw [nt_2, nt_2]
    · rfl
theorem rf_2 (c : Nat) (s : HS) : (rf c s).2 = (dropL (nI c) s.2.1, s.2.2) := it_inv (fun _ (q : HS) => q.2 = (dropL (nI c) s.2.1, s.2.2)) 32 rfl (fun i q _ h => by rw [rt1_2]; exact h)
theorem c_rf {A : IA} {s : HS} (h : CR A s) (w : Wf s) {c : Nat} (hc : c < 20) : ∃ B, sX1_refineCard A (nI c) = some B ∧ CR B (rf c s) := by
  obtain ⟨z, ez, hz⟩ := c_drop h (nI c)
  obtain ⟨B, e, hB, _⟩ := for_rel (step := sX1_refineCard_L10 (nI c)) (rt1 c) (fun s x => CR x s) (fun _ s => Wf s) 32 (by omega)
    (fun i s x hi ws hx => by
      unfold sX1_refineCard_L10 rt1
      dsimp +instances only
      rw [if_neg (show ¬ (32 : Int32) ≤ nI i from nI_ge (b := 32) hi (by omega)), c_on hx ws hi, bind_s, nI_1]
      by_cases h1 : s.1 4 i ≤ 0
      · rw [if_pos h1, if_pos h1, if_pos rfl]
        exact ⟨_, rfl, hx, ws⟩
      · rw [if_neg h1, if_neg h1, ite10]
        by_cases h2 : nI (cdo s.1 i) = nI c
        · rw [if_pos h2, if_pos h2, c_f0 hx hi, bind_s]
          obtain ⟨B1, e1, hB1⟩ := c_nt hx ws hc (ws.2.1 (2 * i) (by omega))
          have w1 : Wf (nt c (s.1 7 (2 * i)) s) := wf_nt ws
          obtain ⟨B2, e2, hB2⟩ := c_nt hB1 w1 hc (w1.2.1 (2 * i + 1) (by omega))
          rw [e1, bind_s, c_f1 hB1 hi, bind_s, e2, bind_s]
          exact ⟨_, rfl, hB2, wf_nt w1⟩
        · rw [if_neg h2, if_neg h2]
          exact ⟨_, rfl, hx, ws⟩)
    (fun s x _ _ => by
      unfold sX1_refineCard_L10
      dsimp +instances only
      rw [if_pos (show (32 : Int32) ≤ nI 32 by decide)]) (s := (s.1, dropL (nI c) s.2.1, s.2.2)) (wf_drop w _) hz
  refine ⟨B, ?_, hB⟩
  unfold sX1_refineCard
  rw [ez, bind_s, bd_eq, e]
  rfl
theorem m_nt {M : IA} {s : HS} (h : MR (M 1) s) (w : Wf s) {c t f : Nat} (hc : c < 20) (ht : t < 32) (hf : f < 2) (h4 : ¬ s.1 4 t ≤ 0) (hcd : nI (cdo s.1 t) = nI c) (q1 : Int32 × IA) (hq : q1.1 = nI t) : ∃ N, sX7_refinesOne_L30 (nI c) q1 (nI f, M) = some (.inl (nI f + 1, N)) ∧ MR (N 1) (nt c (s.1 7 (2 * t + f)) s) ∧ Fr M N := by
  unfold sX7_refinesOne_L30
  dsimp +instances only
  rw [if_neg (show ¬ (2 : Int32) ≤ nI f from nI_ge (b := 2) hf (by omega)), hq, m_there h ht, bind_s, ite01, if_neg h4, m_card h w ht, bind_s, if_pos hcd, m_fd h ht hf h4, bind_s]
  unfold nt
  by_cases h5 : s.1 7 (2 * t + f) = -5
  · rw [if_pos h5, if_pos h5]; exact ⟨M, rfl, h, Fr.refl M⟩
  · rw [if_neg h5, if_neg h5]
    obtain ⟨u, hu, eu⟩ := (w.2.1 (2 * t + f) (by omega)).resolve_left h5
    have hcl : (nI u).toNatClampNeg = u := nI_clamp (by omega)
    have hp := w.pl hu
    rw [eu, hcl, m_pl h hu, bind_s, bind_s, show nI c / (2 : Int32) = nI (c / 2) from pk_div (d := 2) (by omega) (by omega) (by omega)]
    by_cases h1 : s.1 5 u = nI (c / 2)
    · rw [if_pos h1, if_pos h1]; exact ⟨M, rfl, h, Fr.refl M⟩
    · rw [if_neg h1, if_neg h1, hp.1, show (198 : Int32) + 4 * nI (pP s.1 u) + 3 = nI (198 + 4 * pP s.1 u + 3) from mul4 _ 3, ck_nI (by have := hp.2; omega) (by omega), ck_nI (by have := hp.2; omega) (by omega), nI_clamp (by have := hp.2; omega), show M 1 (198 + 4 * pP s.1 u + 3) = s.1 3 (pP s.1 u) from h.rd (k := 3) (w_rg hp.2 (by omega)) (by decide)]
      exact ⟨_, rfl, mr_wr h (k := 3) (w_rg hp.2 (by omega)) (show 198 + 4 * pP s.1 u + 3 = lc 3 (pP s.1 u) from rfl) _, fr_wr _ _ _⟩
theorem m_rf {M : IA} {s : HS} (h : MR (M 1) s) (w : Wf s) {c : Nat} {D : List Int32} (hc : c < 20) (hD : s.2.1 = nI c :: D) : ∃ N, sX7_refinesOne M = some N ∧ MR (N 1) (rf c s) ∧ Fr M N := by
  have hrow := h.2.1.1
  have hlen := h.2.1.2
  have hn := w.2.2.2.2.1
  rw [hD] at hrow hlen hn
  have hl2 : D.length + 1 ≤ 20 := hlen
  obtain ⟨M1, e1, r1, f1, g1⟩ := leaves_spec (k := 0) hrow (by rw [List.length_cons]; omega) (by omega) (Or.inr (by rw [List.length_cons]; omega)) (by rw [List.length_cons]; omega)
  have h1 : MR (M1 1) (s.1, dropL (nI c) s.2.1, s.2.2) := by
    rw [hD, dropL_head hn]
    exact mr_dirty h r1 (by show D.length ≤ 20; omega) (fun n q1 q2 => g1 n q1 (by rw [List.length_cons]; omega))
  obtain ⟨B, e, hB, _⟩ := for_rel (step := sX7_refinesOne_L22 (nI c)) (rt1 c) (fun s x => MR (x 1) s ∧ Fr M x) (fun _ s => Wf s) 32 (by omega)
    (fun i s x hi ws hx => by
      unfold sX7_refinesOne_L22 rt1
      dsimp +instances only
      rw [if_neg (show ¬ (32 : Int32) ≤ nI i from nI_ge (b := 32) hi (by omega)), nI_1]
      have hout : s.1 4 i ≤ 0 ∨ nI (cdo s.1 i) ≠ nI c → loopN (sX7_refinesOne_L30 (nI c) (nI i, x)) 2000 (0, x) = some x := by
        intro q
        refine loopN_inr ?_
        unfold sX7_refinesOne_L30
        dsimp +instances only
        rw [if_neg (by decide), m_there hx.1 hi, bind_s, ite01]
        by_cases h1 : s.1 4 i ≤ 0
        · rw [if_pos h1]
        · rw [if_neg h1, m_card hx.1 ws hi, bind_s, if_neg (q.resolve_left h1)]
      by_cases h1 : s.1 4 i ≤ 0
      · rw [if_pos h1, hout (Or.inl h1), bind_s]
        exact ⟨_, rfl, hx, ws⟩
      · rw [if_neg h1]
        by_cases h2 : nI (cdo s.1 i) = nI c
        · rw [if_pos h2]
          obtain ⟨B1, e1, hB1, fB1⟩ := m_nt hx.1 ws hc hi (f := 0) (by omega) h1 h2 (nI i, x) rfl
          have w1 : Wf (nt c (s.1 7 (2 * i)) s) := wf_nt ws
          have hcd : cdo (nt c (s.1 7 (2 * i)) s).1 i = cdo s.1 i := by
            unfold cdo pP pC
            rw [nt_row _ _ _ (by decide), nt_row _ _ _ (by decide)]
          obtain ⟨B2, e2, hB2, fB2⟩ := m_nt (s := nt c (s.1 7 (2 * i)) s) hB1 w1 hc hi (f := 1) (by omega) (by rw [nt_row _ _ _ (by decide)]; exact h1) (by rw [hcd]; exact h2) (nI i, x) rfl
          have e3 : sX7_refinesOne_L30 (nI c) (nI i, x) (2, B2) = some (.inr B2) := by
            unfold sX7_refinesOne_L30
            dsimp +instances only
            rw [if_pos (by decide)]
          rw [loop2 (y := B1) (z := B2) (show sX7_refinesOne_L30 (nI c) (nI i, x) (0, x) = some (.inl (1, B1)) from e1) (show sX7_refinesOne_L30 (nI c) (nI i, x) (1, B1) = some (.inl (2, B2)) from e2) e3, bind_s]
          exact ⟨_, rfl, ⟨hB2, (hx.2.trans fB1).trans fB2⟩, wf_nt w1⟩
        · rw [if_neg h2, hout (Or.inr h2), bind_s]
          exact ⟨_, rfl, hx, ws⟩)
    (fun s x _ _ => by
      unfold sX7_refinesOne_L22
      dsimp +instances only
      rw [if_pos (show (32 : Int32) ≤ nI 32 by decide)]) (s := (s.1, dropL (nI c) s.2.1, s.2.2)) (wf_drop w _) ⟨h1, fun k hk => f1 k hk⟩
  refine ⟨B, ?_, hB.1, hB.2⟩
  unfold sX7_refinesOne
  rw [bd_eq, show M 1 (Int32.toNatClampNeg 238) = nI c from hrow.2 0 (by rw [List.length_cons]; omega), show sX7_leaves M 238 258 0 = some M1 from e1, bind_s, e]
  rfl
/-! several -/
def rfn : Nat → HS → HS
  | 0, s => s
  | n + 1, s => if s.2.1 = [] then s else rfn n (rf (s.2.1.headD 0).toNatClampNeg s)
theorem hd_ex {s : HS} (w : Wf s) (h : s.2.1 ≠ []) : ∃ c D, c < 20 ∧ s.2.1 = nI c :: D ∧ (s.2.1.headD 0).toNatClampNeg = c := by
  cases e : s.2.1 with
  | nil => exact absurd e h
  | cons x D =>
    obtain ⟨c, hc, ec⟩ := w.2.2.2.1 x (by rw [e]; exact List.mem_cons_self)
    refine ⟨c, D, hc, by rw [ec], ?_⟩
    show x.toNatClampNeg = c
    rw [ec, nI_clamp (by omega)]
theorem rf_len {s : HS} (w : Wf s) {c : Nat} {D : List Int32} (e : s.2.1 = nI c :: D) : (rf c s).2.1 = D := by
  have hn := w.2.2.2.2.1
  rw [rf_2]
  show dropL (nI c) s.2.1 = D
  rw [e] at hn ⊢
  exact dropL_head hn
theorem c_rfn : ∀ (n i N k : Nat) (s : HS) (A : IA), CR A s → Wf s → N = i + n → N < 2000 → n < k → ∃ B, loopN (sX1_refineOldest_L4 (nI N)) k (nI i, nI i, A) = some (nI (i + min n s.2.1.length), B) ∧ CR B (rfn n s) := by
  intro n
  induction n with
  | zero =>
    intro i N k s A h w hN hN2 hk
    obtain ⟨j, rfl⟩ : ∃ j, k = j + 1 := ⟨k - 1, by omega⟩
    refine ⟨A, loopN_inr ?_, h⟩
    unfold sX1_refineOldest_L4
    dsimp +instances only
    rw [if_pos (nI_le (by omega) (by omega)), Nat.zero_min, Nat.add_zero]
  | succ n ih =>
    intro i N k s A h w hN hN2 hk
    obtain ⟨j, rfl⟩ : ∃ j, k = j + 1 := ⟨k - 1, by omega⟩
    have hlt : ¬ nI N ≤ nI i := nI_ge (by omega) (by omega)
    unfold rfn
    by_cases hd : s.2.1 = []
    · rw [if_pos hd]
      refine ⟨A, loopN_inr ?_, h⟩
      unfold sX1_refineOldest_L4
      dsimp +instances only
      rw [if_neg hlt, h.2.1.1, hd, if_pos (by decide)]
      rfl
    · rw [if_neg hd]
      obtain ⟨c, D, hc, eD, ehd⟩ := hd_ex w hd
      rw [ehd]
      obtain ⟨B, eB, hB⟩ := c_rf h w hc
      have hrow := h.2.1
      rw [eD] at hrow
      have hst : sX1_refineOldest_L4 (nI N) (nI i, nI i, A) = some (.inl (nI (i + 1), nI (i + 1), B)) := by
        unfold sX1_refineOldest_L4
        dsimp +instances only
        rw [if_neg hlt, if_neg (by rw [hrow.1, List.length_cons]; exact nI_nle (by omega) (by have := hrow.2.1; rw [List.length_cons] at this; omega)), show sX5_itemAt (A 10) (A 18 0) 0 = some (nI c) from itemAt_spec hrow (i := 0) (by rw [List.length_cons]; omega), bind_s, eB, bind_s, nI_1]
      rw [loopN_inl hst]
      obtain ⟨B2, e2, h2⟩ := ih (i + 1) N j (rf c s) B hB (wf_rf w) (by omega) hN2 (by omega)
      refine ⟨B2, ?_, h2⟩
      rw [e2, rf_len w eD, eD, List.length_cons]
      congr 3
      omega
theorem m_rfn : ∀ (n i N k : Nat) (s : HS) (M : IA), MR (M 1) s → Wf s → N = i + n → N < 2000 → n ≤ s.2.1.length → n < k → ∃ K, loopN (sX7_refines_L62 (nI N)) k (nI i, M) = some K ∧ MR (K 1) (rfn n s) ∧ Fr M K := by
  intro n
  induction n with
  | zero =>
    intro i N k s A h w hN hN2 hl hk
    obtain ⟨j, rfl⟩ : ∃ j, k = j + 1 := ⟨k - 1, by omega⟩
    refine ⟨A, loopN_inr ?_, h, Fr.refl A⟩
    unfold sX7_refines_L62
    dsimp +instances only
    rw [if_pos (nI_le (by omega) (by omega))]
  | succ n ih =>
    intro i N k s A h w hN hN2 hl hk
    obtain ⟨j, rfl⟩ : ∃ j, k = j + 1 := ⟨k - 1, by omega⟩
    have hlt : ¬ nI N ≤ nI i := nI_ge (by omega) (by omega)
    have hd : s.2.1 ≠ [] := fun q => by rw [q] at hl; exact absurd hl (by rw [List.length_nil]; omega)
    unfold rfn
    rw [if_neg hd]
    obtain ⟨c, D, hc, eD, ehd⟩ := hd_ex w hd
    rw [ehd]
    obtain ⟨B, eB, hB, fB⟩ := m_rf h w hc eD
    rw [loopN_inl (a' := (nI (i + 1), B)) (by unfold sX7_refines_L62; dsimp +instances only; rw [if_neg hlt, eB, bind_s, nI_1])]
    obtain ⟨K, eK, hK, fK⟩ := ih (i + 1) N j (rf c s) B hB (wf_rf w) (by omega) hN2 (by rw [rf_len w eD]; rw [eD, List.length_cons] at hl; omega) (by omega)
    exact ⟨K, eK, hK, fB.trans fK⟩
theorem m_rfp : ∀ (n k : Nat) (s : HS) (M : IA), MR (M 1) s → Wf s → s.2.1.length ≤ n → n < k → ∃ K, loopN sX7_pause_L0 k M = some K ∧ MR (K 1) (rfn n s) ∧ Fr M K := by
  intro n
  induction n with
  | zero =>
    intro k s A h w hl hk
    obtain ⟨j, rfl⟩ : ∃ j, k = j + 1 := ⟨k - 1, by omega⟩
    refine ⟨A, loopN_inr ?_, h, Fr.refl A⟩
    unfold sX7_pause_L0
    rw [m_dn h, show s.2.1.length = 0 by omega, if_pos (by decide)]
  | succ n ih =>
    intro k s A h w hl hk
    obtain ⟨j, rfl⟩ : ∃ j, k = j + 1 := ⟨k - 1, by omega⟩
    unfold rfn
    by_cases hd : s.2.1 = []
    · rw [if_pos hd]
      refine ⟨A, loopN_inr ?_, h, Fr.refl A⟩
      unfold sX7_pause_L0
      rw [m_dn h, hd, if_pos (by decide)]
    · rw [if_neg hd]
      obtain ⟨c, D, hc, eD, ehd⟩ := hd_ex w hd
      rw [ehd]
      obtain ⟨B, eB, hB, fB⟩ := m_rf h w hc eD
      rw [loopN_inl (a' := B) (by
        unfold sX7_pause_L0
        rw [m_dn h, if_neg (nI_nle (List.length_pos_iff.mpr hd) (by have := h.2.1.2; omega)), eB, bind_s])]
      obtain ⟨K, eK, hK, fK⟩ := ih j (rf c s) B hB (wf_rf w) (by rw [rf_len w eD]; rw [eD, List.length_cons] at hl; omega) (by omega)
      exact ⟨K, eK, hK, fB.trans fK⟩
theorem wf_rfn : ∀ (n : Nat) (s : HS), Wf s → Wf (rfn n s) := by
  intro n
  induction n with
  | zero => intro s w; exact w
  | succ n ih =>
    intro s w
    unfold rfn
    split
    · exact w
    · exact ih _ (wf_rf w)
theorem rfn_more : ∀ (n : Nat) (s : HS), Wf s → s.2.1.length ≤ n → rfn n s = rfn s.2.1.length s := by
  intro n
  induction n with
  | zero =>
    intro s w h
    rw [show s.2.1.length = 0 by omega]
  | succ n ih =>
    intro s w h
    by_cases hd : s.2.1 = []
    · rw [hd]
      show (if s.2.1 = [] then s else _) = s
      rw [if_pos hd]
    · obtain ⟨c, D, hc, eD, ehd⟩ := hd_ex w hd
      have hl := rf_len w eD
      rw [eD, List.length_cons]
      show (if s.2.1 = [] then s else rfn n (rf (s.2.1.headD 0).toNatClampNeg s)) = (if s.2.1 = [] then s else rfn D.length (rf (s.2.1.headD 0).toNatClampNeg s))
      rw [if_neg hd, if_neg hd, ehd, ih (rf c s) (wf_rf w) (by rw [hl]; rw [eD, List.length_cons] at h; omega), hl]
