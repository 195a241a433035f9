/-! ===== 43 scanning: the cards' loops ===== -/
theorem bt_scd {h : IA} {m : Int32} (hm : ∀ r, r < 10 → M20 (h 3 r)) {i : Nat} (hi : i < 32) : bt (scd h m) i = (bt (orm h m 10) i && !(decide (i < 20) && bt m (i / 2))) := by
  unfold scd
  rw [bt_clr m _ 10 (Nat.le_refl _) i hi]
  by_cases e : i < 20
  · rw [decide_eq_true e, decide_eq_true (show i / 2 < 10 by omega)]
  · rw [m20_orm hm m 10 (Nat.le_refl _) i (by omega) hi, Bool.false_and, Bool.false_and]
theorem c_scA {A : IA} {s : HS} (h : CR A s) (w : Wf s) (hm20 : ∀ r, r < 10 → M20 (s.1 3 r)) {Q : IA} {m : Int32} {X : List Int32} (hq : PQ Q s.1 m X) (hx : FX X) (h4 : Q 4 0 = 0) : ∃ Q', sX3_scanCards Q A = some Q' ∧ PQ Q' s.1 m (scA s.1 m (scd s.1 m) X) ∧ Q' 4 0 = scd s.1 m ∧ (∀ k, k ≠ 1 → k ≠ 9 → k ≠ 5 → k ≠ 6 → k ≠ 4 → Q' k = Q k) ∧ FX (scA s.1 m (scd s.1 m) X) := by
  obtain ⟨Q1, e1, o1, f1⟩ := c_orm h hq.2.1 h4
  have hq1 : PQ Q1 s.1 m X := ⟨by rw [f1 1 (by decide), f1 9 (by decide)]; exact hq.1, by rw [f1 10 (by decide)]; exact hq.2.1, by rw [f1 5 (by decide)]; exact hq.2.2.1, by rw [f1 6 (by decide)]; exact hq.2.2.2⟩
  have key : ∃ b, loopN (sX3_scanCards_L45 A) 2000 (0, Q1) = some b ∧ (PQ b s.1 m (scA s.1 m (scd s.1 m) X) ∧ b 4 0 = scd s.1 m ∧ (∀ k, k ≠ 1 → k ≠ 9 → k ≠ 5 → k ≠ 6 → k ≠ 4 → b k = Q k) ∧ FX (scA s.1 m (scd s.1 m) X)) := by
    refine loop_inv 20 (fun i a => ∃ b : IA, a = (nI i, b) ∧ PQ b s.1 m (it (fun card X => if bt (scd s.1 m) card = true then sc1 s.1 m card X else X) i X) ∧ (∀ j, j < 32 → bt (b 4 0) j = (bt (orm s.1 m 10) j && !(decide (j < i) && bt m (j / 2)))) ∧ (∀ k, k ≠ 1 → k ≠ 9 → k ≠ 5 → k ≠ 6 → k ≠ 4 → b k = Q k) ∧ FX (it (fun card X => if bt (scd s.1 m) card = true then sc1 s.1 m card X else X) i X)) (fun b : IA => PQ b s.1 m (scA s.1 m (scd s.1 m) X) ∧ b 4 0 = scd s.1 m ∧ (∀ k, k ≠ 1 → k ≠ 9 → k ≠ 5 → k ≠ 6 → k ≠ 4 → b k = Q k) ∧ FX (scA s.1 m (scd s.1 m) X)) ?_ 2000 0 _ (Nat.zero_le _) (by omega) ⟨Q1, by rw [nI_0], hq1, fun j hj => by rw [o1, decide_eq_false (Nat.not_lt_zero j), Bool.false_and]; simp, fun k _ _ _ _ e => f1 k e, hx⟩
    rintro i a hi ⟨b, rfl, h1, h2, h3, h5⟩
    unfold sX3_scanCards_L45 sX6_regionOfCard
    dsimp +instances only
    by_cases hlt : i < 20
    · left
      have hsi := bt_scd (h := s.1) (m := m) hm20 (i := i) (by omega)
      have hbi := h2 i (by omega)
      rw [decide_eq_true hlt, Bool.true_and] at hsi
      rw [decide_eq_false (Nat.lt_irrefl i), Bool.false_and] at hbi
      have e : it (fun card X => if bt (scd s.1 m) card = true then sc1 s.1 m card X else X) (i + 1) X = if bt (scd s.1 m) i = true then sc1 s.1 m i (it (fun card X => if bt (scd s.1 m) card = true then sc1 s.1 m card X else X) i X) else it (fun card X => if bt (scd s.1 m) card = true then sc1 s.1 m card X else X) i X := rfl
      rw [if_neg (show ¬ (20 : Int32) ≤ nI i from nI_ge (b := 20) hlt (by omega)), bind_s, show nI i / (2 : Int32) = nI (i / 2) from pk_div (d := 2) (by omega) (by omega) (by omega), h1.2.1, hasBit_eq m (by omega), bind_s, ite10, nI_1, hasBit_eq _ (show i < 32 by omega), bind_s, ite10, e]
      by_cases hb : bt m (i / 2) = true
      · rw [if_pos hb]
        rw [hb] at hsi
        rw [if_neg (show ¬ bt (scd s.1 m) i = true by rw [hsi]; simp)]
        refine ⟨_, hlt, rfl, _, rfl, ⟨?_, ?_, ?_, ?_⟩, ?_, ?_, ?_⟩
        · rw [sc_row_ne _ _ (by decide), sc_row_ne _ _ (by decide)]; exact h1.1
        · rw [sc_row_ne _ _ (by decide)]; exact h1.2.1
        · rw [sc_row_ne _ _ (by decide)]; exact h1.2.2.1
        · rw [sc_row_ne _ _ (by decide)]; exact h1.2.2.2
        · intro j hj
          rw [sc_same, bt_and, bt_not _ hj, bt_one i (by omega) j hj, h2 j hj]
          by_cases e2 : j = i
          · rw [e2, hb, decide_eq_true rfl, decide_eq_true (Nat.lt_succ_self i)]
            simp
          · rw [decide_eq_false e2]
            have e3 : decide (j < i + 1) = decide (j < i) := by
              by_cases q : j < i
              · rw [decide_eq_true q, decide_eq_true (by omega)]
              · rw [decide_eq_false q, decide_eq_false (by omega)]
            rw [e3]
            simp
        · intro k a1 a2 a3 a4 a5
          rw [sc_row_ne _ _ a5, h3 k a1 a2 a3 a4 a5]
        · exact h5
      · have hbf := Bool.eq_false_iff.mpr hb
        rw [if_neg hb]
        rw [hbf] at hsi
        have hst : ∀ j, j < 32 → (bt (orm s.1 m 10) j && !(decide (j < i) && bt m (j / 2))) = (bt (orm s.1 m 10) j && !(decide (j < i + 1) && bt m (j / 2))) := by
          intro j hj
          by_cases e2 : j = i
          · rw [e2, hbf]
            simp
          · have e3 : decide (j < i + 1) = decide (j < i) := by
              by_cases q : j < i
              · rw [decide_eq_true q, decide_eq_true (by omega)]
              · rw [decide_eq_false q, decide_eq_false (by omega)]
            rw [e3]
        by_cases ho : bt (b 4 0) i = true
        · rw [if_pos ho]
          rw [hbi] at ho
          rw [if_pos (show bt (scd s.1 m) i = true by rw [hsi]; exact ho)]
          obtain ⟨Q2, e2, g1, g2⟩ := c_sc1 h w h1 h5 hlt
          rw [e2, bind_s]
          refine ⟨_, hlt, rfl, Q2, rfl, g1, fun j hj => ?_, fun k a1 a2 a3 a4 a5 => by rw [g2 k a1 a2 a3 a4, h3 k a1 a2 a3 a4 a5], fx_sc1 w h5⟩
          rw [g2 4 (by decide) (by decide) (by decide) (by decide), h2 j hj, hst j hj]
        · rw [if_neg ho]
          rw [hbi] at ho
          rw [if_neg (show ¬ bt (scd s.1 m) i = true by rw [hsi]; exact ho)]
          exact ⟨_, hlt, rfl, b, rfl, h1, fun j hj => by rw [h2 j hj, hst j hj], h3, h5⟩
    · right
      have hi2 : i = 20 := by omega
      subst hi2
      rw [if_pos (by decide)]
      exact ⟨b, rfl, h1, bt_ext (fun j hj => by rw [h2 j hj, bt_scd hm20 hj]), h3, h5⟩
  obtain ⟨b, e, hb⟩ := key
  refine ⟨b, ?_, hb⟩
  unfold sX3_scanCards
  rw [e1, bind_s, e]
  rfl
/-! the reference scans every cell and every thing -/
def Uq (h : IA) : Prop := ∀ t u, t < 32 → u < 32 → ¬ h 4 t ≤ 0 → ¬ h 4 u ≤ 0 → h 5 t = h 5 u → h 6 t = h 6 u → t = u
def sb (h : IA) (m : Int32) (card cell t : Nat) (X : List Int32) : List Int32 := if h 4 t ≤ 0 then X else if nI (cdo h t) = nI card then (if h 6 t = nI cell then ff h m t X else X) else X
theorem sb_card {s : HS} (w : Wf s) {card cell t : Nat} (hc : card < 20) (hl : cell < 8) (ht : t < 32) (h1 : nI (cdo s.1 t) = nI card) (h2 : s.1 6 t = nI cell) : cell / 4 = card % 2 ∧ s.1 5 t = nI (card / 2) := by
  have hp := w.pl ht
  have hce := w.ce ht
  have := cdo_lt w ht
  rw [nI_eq (by omega) (by omega)] at h1
  rw [hce.1, nI_eq (by omega) (by omega)] at h2
  unfold cdo at h1
  refine ⟨by omega, ?_⟩
  rw [hp.1]
  congr 1
  omega
theorem sb_all {s : HS} (w : Wf s) (hu : Uq s.1) {m : Int32} {card cell : Nat} (hc : card < 20) (hl : cell < 8) (X : List Int32) : it (sb s.1 m card cell) 32 X = if cell / 4 = card % 2 then mt s.1 m (card / 2) cell X else X := by
  have none_of : (∀ t, t < 32 → ¬ (¬ s.1 4 t ≤ 0 ∧ nI (cdo s.1 t) = nI card ∧ s.1 6 t = nI cell)) → ∀ n, n ≤ 32 → it (sb s.1 m card cell) n X = X := by
    intro hn n
    induction n with
    | zero => intro _; rfl
    | succ n ih =>
      intro h2
      show sb s.1 m card cell n (it (sb s.1 m card cell) n X) = X
      rw [ih (by omega)]
      unfold sb
      split
      · rfl
      · next q1 =>
        split
        · next q2 =>
          split
          · next q3 => exact absurd ⟨q1, q2, q3⟩ (hn n (by omega))
          · rfl
        · rfl
  by_cases e : cell / 4 = card % 2
  · rw [if_pos e]
    have cnv : ∀ t, t < 32 → ((¬ s.1 4 t ≤ 0 ∧ nI (cdo s.1 t) = nI card ∧ s.1 6 t = nI cell) ↔ tc s.1 (card / 2) cell t) := by
      intro t ht
      constructor
      · rintro ⟨q1, q2, q3⟩
        exact ⟨q1, (sb_card w hc hl ht q2 q3).2, q3⟩
      · rintro ⟨q1, q2, q3⟩
        refine ⟨q1, ?_, q3⟩
        have hp := w.pl ht
        have hce := w.ce ht
        rw [hp.1, nI_eq (by omega) (by omega)] at q2
        rw [hce.1, nI_eq (by omega) (by omega)] at q3
        congr 1
        unfold cdo
        omega
    unfold mt
    cases et : tat s.1 (card / 2) cell with
    | none =>
      exact none_of (fun t ht q => tatF_none s.1 (card / 2) cell 32 0 et t (by omega) (by omega) ((cnv t ht).mp q)) 32 (Nat.le_refl _)
    | some u =>
      have hu2 := tatF_some s.1 (card / 2) cell 32 0 u et
      have hu3 := (cnv u (by omega)).mpr hu2.2.2
      have one_of : ∀ n, n ≤ 32 → it (sb s.1 m card cell) n X = if u < n then ff s.1 m u X else X := by
        intro n
        induction n with
        | zero => intro _; rw [if_neg (Nat.not_lt_zero u)]; rfl
        | succ n ih =>
          intro hn
          show sb s.1 m card cell n (it (sb s.1 m card cell) n X) = _
          rw [ih (by omega)]
          by_cases e2 : u = n
          · subst e2
            rw [if_neg (Nat.lt_irrefl u), if_pos (Nat.lt_succ_self u)]
            unfold sb
            rw [if_neg hu3.1, if_pos hu3.2.1, if_pos hu3.2.2]
          · have e3 : (if u < n + 1 then ff s.1 m u X else X) = if u < n then ff s.1 m u X else X := by
              by_cases q : u < n
              · rw [if_pos q, if_pos (by omega)]
              · rw [if_neg q, if_neg (by omega)]
            rw [e3]
            unfold sb
            split
            · rfl
            · next q1 =>
              split
              · next q2 =>
                split
                · next q3 =>
                  have hn2 := (cnv n (by omega)).mp ⟨q1, q2, q3⟩
                  exact absurd (hu u n (by omega) (by omega) hu2.2.2.1 hn2.1 (by rw [hu2.2.2.2.1, hn2.2.1]) (by rw [hu2.2.2.2.2, hn2.2.2])) e2
                · rfl
              · rfl
      show it (sb s.1 m card cell) 32 X = ff s.1 m u X
      rw [one_of 32 (Nat.le_refl _), if_pos (by omega)]
  · rw [if_neg e]
    exact none_of (fun t ht q => e (sb_card w hc hl ht q.2.1 q.2.2).1) 32 (Nat.le_refl _)
theorem sc1_8 (h : IA) (m : Int32) (card : Nat) (X : List Int32) : it (fun cell X => if cell / 4 = card % 2 then mt h m (card / 2) cell X else X) 8 X = sc1 h m card X := by
  unfold sc1
  rcases (show card % 2 = 0 ∨ card % 2 = 1 by omega) with e | e
  · rw [e]; rfl
  · rw [e]; rfl
theorem fx_sb {s : HS} (w : Wf s) {m : Int32} {card cell t : Nat} (ht : t < 32) {X : List Int32} (hx : FX X) : FX (sb s.1 m card cell t X) := by
  unfold sb
  split
  · exact hx
  · split
    · split
      · exact fx_ff w ht hx
      · exact hx
    · exact hx
theorem m_sc1 {M : IA} {s : HS} (h : MR (M 1) s) (w : Wf s) (hu : Uq s.1) {m : Int32} {X : List Int32} (hq : PM M s.1 m X) (hx : FX X) {card : Nat} (hc : card < 20) : ∃ N, sX7_scans M (nI card) = some N ∧ PM N s.1 m (sc1 s.1 m card X) ∧ FM M N := by
  have hp : ∀ t, t < 32 → s.1 5 t = nI (pP s.1 t) ∧ pP s.1 t < 10 := fun t ht => w.pl ht
  obtain ⟨B, e, hB, _⟩ := for_rel (step := sX7_scans_L2 (nI card)) (fun cell X => if cell / 4 = card % 2 then mt s.1 m (card / 2) cell X else X) (fun X x => PM x s.1 m X ∧ FM M x) (fun _ X => FX X) 8 (by omega)
    (fun cell X x hl hX hr => by
      obtain ⟨B, e, hB, hF⟩ := for_rel (step := sX7_scans_L10 (nI card) (nI cell, x)) (sb s.1 m card cell) (fun X x => PM x s.1 m X ∧ FM M x) (fun _ X => FX X) 32 (by omega)
        (fun t X y ht hX hr => by
          have hy : MR (y 1) s := by rw [hr.2 1 (by decide) (by decide) (by decide)]; exact h
          unfold sX7_scans_L10
          dsimp +instances only
          rw [if_neg (show ¬ (32 : Int32) ≤ nI t from nI_ge (b := 32) ht (by omega)), m_there hy ht, bind_s, ite01, nI_1, m_card hy w ht, bind_s, m_cl hy ht, bind_s]
          have hfx := fx_sb w (m := m) (card := card) (cell := cell) ht hX
          unfold sb at hfx ⊢
          by_cases h1 : s.1 4 t ≤ 0
          · rw [if_pos h1] at hfx ⊢
            rw [if_pos h1]
            exact ⟨y, rfl, hr, hfx⟩
          · rw [if_neg h1] at hfx ⊢
            rw [if_neg h1]
            by_cases h2 : nI (cdo s.1 t) = nI card
            · rw [if_pos h2] at hfx ⊢
              rw [if_pos h2]
              by_cases h3 : s.1 6 t = nI cell
              · rw [if_pos h3] at hfx ⊢
                rw [if_pos h3]
                obtain ⟨N1, e1, g1, f1⟩ := m_find hp hr.1 hX (w.2.1 (2 * t) (by omega))
                have hN1 : MR (N1 1) s := by rw [f1 1 (by decide) (by decide) (by decide)]; exact hy
                obtain ⟨N2, e2, g2, f2⟩ := m_find hp g1 (fx_fd hX (w.2.1 (2 * t) (by omega))) (w.2.1 (2 * t + 1) (by omega))
                rw [m_f0 hy ht h1, bind_s, e1, bind_s, m_f1 hN1 ht h1, bind_s, e2, bind_s]
                exact ⟨N2, rfl, ⟨g2, (hr.2.trans f1).trans f2⟩, hfx⟩
              · rw [if_neg h3] at hfx ⊢
                rw [if_neg h3]
                exact ⟨y, rfl, hr, hfx⟩
            · rw [if_neg h2] at hfx ⊢
              rw [if_neg h2]
              exact ⟨y, rfl, hr, hfx⟩)
        (fun X y _ _ => by
          unfold sX7_scans_L10
          dsimp +instances only
          rw [if_pos (show (32 : Int32) ≤ nI 32 by decide)]) (s := X) hX hr
      rw [sb_all w hu hc hl] at hB hF
      unfold sX7_scans_L2
      dsimp +instances only
      rw [if_neg (show ¬ (8 : Int32) ≤ nI cell from nI_ge (b := 8) hl (by omega)), e, bind_s, nI_1]
      exact ⟨B, rfl, hB, hF⟩)
    (fun X x _ _ => by
      unfold sX7_scans_L2
      dsimp +instances only
      rw [if_pos (show (8 : Int32) ≤ nI 8 by decide)]) (s := X) hx ⟨hq, FM.refl M⟩
  rw [sc1_8] at hB
  refine ⟨B, ?_, hB.1, hB.2⟩
  unfold sX7_scans
  rw [e]
  rfl
