/-! ===== 56 marking ends: what it keeps ===== -/
theorem bc_n {s : HS} (w : Wf s) (r : Nat) : ∀ k, k ≤ 32 → ∃ n, n ≤ 24 * k ∧ sm (bcf s.1 r) k = nI n ∧ ∀ t, t < k → lv s.1 t → s.1 5 t = nI r → s.1 8 t = 2 → zn s.1 t ≤ n := by
  intro k
  induction k with
  | zero => intro _; exact ⟨0, Nat.zero_le _, rfl, fun t ht => absurd ht (Nat.not_lt_zero t)⟩
  | succ k ih =>
    intro hk
    obtain ⟨n, hn, e, hb'⟩ := ih (by omega)
    have hz := zn_eq w (show k < 32 by omega)
    have h0 : (0 : Int32) = nI 0 := rfl
    have keep : (¬ (lv s.1 k ∧ s.1 5 k = nI r ∧ s.1 8 k = 2)) → bcf s.1 r k = 0 → ∃ n, n ≤ 24 * (k + 1) ∧ sm (bcf s.1 r) (k + 1) = nI n ∧ ∀ t, t < k + 1 → lv s.1 t → s.1 5 t = nI r → s.1 8 t = 2 → zn s.1 t ≤ n := by
      intro hno hz0
      refine ⟨n, by omega, ?_, fun t ht a b c => ?_⟩
      · show sm (bcf s.1 r) k + bcf s.1 r k = nI n
        rw [e, hz0, Int32.add_zero]
      · by_cases et : t = k
        · subst et; exact absurd ⟨a, b, c⟩ hno
        · exact hb' t (by omega) a b c
    unfold bcf at keep
    by_cases h1 : s.1 4 k ≤ 0
    · exact keep (fun q => q.1 h1) (by rw [if_pos h1])
    · by_cases h2 : s.1 5 k = nI r
      · by_cases h3 : s.1 8 k = 2
        · refine ⟨n + zn s.1 k, by omega, ?_, fun t ht a b c => ?_⟩
          · show sm (bcf s.1 r) k + bcf s.1 r k = nI (n + zn s.1 k)
            unfold bcf at e ⊢
            rw [e, if_neg h1, if_pos h2, if_pos h3, hz.1, nI_add]
          · by_cases et : t = k
            · subst et; omega
            · have := hb' t (by omega) a b c; omega
        · exact keep (fun q => h3 q.2.2) (by rw [if_neg h1, if_pos h2, if_neg h3])
      · exact keep (fun q => h2 q.2.1) (by rw [if_neg h1, if_neg h2])
theorem bc_nat {s : HS} (w : Wf s) (r : Nat) : ∃ n, n ≤ 768 ∧ bc s.1 r = nI n ∧ ∀ t, t < 32 → lv s.1 t → s.1 5 t = nI r → s.1 8 t = 2 → zn s.1 t ≤ n := bc_n w r 32 (Nat.le_refl _)
theorem bc_black {s : HS} (w : Wf s) {r t : Nat} (ht : t < 32) (hl : lv s.1 t) (h5 : s.1 5 t = nI r) (h8 : s.1 8 t = 2) : bc s.1 r ≠ 0 := by
  obtain ⟨n, hn, e, h⟩ := bc_nat w r
  have h1 := h t ht hl h5 h8
  have h2 := (lv_zn w ht).mp hl
  rw [e]
  exact nI_ne0 (by omega) (by omega)
/-- the state while marking ends -/
def J (s : HS) : Prop := I1 s ∧ Ly s.1 ∧ s.2.2 = [] ∧ (∀ q, q < 6 → s.1 9 q = -5 ∨ s.1 8 (s.1 9 q).toNatClampNeg = 2) ∧ s.1 12 0 = 0
theorem i1_rows {s q : HS} (h : I1 s) (hr : ∀ k, k ≠ 2 → k < 10 → q.1 k = s.1 k) (h2 : ∀ r, r < 10 → q.1 2 r = -9 ∨ Rg 769 (q.1 2 r)) (hG : q.2 = s.2) : I1 q := by
  obtain ⟨w, hT, hL, hU, hV, hR⟩ := h
  refine ⟨wf_same w (hr 4 (by decide) (by decide)) (hr 5 (by decide) (by decide)) (hr 6 (by decide) (by decide)) (hr 7 (by decide) (by decide)) (hr 8 (by decide) (by decide)) (hr 9 (by decide) (by decide)) hG, fun r hr' => ?_, ?_, ?_, ?_, ?_⟩
  · rw [hr 0 (by decide) (by decide), hr 1 (by decide) (by decide), hr 3 (by decide) (by decide)]
    have := hT r hr'
    exact ⟨this.1, this.2.1, h2 r hr', this.2.2.2⟩
  · unfold Lies lv tp zn pP pC
    rw [hr 0 (by decide) (by decide), hr 1 (by decide) (by decide), hr 4 (by decide) (by decide), hr 5 (by decide) (by decide), hr 6 (by decide) (by decide)]
    exact hL
  · unfold Uq
    rw [hr 4 (by decide) (by decide), hr 5 (by decide) (by decide), hr 6 (by decide) (by decide)]
    exact hU
  · unfold Lvs lv
    rw [hr 4 (by decide) (by decide), hr 7 (by decide) (by decide), hr 9 (by decide) (by decide), hG]
    exact hV
  · unfold RS lv cdo pP pC
    rw [hr 0 (by decide) (by decide), hr 3 (by decide) (by decide), hr 4 (by decide) (by decide), hr 5 (by decide) (by decide), hr 6 (by decide) (by decide), hr 7 (by decide) (by decide), hG]
    exact hR
theorem j_ea {s : HS} (h : J s) {r : Nat} (hr : r < 10) : J (ea1 r s) := by
  unfold ea1
  split
  · obtain ⟨hI, hY, hG, hB, hM⟩ := h
    refine ⟨i1_rows hI (fun k hk _ => wr_row_ne _ _ _ hk) (fun q hq => ?_) rfl, ?_, hG, hB, hM⟩
    · show wr s.1 2 r (bc s.1 r) 2 q = -9 ∨ Rg 769 (wr s.1 2 r (bc s.1 r) 2 q)
      rw [wr_at]
      split
      · obtain ⟨n, hn, e, _⟩ := bc_nat hI.1 r
        exact Or.inr ⟨n, by omega, e⟩
      · exact (hI.2.1 q hq).2.2.1
    · exact hY
  · exact h
theorem j_fr1 {s : HS} (h : J s) {r : Nat} (hr : r < 10) (hno : ∀ t, t < 32 → lv s.1 t → pP s.1 t ≠ r) (hk : s.1 0 r ≠ 1) : J (fr1 r s) := by
  obtain ⟨hI, hY, hG, hB, hM⟩ := h
  refine ⟨i1_fr1 hI hr hno, ?_, by rw [fr1_2]; exact hG, ?_, by rw [fr1_row r s (by decide)]; exact hM⟩
  · unfold Ly
    rw [fr1_row r s (by decide)]
    rcases hY with q | ⟨q, hq, e1, e2⟩
    · exact Or.inl q
    · refine Or.inr ⟨q, hq, e1, ?_⟩
      have hne : q ≠ r := fun e => hk (by rw [← e]; exact e2)
      rw [fr1_at, if_neg (by omega), if_neg (by omega), if_neg (by omega), if_neg (by omega), if_neg (by omega)]
      exact e2
  · rw [fr1_row r s (show 4 ≤ 9 by decide), fr1_row r s (show 4 ≤ 8 by decide)]
    exact hB
theorem j_fwl : ∀ (n e : Nat) (s : HS), J s → J (fwl n e s) := by
  intro n
  induction n with
  | zero => intro e s h; exact h
  | succ n ih =>
    intro e s h
    unfold fwl
    split
    · next he =>
      split
      · next h4 =>
        refine ih _ _ (j_fr1 h he (fun t ht hl q => ?_) (by rw [h4]; decide))
        have := (h.1.2.2.1 t ht hl).1
        rw [q, h4] at this
        exact this.elim (fun z => absurd z (by decide)) (fun z => z.elim (fun z => absurd z (by decide)) (fun z => absurd z (by decide)))
      · exact h
    · exact h
theorem j_eb {s : HS} (h : J s) {r : Nat} (hr : r < 10) : J (eb1 r s) := by
  unfold eb1
  split
  · next hc =>
    obtain ⟨hI, hY, hG, hB, hM⟩ := h
    have h1 : I1 (em r (fun _ => false) s) := by
      refine i1_em hI (fun q hq => ?_) (fun x hx => by rw [hG] at hx; exact absurd hx List.not_mem_nil)
      by_cases h5 : s.1 9 q = -5
      · exact Or.inl h5
      · right
        intro hd
        obtain ⟨u, hu, eu, ec⟩ := nl_cl (hI.1.2.2.1 q hq) h5
        have h8 := (hB q hq).resolve_left h5
        rw [ec] at hd h8
        exact bc_black hI.1 hu hd.1 hd.2.1 h8 hc.2
    have hno : ∀ t, t < 32 → lv (em r (fun _ => false) s).1 t → pP (em r (fun _ => false) s).1 t ≠ r := fun t ht hl q => by
      have h5 : (em r (fun _ => false) s).1 5 t = nI r := by rw [(h1.1.pl ht).1, q]
      exact Bool.noConfusion (em_left ht hl h5)
    obtain ⟨D2, row, _, _⟩ := em_all r (fun _ => false) s
    generalize em r (fun _ => false) s = q at h1 hno D2 row ⊢
    have hJ : J q := by
      refine ⟨h1, ?_, by rw [D2]; exact hG, ?_, by rw [row 12 (by decide) (by decide)]; exact hM⟩
      · unfold Ly
        rw [row 13 (by decide) (by decide), row 0 (by decide) (by decide)]; exact hY
      · rw [row 9 (by decide) (by decide), row 8 (by decide) (by decide)]; exact hB
    have hk : q.1 0 r ≠ 1 := by
      rw [row 0 (by decide) (by decide)]
      exact hc.1.elim (fun z => by rw [z]; decide) (fun z => by rw [z]; decide)
    have hJ2 := j_fr1 hJ hr hno hk
    unfold fw
    split
    · exact j_fwl _ _ _ hJ2
    · exact hJ2
  · exact h
theorem j_ends {s : HS} (h1 : I1 s) (hY : Ly s.1) (hG : s.2.2 = []) (hB : ∀ q, q < 6 → s.1 9 q = -5 ∨ s.1 8 (s.1 9 q).toNatClampNeg = 2) : J (ends s) := by
  have h0 : J (wr s.1 12 0 0, s.2) := ⟨i1_rows h1 (fun k _ hk => wr_row_ne _ _ _ (by omega)) (fun r hr => (h1.2.1 r hr).2.2.1) rfl, hY, hG, hB, by show wr s.1 12 0 0 12 0 = 0; rw [wr_at, if_pos ⟨rfl, rfl⟩]⟩
  unfold ends
  exact it_inv (fun _ q => J q) 10 (it_inv (fun _ q => J q) 10 h0 (fun i q hi h => j_ea h hi)) (fun i q hi h => j_eb h hi)
theorem j_inv {s : HS} (h : J s) : Inv s := by
  obtain ⟨hI, hY, hG, hB, hM⟩ := h
  refine ⟨⟨hI.1, hI.2.1, hI.2.2.1, hI.2.2.2.1, hI.2.2.2.2.1, Or.inl ⟨hM, hG⟩, hY⟩, hI.2.2.2.2.2, fun q => ?_⟩
  rw [hM] at q
  exact absurd q (by decide)
/-! becoming grey -/
theorem gr_D (v : Int32) (s : HS) : (gr v s).2.1 = s.2.1 := by
  unfold gr
  split
  · rfl
  · split
    · rfl
    · rfl
theorem gr_G {v x : Int32} {s : HS} (h : x ∈ s.2.2) : x ∈ (gr v s).2.2 := by
  unfold gr
  split
  · exact h
  · split
    · exact List.mem_append_left _ h
    · exact h
theorem gr_G2 {v x : Int32} {s : HS} (h : x ∈ (gr v s).2.2) : x ∈ s.2.2 ∨ (x = v ∧ v ≠ -5) := by
  unfold gr at h
  split at h
  · exact Or.inl h
  · next h5 =>
    split at h
    · rcases List.mem_append.mp h with q | q
      · exact Or.inl q
      · exact Or.inr ⟨List.mem_singleton.mp q, h5⟩
    · exact Or.inl h
theorem gry_new {v : Int32} {s : HS} (h5 : v ≠ -5) (h0 : s.1 8 v.toNatClampNeg = 0) : v ∈ (gr v s).2.2 := by
  unfold gr
  rw [if_neg h5, if_pos h0]
  exact List.mem_append_right _ (List.mem_singleton.mpr rfl)
theorem gr_col {v : Int32} {s : HS} (hv : Nl v) {t : Nat} (ht : t < 32) : (gr v s).1 8 t = s.1 8 t ∨ (s.1 8 t = 0 ∧ (gr v s).1 8 t = 1 ∧ nI t ∈ (gr v s).2.2) := by
  unfold gr
  split
  · exact Or.inl rfl
  · next h5 =>
    split
    · next h0 =>
      obtain ⟨u, hu, eu, ec⟩ := nl_cl hv h5
      rw [ec] at h0 ⊢
      show wr s.1 8 u 1 8 t = s.1 8 t ∨ (s.1 8 t = 0 ∧ wr s.1 8 u 1 8 t = 1 ∧ nI t ∈ s.2.2 ++ [v])
      rw [wr_at]
      by_cases e : t = u
      · subst e
        rw [if_pos ⟨rfl, rfl⟩]
        exact Or.inr ⟨h0, rfl, List.mem_append_right _ (List.mem_singleton.mpr eu.symm)⟩
      · rw [if_neg (fun q => e q.2)]; exact Or.inl rfl
    · exact Or.inl rfl
theorem i1_gr {s : HS} (h : I1 s) {v : Int32} (hv : Nl v) (hl : v = -5 ∨ lv s.1 v.toNatClampNeg) : I1 (gr v s) := by
  obtain ⟨w, hT, hL, hU, hV, hR⟩ := h
  have r0 := gr_row v s (show 0 ≠ 8 by decide)
  have r1 := gr_row v s (show 1 ≠ 8 by decide)
  have r2 := gr_row v s (show 2 ≠ 8 by decide)
  have r3 := gr_row v s (show 3 ≠ 8 by decide)
  have r4 := gr_row v s (show 4 ≠ 8 by decide)
  have r5 := gr_row v s (show 5 ≠ 8 by decide)
  have r6 := gr_row v s (show 6 ≠ 8 by decide)
  have r7 := gr_row v s (show 7 ≠ 8 by decide)
  have r9 := gr_row v s (show 9 ≠ 8 by decide)
  refine ⟨wf_gr w hv, ?_, ?_, ?_, ?_, ?_⟩
  · unfold Tops
    rw [r0, r1, r2, r3]; exact hT
  · unfold Lies lv tp zn pP pC
    rw [r0, r1, r4, r5, r6]; exact hL
  · unfold Uq
    rw [r4, r5, r6]; exact hU
  · unfold Lvs lv
    rw [r4, r7, r9]
    refine ⟨hV.1, hV.2.1, fun x hx => ?_⟩
    rcases gr_G2 hx with q | q
    · exact hV.2.2 x q
    · rw [q.1]; exact hl.resolve_left q.2
  · unfold RS lv cdo pP pC
    rw [r0, r3, r4, r5, r6, r7, gr_D]; exact hR
