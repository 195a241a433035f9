/-! ===== 53 a pause from end to end, both sides ===== -/
theorem rt1_row (c t : Nat) (s : HS) {k : Nat} (hk : k ≠ 3) : (rt1 c t s).1 k = s.1 k := by
  unfold rt1
  split
  · rfl
  · split
    · rw [nt_row _ _ _ hk, nt_row _ _ _ hk]
    · rfl
theorem rf_row (c : Nat) (s : HS) {k : Nat} (hk : k ≠ 3) : (rf c s).1 k = s.1 k := by
  unfold rf
  exact it_inv (fun _ (q : HS) => q.1 k = s.1 k) 32 rfl (fun i q _ h => by rw [rt1_row c i q hk]; exact h)
theorem m20_nt {c : Nat} (hc : c < 20) {v : Int32} {s : HS} (h : ∀ r, r < 10 → M20 (s.1 3 r)) : ∀ r, r < 10 → M20 ((nt c v s).1 3 r) := by
  intro r hr
  unfold nt
  split
  · exact h r hr
  · split
    · exact h r hr
    · show M20 (wr s.1 3 (pP s.1 v.toNatClampNeg) _ 3 r)
      rw [wr_at]
      split
      · next e => exact (by rw [← e.2]; exact (h r hr).or (M20.one hc))
      · exact h r hr
theorem m20_rf {c : Nat} (hc : c < 20) {s : HS} (h : ∀ r, r < 10 → M20 (s.1 3 r)) : ∀ r, r < 10 → M20 ((rf c s).1 3 r) := by
  unfold rf
  refine it_inv (fun _ (q : HS) => ∀ r, r < 10 → M20 (q.1 3 r)) 32 h (fun i q _ h => ?_)
  unfold rt1
  split
  · exact h
  · split
    · exact m20_nt hc (m20_nt hc h)
    · exact h
theorem st_row3 {s q : HS} (h : St s) (w : Wf q) (hr : ∀ k, k ≠ 3 → q.1 k = s.1 k) (hm : ∀ r, r < 10 → M20 (q.1 3 r)) (hG : q.2.2 = s.2.2) : St q := by
  obtain ⟨_, hT, hL, hU, hV, hM, hY⟩ := h
  refine ⟨w, fun r hr' => ?_, ?_, ?_, ?_, ?_, ?_⟩
  · rw [hr 0 (by decide), hr 1 (by decide), hr 2 (by decide)]
    have := hT r hr'
    exact ⟨this.1, this.2.1, this.2.2.1, hm r hr', this.2.2.2.2⟩
  · unfold Lies lv tp zn pP pC
    rw [hr 0 (by decide), hr 1 (by decide), hr 4 (by decide), hr 5 (by decide), hr 6 (by decide)]
    exact hL
  · unfold Uq
    rw [hr 4 (by decide), hr 5 (by decide), hr 6 (by decide)]
    exact hU
  · unfold Lvs lv
    rw [hr 4 (by decide), hr 7 (by decide), hr 9 (by decide), hG]
    exact hV
  · unfold Mk
    rw [hr 12 (by decide), hG]
    exact hM
  · unfold Ly
    rw [hr 0 (by decide), hr 13 (by decide)]
    exact hY
theorem st_m20 {s : HS} (h : St s) : ∀ r, r < 10 → M20 (s.1 3 r) := fun r hr => (h.2.1 r hr).2.2.2.1
theorem st_rf {s : HS} (h : St s) {c : Nat} (hc : c < 20) : St (rf c s) := st_row3 h (wf_rf h.1) (fun k hk => rf_row c s hk) (m20_rf hc (st_m20 h)) (by rw [rf_2])
theorem st_rfn : ∀ (n : Nat) (s : HS), St s → St (rfn n s) := by
  intro n
  induction n with
  | zero => intro s h; exact h
  | succ n ih =>
    intro s h
    unfold rfn
    split
    · exact h
    · next hd =>
      obtain ⟨c, D, hc, eD, ehd⟩ := hd_ex h.1 hd
      rw [ehd]
      exact ih _ (st_rf h hc)
theorem st_g8 {s : HS} (h : St s) : ∀ r, r < 10 → gi s.1 r ≤ 8 := by
  intro r hr
  unfold gi
  by_cases e : s.1 0 r = 2 ∧ s.1 2 r ≠ -9
  · rw [if_pos e]
    have hT := h.2.1 r hr
    have htp := tp_eq h.2.1 hr
    obtain ⟨l, hl, el⟩ := hT.2.2.1.resolve_left e.2
    rw [htp.1, el]
    have : (nI (tp s.1 r) - nI l).toInt = (tp s.1 r : Int) - (l : Int) := by
      rw [Int32.toInt_sub, nI_toInt (by omega), nI_toInt (by omega)]
      rw [Int.bmod_eq_of_le]
      · omega
      · omega
    rw [this]
    omega
  · rw [if_neg e]; omega
theorem chs_bits (h : IA) (rate goal : UInt32) : ∀ (L : List Nat) (x : Int32 × UInt32) (r : Nat), (∀ y, y ∈ L → y < 10) → r < 32 → bt (chs h rate goal L x).1 r = true → bt x.1 r = true ∨ r ∈ L := by
  intro L
  induction L with
  | nil => intro x r _ _ q; exact Or.inl q
  | cons y L ih =>
    intro x r hL hr q
    rw [chs_cons] at q
    split at q
    · rcases ih _ r (fun y hy => hL y (List.mem_cons_of_mem _ hy)) hr q with w | w
      · have w2 : bt (x.1 ||| (1 <<< (nI y &&& 31))) r = true := w
        rw [bt_or, Bool.or_eq_true, bt_one y (by have := hL y List.mem_cons_self; omega) r hr, decide_eq_true_eq] at w2
        exact w2.elim Or.inl (fun e => Or.inr (by rw [e]; exact List.mem_cons_self))
      · exact Or.inr (List.mem_cons_of_mem _ w)
    · exact Or.inl q
theorem chz_chm (h : IA) (rate yl goal : UInt32) : Chm h (chz h rate yl goal).1 := by
  intro r hr q
  unfold chz at q
  rcases chs_bits h rate goal (Lo h 7) _ r (fun y hy => ((mem_Lo h 7 y).mp hy).1) (by omega) q with w | w
  · exact Or.inl ((bt_yg h 10 (Nat.le_refl _) r (by omega)).mp w).2
  · have := ((mem_Lo h 7 r).mp w).2.1
    unfold gi at this
    split at this
    · next e => exact Or.inr e.1
    · omega
/-- young regions are chosen -/
theorem chz_young (h : IA) (rate yl goal : UInt32) {r : Nat} (hr : r < 10) (hk : h 0 r = 1) : bt (chz h rate yl goal).1 r = true := by
  have mono : ∀ (L : List Nat) (x : Int32 × UInt32), bt x.1 r = true → bt (chs h rate goal L x).1 r = true := by
    intro L
    induction L with
    | nil => intro x q; exact q
    | cons y L ih =>
      intro x q
      rw [chs_cons]
      split
      · exact ih _ (by show bt (x.1 ||| _) r = true; rw [bt_or, q, Bool.true_or])
      · exact q
  exact mono _ _ ((bt_yg h 10 (Nat.le_refl _) r (by omega)).mpr ⟨hr, hk⟩)
def fin (s : HS) (c : Int32) : HS := (wr (wr (wr s.1 13 0 (-9)) 16 0 (s.1 16 0 + 1)) 17 0 c, s.2)
theorem c_run {A : IA} {s s1 : HS} (hA : CR A s) (hS : St s) (e1 : rfn 20 s = s1) (hS1 : St s1) {Fh : FA} {rate yl : UInt32} (h14 : Fh 14 0 = rate) (h15 : Fh 15 0 = yl) (goal : Int32) {m : Int32} {f : UInt32} (em : chz s1.1 rate yl (FP.i2f goal) = (m, f)) (hm : Chm s1.1 m) {X0 : List Int32} (eX : scA s1.1 m (scd s1.1 m) (x1st s1 m) = X0) {z : MS} {X : List Int32} (ez : mvl s1.1 m 32 0 ((s1, -9, 0, 0, 0), X0) = (z, X)) (hMI : MI s1 m z X X.length) {s2 : HS} (e2 : dC (scd s1.1 m) (dX X z.1) = s2) {s3 : HS} (e3 : swA m (bt z.2.2.1) s2 = s3) (hSL : StL (bt z.2.2.1) s2) {x w : Int32} (hx : sJ6_bitCount_0f7a4 (scd s1.1 m) = some x) (ew : z.2.2.2.1 + 2 * x + 5 * z.2.2.2.2 = w) (Q : IA) (Fp : FA) :
    ∃ Q' B Fp' Fh', sX3_run Q Fp A Fh goal = some (10 + w, Q', B, Fp', Fh') ∧ CR B (fin s3 (10 + w)) ∧ Fh' 14 0 = rtn rate w (smL (szf s1.1) X) ∧ Fh' 15 0 = rtn yl (smL (yof s1.1) X) (yg s1.1 10).2 := by
  obtain ⟨Q0, eQ0, q9, q3, q4, q5, q6, q7, q8⟩ : ∃ Q0, sX3_forgetLast Q = some Q0 ∧ Q0 9 0 = 0 ∧ Q0 3 0 = -9 ∧ Q0 4 0 = 0 ∧ Q0 5 0 = 0 ∧ Q0 6 0 = 0 ∧ Q0 7 0 = 0 ∧ Q0 8 0 = 0 := by
    unfold sX3_forgetLast
    rw [bd_eq, bd_eq, bd_eq, bd_eq, bd_eq, bd_eq, bd_eq]
    exact ⟨_, rfl, rfl, rfl, rfl, rfl, rfl, rfl, rfl⟩
  obtain ⟨A1, eA1, hA1⟩ := c_rfn 20 0 20 2000 s A hA hS.1 rfl (by omega) (by omega)
  rw [e1] at hA1
  have hch := c_choose hA1 Fh (Q0 10 0) (Q0 11 0) (Fp 12 0) goal (st_g8 hS1)
  rw [h14, h15, em] at hch
  have hq0 : PQ (sc (sc Q0 10 m) 11 (yg s1.1 10).2) s1.1 m [] := by
    refine ⟨⟨?_, Nat.zero_le _, fun i hi => absurd hi (Nat.not_lt_zero i)⟩, ?_, ?_, ?_⟩
    · rw [sc_row_ne _ _ (by decide), sc_row_ne _ _ (by decide), q9]; rfl
    · rw [sc_row_ne _ _ (by decide), sc_same]
    · rw [sc_row_ne _ _ (by decide), sc_row_ne _ _ (by decide), q5]; rfl
    · rw [sc_row_ne _ _ (by decide), sc_row_ne _ _ (by decide), q6]; rfl
  obtain ⟨Q1, eQ1, hq1, fq1⟩ := c_first hA1 hS1.1 hq0
  obtain ⟨Q2, eQ2, hq2, h4, fq2, hx0⟩ := c_scA hA1 hS1.1 (st_m20 hS1) hq1 (fx_x1 hS1.1 m) (by rw [fq1 4 (by decide) (by decide) (by decide) (by decide), sc_row_ne _ _ (by decide), sc_row_ne _ _ (by decide)]; exact q4)
  rw [eX] at hq2 hx0
  have f2 : ∀ k, k ≠ 1 → k ≠ 9 → k ≠ 5 → k ≠ 6 → k ≠ 4 → k ≠ 10 → k ≠ 11 → Q2 k = Q0 k := fun k a b c d e f g => by rw [fq2 k a b c d e, fq1 k a b c d, sc_row_ne _ _ g, sc_row_ne _ _ f]
  have hfl0 : FL s1.1 m X0 := by rw [← eX]; exact fl_scA hS1 hm (fl_x1 hS1 hm)
  have hmq : MvQ Q2 (s1, -9, 0, 0, 0) := ⟨by rw [f2 3 (by decide) (by decide) (by decide) (by decide) (by decide) (by decide) (by decide)]; exact q3, by rw [f2 8 (by decide) (by decide) (by decide) (by decide) (by decide) (by decide) (by decide)]; exact q8, by rw [f2 7 (by decide) (by decide) (by decide) (by decide) (by decide) (by decide) (by decide)]; exact q7⟩
  obtain ⟨Q3, A3, eQ3, hA3, hq3, hmq3, f3⟩ := c_mvl hS1 hm 32 0 2000 (s1, -9, 0, 0, 0) X0 Q2 A1 rfl (by omega) (mi_init hS1 hx0 hfl0) hA1 hq2 hmq
  rw [ez] at hA3 hq3 hmq3
  have h43 : Q3 4 0 = scd s1.1 m := by rw [f3 4 (by decide) (by decide) (by decide) (by decide) (by decide) (by decide) (by decide) (by decide)]; exact h4
  obtain ⟨A4, eA4, hA4⟩ := c_dirtied hA3 hMI.1.1 hMI.2.2.1.1 hq3.1 h43
  rw [e2] at hA4
  obtain ⟨A5, eA5, hA5⟩ := c_swept hA4 hq3.2.1 (st := bt z.2.2.1) (fun t _ => by rw [hmq3.2.1]) hSL
  rw [e3] at hA5
  have hcn : Cn z := by
    have q := cn_mvl hS1 hm 32 0 (s1, -9, 0, 0, 0) X0 (mi_init hS1 hx0 hfl0) (cn_0 s1 (-9))
    rw [ez] at q
    exact q
  have hcn2 : z.2.2.2.2 = nI (cb z.2.2.1 32) := hcn
  obtain ⟨A6, F6, eA6, hA6, r14, r15⟩ := c_cost hA5 (Q := Q3) (F := scF Fp 12 f) (Fh := Fh) (x := x) (y := z.2.2.2.2) (by rw [h43]; exact hx) (by rw [hmq3.2.1, bits32, hcn2])
  rw [hmq3.2.2, ew] at eA6 hA6 r14
  rw [hq3.2.2.1, h14] at r14
  rw [hq3.2.2.2, h15, f3 11 (by decide) (by decide) (by decide) (by decide) (by decide) (by decide) (by decide) (by decide), fq2 11 (by decide) (by decide) (by decide) (by decide) (by decide), fq1 11 (by decide) (by decide) (by decide) (by decide), sc_same] at r15
  refine ⟨Q3, A6, scF Fp 12 f, F6, ?_, hA6, r14, r15⟩
  unfold sX3_run
  have eRef : sX1_refineOldest A 20 = some (nI (0 + min 20 s.2.1.length), A1) := by
    unfold sX1_refineOldest
    rw [show loopN (sX1_refineOldest_L4 20) 2000 (0, 0, A) = some (nI (0 + min 20 s.2.1.length), A1) from by rw [← nI_0]; exact eA1]
    rfl
  have eMv : sX3_moveFound Q2 A1 = some (Q3, A3) := by
    unfold sX3_moveFound
    rw [show loopN sX3_moveFound_L2 2000 (0, Q2, A1) = some (Q3, A3) from by rw [← nI_0]; exact eQ3]
    rfl
  rw [eQ0, bind_s, eRef, bind_s, hch, bind_s, bd_eq, bd_eq, eQ1, bind_s, eQ2, bind_s, eMv, bind_s, eA4, bind_s, eA5, bind_s, eA6]
  rfl
