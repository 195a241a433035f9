/-! ===== 60 a pause keeps what holds of a heap ===== -/
def Sf (h : IA) (m : Int32) (X : List Int32) (t : Nat) : Prop := nI t ∈ X ∨ bt m (pP h t) = false
/-- sweeping, region by region: e is the heap before it, p the things that are safe -/
def Wp (e : HS) (m : Int32) (st : Nat → Bool) (p : Nat → Prop) (n : Nat) (q : HS) : Prop :=
  Iq p q ∧ (∀ k, 5 ≤ k → k ≠ 7 → q.1 k = e.1 k) ∧ q.2.2 = e.2.2 ∧ (∀ t, t < 32 → p t → q.1 4 t = e.1 4 t) ∧
  (∀ t, t < 32 → ¬ p t → lv q.1 t → n ≤ pP e.1 t) ∧ (∀ i, i < 64 → q.1 7 i = -5 ∨ q.1 7 i = e.1 7 i) ∧ (∀ i, i < 64 → ∀ u, u < 32 → p u → e.1 7 i = nI u → q.1 7 i = e.1 7 i) ∧
  ∀ r, n ≤ r → r < 10 → bt m r = true → q.1 0 r = 1 ∨ q.1 0 r = 2
theorem wp_sw {e : HS} {m : Int32} {st : Nat → Bool} {p : Nat → Prop} (hst : ∀ t, t < 32 → p t → bt m (pP e.1 t) = true → st t = true) (hp1 : ∀ t, t < 32 → ¬ p t → bt m (pP e.1 t) = true ∧ st t = false) (hroot : ∀ r, r < 6 → e.1 9 r = -5 ∨ p (e.1 9 r).toNatClampNeg) (hgrey : ∀ x, x ∈ e.2.2 → p x.toNatClampNeg) {n : Nat} {q : HS} (hn : n < 10) (h : Wp e m st p n q) : Wp e m st p (n + 1) (sw1 m st n q) := by
  obtain ⟨hI, hrow, hG, h4, hno, h7, h7p, hk⟩ := h
  have ep : ∀ t, pP q.1 t = pP e.1 t := fun t => by unfold pP; rw [hrow 5 (by decide) (by decide)]
  unfold sw1
  by_cases hb' : bt m n = true
  · rw [if_pos hb']
    have hdd : ∀ t, t < 32 → dd q n st t → ¬ p t := fun t ht hd hp => by
      have e1 : pP q.1 t = n := by unfold pP; rw [hd.2.1, nI_clamp (by omega)]
      have := hst t ht hp (by rw [← ep, e1]; exact hb')
      rw [hd.2.2] at this
      exact Bool.noConfusion this
    have hIe : Iq p (em n st q) := by
      refine iq_em hI (fun r hr => ?_) (fun x hx hd => ?_)
      · rw [hrow 9 (by decide) (by decide)]
        by_cases h5 : e.1 9 r = -5
        · exact Or.inl h5
        · right
          have hn9 := hI.1.2.2.1 r hr
          rw [hrow 9 (by decide) (by decide)] at hn9
          obtain ⟨u, hu, eu, ec⟩ := nl_cl hn9 h5
          intro hd
          rw [ec] at hd
          have := (hroot r hr).resolve_left h5
          rw [ec] at this
          exact hdd u hu hd this
      · obtain ⟨j, hj, ej⟩ := hI.1.2.2.2.2.2.1 x hx
        have hp := hgrey x (by rw [← hG]; exact hx)
        rw [ej, nI_clamp (show j < 2 ^ 31 by omega)] at hd hp
        exact hdd j hj hd hp
    obtain ⟨D2, row, r4, r7⟩ := em_all n st q
    have hleft : ∀ t, t < 32 → lv (em n st q).1 t → (em n st q).1 5 t = nI n → st t = true := fun t ht a b => em_left ht a b
    have hsi := hsB_iff st (em n st q).1 n 32
    generalize em n st q = w at hIe D2 row r4 r7 hleft hsi ⊢
    have w0 := row 0 (by decide) (by decide)
    have hlw : ∀ t, t < 32 → lv w.1 t → lv q.1 t := fun t ht a => by
      by_cases hd : dd q n st t
      · exact hd.1
      · unfold lv at a ⊢
        rw [(r4 t).2 (fun z => hd z.2)] at a
        exact a
    have w4 : ∀ t, t < 32 → p t → w.1 4 t = e.1 4 t := fun t ht hp => by
      rw [(r4 t).2 (fun z => hdd t ht z.2 hp)]; exact h4 t ht hp
    have w7 : ∀ i, i < 64 → w.1 7 i = -5 ∨ w.1 7 i = e.1 7 i := fun i hi => by
      by_cases a : ∃ u, u < 32 ∧ dd q n st u ∧ q.1 7 i = nI u
      · exact Or.inl ((r7 i hi).1 a)
      · rw [(r7 i hi).2 a]; exact h7 i hi
    have w7p : ∀ i, i < 64 → ∀ u, u < 32 → p u → e.1 7 i = nI u → w.1 7 i = e.1 7 i := fun i hi u hu hp eu => by
      have eq7 := h7p i hi u hu hp eu
      by_cases a : ∃ u, u < 32 ∧ dd q n st u ∧ q.1 7 i = nI u
      · obtain ⟨v, hv, hd, ev⟩ := a
        rw [eq7, eu, nI_eq (by omega) (by omega)] at ev
        rw [← ev] at hd
        exact absurd hp (hdd u hu hd)
      · rw [(r7 i hi).2 a]; exact eq7
    have wrow : ∀ k, 5 ≤ k → k ≠ 7 → w.1 k = e.1 k := fun k a b => by rw [row k (by omega) b, hrow k a b]
    have wno : ∀ t, t < 32 → ¬ p t → lv w.1 t → n + 1 ≤ pP e.1 t := fun t ht hnp hl => by
      have h1 := hno t ht hnp (hlw t ht hl)
      by_cases e2 : pP e.1 t = n
      · have h5 : w.1 5 t = nI n := by rw [(hIe.1.pl ht).1]; congr 1; unfold pP; rw [wrow 5 (by decide) (by decide)]; exact e2
        have := hleft t ht hl h5
        rw [(hp1 t ht hnp).2] at this
        exact Bool.noConfusion this
      · omega
    have wk : ∀ r, n ≤ r → r < 10 → bt m r = true → w.1 0 r = 1 ∨ w.1 0 r = 2 := fun r a b c => by rw [w0]; exact hk r a b c
    have kn := wk n (Nat.le_refl _) hn hb'
    by_cases hh : hsB st w.1 n 32 = true
    · rw [if_pos hh]
      refine ⟨iq_keep hIe hn kn, fun k a b => ?_, by rw [D2]; exact hG, w4, wno, w7, w7p, fun r a b c => ?_⟩
      · show wr (wr w.1 0 n 2) 2 n (-9) k = e.1 k
        rw [wr_row_ne _ _ _ (by omega), wr_row_ne _ _ _ (by omega), wrow k a b]
      · show wr (wr w.1 0 n 2) 2 n (-9) 0 r = 1 ∨ wr (wr w.1 0 n 2) 2 n (-9) 0 r = 2
        rw [wr_at, if_neg (by omega), wr_at, if_neg (by omega)]
        exact wk r (by omega) b c
    · rw [if_neg hh]
      have efw : fw n w = fr1 n w := by
        unfold fw
        rw [if_neg (fun z => by rw [z] at kn; exact kn.elim (fun y => absurd y (by decide)) (fun y => absurd y (by decide)))]
      rw [efw]
      have hnol : ∀ t, t < 32 → lv w.1 t → pP w.1 t ≠ n := fun t ht hl q5 => by
        have h5 : w.1 5 t = nI n := by rw [(hIe.1.pl ht).1, q5]
        exact hh (hsi.mpr ⟨t, ht, hleft t ht hl h5, h5⟩)
      have fr : ∀ k, 4 ≤ k → (fr1 n w).1 k = w.1 k := fun k a => fr1_row n w a
      refine ⟨iq_fr1 hIe hn hnol, fun k a b => by rw [fr k (by omega), wrow k a b], by rw [fr1_2]; show w.2.2 = _; rw [D2]; exact hG, fun t ht hp => by rw [fr 4 (by decide)]; exact w4 t ht hp, fun t ht hnp hl => wno t ht hnp (by unfold lv at hl ⊢; rw [fr 4 (by decide)] at hl; exact hl), by rw [fr 7 (by decide)]; exact w7, by rw [fr 7 (by decide)]; exact w7p, fun r a b c => ?_⟩
      rw [fr1_at, if_neg (by omega), if_neg (by omega), if_neg (by omega), if_neg (by omega), if_neg (by omega)]
      exact wk r (by omega) b c
  · rw [if_neg hb']
    refine ⟨hI, hrow, hG, h4, fun t ht hnp hl => ?_, h7, h7p, fun r a b c => hk r (by omega) b c⟩
    have h1 := hno t ht hnp hl
    have h2 := (hp1 t ht hnp).1
    by_cases e2 : pP e.1 t = n
    · rw [e2] at h2; exact absurd h2 hb'
    · omega
theorem inv_pause {s : HS} (hS : Inv s) (hD : s.2.1 = []) {m : Int32} (hm : Chm s.1 m) (hy : ∀ r, r < 10 → s.1 0 r = 1 → bt m r = true) {X0 : List Int32} (eX : scA s.1 m (scd s.1 m) (x1st s m) = X0) {z : MS} {X : List Int32} (ez : mvl s.1 m 32 0 ((s, -9, 0, 0, 0), X0) = (z, X)) (hMI : MI s m z X X.length) {e : HS} (e2 : dC (scd s.1 m) (dX X z.1) = e) {s3 : HS} (e3 : swA m (bt z.2.2.1) e = s3) (c : Int32) : StL (bt z.2.2.1) e ∧ (∀ x, x ∈ X → s3.1 4 x.toNatClampNeg = s.1 4 x.toNatClampNeg) ∧ Inv (fin s3 c) := by
  obtain ⟨hSt, hR, hB⟩ := hS
  have hw := hSt.1
  have hx0 : FX X0 := by rw [← eX]; exact fx_scA hw (fx_x1 hw m)
  have htk : X.take X.length = X := List.take_length
  obtain ⟨hz, htg, ⟨hfx, hfl⟩, zrow, z2, znf, zf, zst, zk⟩ := hMI
  rw [htk] at znf zf zst
  have sub : ∀ x, x ∈ X0 → x ∈ X := fun x hx => by
    have := mvl_sub (h := s.1) (m := m) 32 0 (s, -9, 0, 0, 0) X0 hx
    rw [ez] at this; exact this
  have hcl : ∀ x, x ∈ X → Cl s.1 m X x := by
    have := mvl_closed hw (m := m) 32 0 (s, -9, 0, 0, 0) X0 rfl hx0 (fun j hj => absurd hj (Nat.not_lt_zero j))
    rw [ez] at this; exact this
  -- e against z
  obtain ⟨c1, c2, c3, c4⟩ := dC_all (scd s.1 m) (dX X z.1)
  rw [e2] at c1 c2 c3 c4
  have er : e.1 = z.1.1 := c1
  have eG : e.2.2 = s.2.2 := by rw [c2]; show z.1.2.2 = _; rw [z2]
  have we : Wf e := by
    have h1 := wf_dXt hfx hz.1 X.length (Nat.le_refl _)
    rw [htk] at h1
    rw [← e2]; exact wf_dC h1 _
  have r4 : e.1 4 = s.1 4 := by rw [er]; exact zrow 4 (by decide) (by decide) (by decide) (by decide)
  have r7 : e.1 7 = s.1 7 := by rw [er]; exact zrow 7 (by decide) (by decide) (by decide) (by decide)
  have r3 : e.1 3 = s.1 3 := by rw [er]; exact zrow 3 (by decide) (by decide) (by decide) (by decide)
  have r9 : e.1 9 = s.1 9 := by rw [er]; exact zrow 9 (by decide) (by decide) (by decide) (by decide)
  have hcl32 : ∀ x, x ∈ X → ∃ t, t < 32 ∧ x = nI t ∧ x.toNatClampNeg = t := fun x hx => by
    obtain ⟨t, ht, et⟩ := hfx.1 x hx
    exact ⟨t, ht, et, by rw [et, nI_clamp (by omega)]⟩
  -- places of what was not found
  have pnf : ∀ t, t < 32 → ¬ nI t ∈ X → e.1 5 t = s.1 5 t ∧ e.1 6 t = s.1 6 t := fun t ht hn => by rw [er]; exact znf t ht hn
  -- a thing that is not safe lies in a chosen region and does not stay
  have hp1 : ∀ t, t < 32 → ¬ Sf s.1 m X t → bt m (pP e.1 t) = true ∧ bt z.2.2.1 t = false := fun t ht hn => by
    have hnX : ¬ nI t ∈ X := fun q => hn (Or.inl q)
    refine ⟨?_, Bool.eq_false_iff.mpr (fun q => hnX (zst t ht q))⟩
    have : pP e.1 t = pP s.1 t := by unfold pP; rw [(pnf t ht hnX).1]
    rw [this]
    cases hb' : bt m (pP s.1 t) with
    | true => rfl
    | false => exact absurd (Or.inr hb') hn
  have hst : ∀ t, t < 32 → Sf s.1 m X t → bt m (pP e.1 t) = true → bt z.2.2.1 t = true := fun t ht hs hb' => by
    by_cases hX : nI t ∈ X
    · rcases zf t ht hX with q | q
      · exact q.1
      · rw [er, q.2.1] at hb'; exact Bool.noConfusion hb'
    · have : pP e.1 t = pP s.1 t := by unfold pP; rw [(pnf t ht hX).1]
      rw [this, hs.resolve_left hX] at hb'
      exact Bool.noConfusion hb'
  have hroot : ∀ r, r < 6 → e.1 9 r = -5 ∨ Sf s.1 m X (e.1 9 r).toNatClampNeg := fun r hr => by
    rw [r9]
    by_cases h5 : s.1 9 r = -5
    · exact Or.inl h5
    · right
      obtain ⟨u, hu, eu, ec⟩ := nl_cl (hw.2.2.1 r hr) h5
      cases hb' : bt m (pP s.1 (s.1 9 r).toNatClampNeg) with
      | true =>
        left
        rw [ec, ← eu]
        exact sub _ (by rw [← eX]; exact x0_root hr h5 hb')
      | false => exact Or.inr hb'
  have hgrey : ∀ x, x ∈ e.2.2 → Sf s.1 m X x.toNatClampNeg := fun x hx => by
    rw [eG] at hx
    obtain ⟨u, hu, eu⟩ := hw.2.2.2.2.2.1 x hx
    have h5 : x ≠ -5 := fun q => nI_pos (n := u) (by omega) (by rw [← eu, q]; decide)
    cases hb' : bt m (pP s.1 x.toNatClampNeg) with
    | true =>
      left
      rw [eu, nI_clamp (show u < 2 ^ 31 by omega), ← eu]
      exact sub _ (by rw [← eX]; exact x0_grey hx h5 hb')
    | false => exact Or.inr hb'
  -- a card of an unchosen thing that leads into a chosen region is scanned
  have scan : ∀ t, t < 32 → lv s.1 t → bt m (pP s.1 t) = false → ∀ f, f < 2 → s.1 7 (2 * t + f) ≠ -5 → bt m (pP s.1 (s.1 7 (2 * t + f)).toNatClampNeg) = true → bt (scd s.1 m) (cdo s.1 t) = true := by
    intro t ht hl hb' f hf h5 hby
    obtain ⟨u, hu, eu, ec⟩ := nl_cl (hw.2.1 (2 * t + f) (by omega)) h5
    have hk : s.1 0 (pP s.1 t) ≠ 1 := fun q => by
      rw [hy _ (hw.pl ht).2 q] at hb'; exact Bool.noConfusion hb'
    have hx : s.1 5 (s.1 7 (2 * t + f)).toNatClampNeg ≠ s.1 5 t := fun q => by
      rw [show pP s.1 (s.1 7 (2 * t + f)).toNatClampNeg = pP s.1 t from by unfold pP; rw [q], hb'] at hby
      exact Bool.noConfusion hby
    rcases hR t ht hl hk f hf h5 hx with q | q
    · rw [hD] at q; exact absurd q List.not_mem_nil
    · rw [ec] at q hby
      have h20 := cdo_lt hw ht
      rw [bt_scd (st_m20 hSt) (show cdo s.1 t < 32 by omega), bt_orm_of s.1 m hby q 10 (hw.pl hu).2, cdo_div hw ht, hb', Bool.and_false]
      rfl
  -- what is remembered of the safe ones
  have hRq : RSq (Sf s.1 m X) e := by
    intro t ht hs hl f hf h5 hx
    have hl1 : lv s.1 t := by unfold lv at hl ⊢; rw [r4] at hl; exact hl
    by_cases hX : nI t ∈ X
    · left
      have := dX_mem (s := z.1) hX
      rw [nI_clamp (show t < 2 ^ 31 by omega), ← er] at this
      exact c3 _ this
    · have hb' := hs.resolve_left hX
      have pt := pnf t ht hX
      have ept : pP e.1 t = pP s.1 t := by unfold pP; rw [pt.1]
      have ecd : cdo e.1 t = cdo s.1 t := by unfold cdo pP pC; rw [pt.1, pt.2]
      rw [r7] at h5 hx ⊢
      obtain ⟨u, hu, eu, ec⟩ := nl_cl (hw.2.1 (2 * t + f) (by omega)) h5
      by_cases hXu : nI u ∈ X
      · left
        have hfu := (hfl (nI u) hXu).2.1
        rw [nI_clamp (show u < 2 ^ 31 by omega)] at hfu
        rw [ecd]
        exact c4 _ (cdo_lt hw ht) (scan t ht hl1 hb' f hf h5 (by rw [ec]; exact hfu))
      · right
        have pu := pnf u hu hXu
        rw [ec] at hx ⊢
        have epu : pP e.1 u = pP s.1 u := by unfold pP; rw [pu.1]
        rw [pu.1, pt.1] at hx
        rw [epu, ecd, r3]
        have hk : s.1 0 (pP s.1 t) ≠ 1 := fun q => by
          rw [hy _ (hw.pl ht).2 q] at hb'; exact Bool.noConfusion hb'
        rcases hR t ht hl1 hk f hf h5 (by rw [ec]; exact hx) with q | q
        · rw [hD] at q; exact absurd q List.not_mem_nil
        · rw [ec] at q; exact q
  have hIe : Iq (Sf s.1 m X) e := by
    refine ⟨we, ?_, ?_, ?_, ?_, hRq⟩
    · rw [er]; exact hz.2.1
    · rw [er]; exact hz.2.2.1
    · rw [er]; exact hz.2.2.2.1
    · unfold Lvs
      rw [er, eG, ← show z.1.2.2 = s.2.2 from by rw [z2]]
      exact hz.2.2.2.2.1
  have hW0 : Wp e m (bt z.2.2.1) (Sf s.1 m X) 0 e := by
    refine ⟨hIe, fun _ _ _ => rfl, rfl, fun _ _ _ => rfl, fun _ _ _ _ => Nat.zero_le _, fun _ _ => Or.inr rfl, fun _ _ _ _ _ _ => rfl, fun r _ hr hb' => ?_⟩
    rw [er]
    rcases zk r hr with q | q
    · rw [q]; exact hm r hr hb'
    · have := hm r hr hb'
      rw [q.1] at this
      exact this.elim (fun y => absurd y (by decide)) (fun y => absurd y (by decide))
  have hW : Wp e m (bt z.2.2.1) (Sf s.1 m X) 10 s3 := by
    rw [← e3]
    unfold swA
    exact it_inv (fun n q => Wp e m (bt z.2.2.1) (Sf s.1 m X) n q) 10 hW0 (fun i q hi h => wp_sw hst hp1 hroot hgrey hi h)
  obtain ⟨hI, hrow, hG, h4, hno, h7, h7p, _⟩ := hW
  have safe : ∀ t, t < 32 → lv s3.1 t → Sf s.1 m X t := fun t ht hl => by
    by_cases hs : Sf s.1 m X t
    · exact hs
    · have h1 := hno t ht hs hl
      have h2 := (we.pl ht).2
      omega
  have hSL : StL (bt z.2.2.1) e := fun t ht q => by
    have := (hfl (nI t) (zst t ht q)).1
    rw [nI_clamp (show t < 2 ^ 31 by omega)] at this
    unfold lv at this ⊢
    rw [r4]; exact this
  refine ⟨hSL, fun x hx => ?_, ?_⟩
  · obtain ⟨t, ht, et, ec⟩ := hcl32 x hx
    rw [ec, h4 t ht (Or.inl (by rw [← et]; exact hx)), r4]
  · have fr : ∀ k, k < 13 → (fin s3 c).1 k = s3.1 k := fun k hk => by
      show wr (wr (wr s3.1 13 0 (-9)) 16 0 (s3.1 16 0 + 1)) 17 0 c k = _
      rw [wr_row_ne _ _ _ (by omega), wr_row_ne _ _ _ (by omega), wr_row_ne _ _ _ (by omega)]
    have f2 : (fin s3 c).2 = s3.2 := rfl
    have f13 : (fin s3 c).1 13 0 = -9 := by
      show wr (wr (wr s3.1 13 0 (-9)) 16 0 (s3.1 16 0 + 1)) 17 0 c 13 0 = _
      rw [wr_at, if_neg (by omega), wr_at, if_neg (by omega), wr_at, if_pos ⟨rfl, rfl⟩]
    generalize fin s3 c = w at fr f2 f13 ⊢
    have s12 : s3.1 12 = s.1 12 := by rw [hrow 12 (by decide) (by decide), er]; exact zrow 12 (by decide) (by decide) (by decide) (by decide)
    have s8 : s3.1 8 = s.1 8 := by rw [hrow 8 (by decide) (by decide), er]; exact zrow 8 (by decide) (by decide) (by decide) (by decide)
    have s9 : s3.1 9 = s.1 9 := by rw [hrow 9 (by decide) (by decide)]; exact r9
    have sG : s3.2.2 = s.2.2 := by rw [hG]; exact eG
    refine ⟨⟨wf_same hI.1 (fr 4 (by decide)) (fr 5 (by decide)) (fr 6 (by decide)) (fr 7 (by decide)) (fr 8 (by decide)) (fr 9 (by decide)) f2, ?_, ?_, ?_, ?_, ?_, Or.inl f13⟩, ?_, ?_⟩
    · unfold Tops
      rw [fr 0 (by decide), fr 1 (by decide), fr 2 (by decide), fr 3 (by decide)]; exact hI.2.1
    · unfold Lies lv tp zn pP pC
      rw [fr 0 (by decide), fr 1 (by decide), fr 4 (by decide), fr 5 (by decide), fr 6 (by decide)]; exact hI.2.2.1
    · unfold Uq
      rw [fr 4 (by decide), fr 5 (by decide), fr 6 (by decide)]; exact hI.2.2.2.1
    · unfold Lvs lv
      rw [fr 4 (by decide), fr 7 (by decide), fr 9 (by decide), f2]; exact hI.2.2.2.2.1
    · unfold Mk
      rw [fr 12 (by decide), f2, s12, sG]; exact hSt.2.2.2.2.2.1
    · refine rs_same (s := s3) (fun t ht hl _ f hf h5 hx => hI.2.2.2.2.2 t ht (safe t ht hl) hl f hf h5 hx) (fun k hk => fr k (by omega)) (by rw [f2])
    · refine sb_same (s := s3) ?_ (fun k hk => fr k (by omega)) (by rw [f2])
      intro hM
      rw [s12] at hM
      obtain ⟨b1, b2, b3⟩ := hB hM
      have kr : ∀ y, y < 32 → Kr s y → Kr s3 y := by
        intro y hy32 hy'
        refine (hy' (fun y => y < 32 → lv s.1 y ∧ Sf s.1 m X y ∧ Kr s3 y) (fun g hg hgG _ => ?_) (fun a b f ha hb' hf hRa e7 h0 _ => ?_) hy32).2.2
        · refine ⟨?_, ?_, Kr.grey hg (by rw [sG]; exact hgG)⟩
          · have := hSt.2.2.2.2.1.2.2 (nI g) hgG
            rw [nI_clamp (show g < 2 ^ 31 by omega)] at this; exact this
          · have := hgrey (nI g) (by rw [eG]; exact hgG)
            rw [nI_clamp (show g < 2 ^ 31 by omega)] at this; exact this
        · obtain ⟨la, sa, ka⟩ := hRa ha
          have h5 : s.1 7 (2 * a + f) ≠ -5 := fun q => nI_pos (n := b) (by omega) (by rw [← e7, q]; decide)
          have hcb : (s.1 7 (2 * a + f)).toNatClampNeg = b := by rw [e7, nI_clamp (by omega)]
          have lb : lv s.1 b := by
            have := (hSt.2.2.2.2.1.1 (2 * a + f) (by omega)).resolve_left h5
            rw [hcb] at this; exact this
          have sb' : Sf s.1 m X b := by
            cases hbb : bt m (pP s.1 b) with
            | false => exact Or.inr hbb
            | true =>
              left
              rw [← e7]
              by_cases hXa : nI a ∈ X
              · have := hcl (nI a) hXa f hf
                rw [nI_clamp (show a < 2 ^ 31 by omega)] at this
                exact this h5 (by rw [hcb]; exact hbb)
              · have hba := sa.resolve_left hXa
                have hs := scan a ha la hba f hf h5 (by rw [hcb]; exact hbb)
                exact sub _ (by rw [← eX]; exact x0_card hw hSt.2.2.2.1 ha la hs hf h5 (by rw [hcb]; exact hbb) _)
          refine ⟨lb, sb', Kr.step ha hb' hf ka ?_ (by rw [s8]; exact h0)⟩
          rw [h7p (2 * a + f) (by omega) b hb' sb' (by rw [r7]; exact e7), r7]; exact e7
      have good : ∀ y, Nl y → (y = -5 ∨ s.1 8 y.toNatClampNeg = 2 ∨ Kr s y.toNatClampNeg) → y = -5 ∨ s.1 8 y.toNatClampNeg = 2 ∨ Kr s3 y.toNatClampNeg := by
        intro y hn hy'
        by_cases h5 : y = -5
        · exact Or.inl h5
        · obtain ⟨u, hu, eu, ec⟩ := nl_cl hn h5
          right
          rcases hy'.resolve_left h5 with q | q
          · exact Or.inl q
          · rw [ec] at q ⊢; exact Or.inr (kr u hu q)
      refine ⟨fun r hr => ?_, fun t ht hl h2 f hf => ?_, fun t ht h1 => ?_⟩
      · rw [s8, s9]
        exact good _ (hw.2.2.1 r hr) (b1 r hr)
      · rw [s8] at h2 ⊢
        have hs := safe t ht hl
        have hl1 : lv s.1 t := by unfold lv at hl ⊢; rw [h4 t ht hs, r4] at hl; exact hl
        rcases h7 (2 * t + f) (by omega) with q | q
        · exact Or.inl q
        · rw [q, r7]
          exact good _ (hw.2.1 (2 * t + f) (by omega)) (b2 t ht hl1 h2 f hf)
      · rw [s8] at h1
        rw [sG]
        exact b3 t ht h1
