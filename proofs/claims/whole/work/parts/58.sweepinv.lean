/-! ===== 58 the same while a pause sweeps: what is remembered, of some things alone ===== -/
def RSq (p : Nat → Prop) (s : HS) : Prop := ∀ t, t < 32 → p t → lv s.1 t → ∀ f, f < 2 → s.1 7 (2 * t + f) ≠ -5 → s.1 5 (s.1 7 (2 * t + f)).toNatClampNeg ≠ s.1 5 t → nI (cdo s.1 t) ∈ s.2.1 ∨ bt (s.1 3 (pP s.1 (s.1 7 (2 * t + f)).toNatClampNeg)) (cdo s.1 t) = true
def Iq (p : Nat → Prop) (s : HS) : Prop := Wf s ∧ Tops s.1 ∧ Lies s.1 ∧ Uq s.1 ∧ Lvs s ∧ RSq p s
theorem iq_fr1 {p : Nat → Prop} {s : HS} (h : Iq p s) {r : Nat} (hr : r < 10) (hno : ∀ t, t < 32 → lv s.1 t → pP s.1 t ≠ r) : Iq p (fr1 r s) := by
  obtain ⟨w, hT, hL, hU, hV, hR⟩ := h
  have row : ∀ k, 4 ≤ k → (fr1 r s).1 k = s.1 k := fun k hk => fr1_row r s hk
  have e4 := row 4 (by omega)
  have e5 := row 5 (by omega)
  have e6 := row 6 (by omega)
  have e7 := row 7 (by omega)
  have e8 := row 8 (by omega)
  have e9 := row 9 (by omega)
  have k0 : ∀ q, q ≠ r → (fr1 r s).1 0 q = s.1 0 q := fun q hq => by rw [fr1_at, if_neg (by omega), if_neg (by omega), if_neg (by omega), if_neg (by omega), if_neg (by omega)]
  have k1 : ∀ q, q ≠ r → (fr1 r s).1 1 q = s.1 1 q := fun q hq => by rw [fr1_at, if_neg (by omega), if_neg (by omega), if_neg (by omega), if_neg (by omega), if_neg (by omega)]
  have k2 : ∀ q, q ≠ r → (fr1 r s).1 2 q = s.1 2 q := fun q hq => by rw [fr1_at, if_neg (by omega), if_neg (by omega), if_neg (by omega), if_neg (by omega), if_neg (by omega)]
  have k3 : ∀ q, q < 10 → (fr1 r s).1 3 q = (if q = r then 0 else s.1 3 q) &&& m3 r := fun q hq => by rw [fr1_at, if_pos ⟨rfl, hq⟩]
  have hp : ∀ t, pP (fr1 r s).1 t = pP s.1 t := fun t => by unfold pP; rw [e5]
  have hc : ∀ t, pC (fr1 r s).1 t = pC s.1 t := fun t => by unfold pC; rw [e6]
  have hcd : ∀ t, cdo (fr1 r s).1 t = cdo s.1 t := fun t => by unfold cdo; rw [hp, hc]
  have hl : ∀ t, lv (fr1 r s).1 t ↔ lv s.1 t := fun t => by unfold lv; rw [e4]
  have D2 := fr1_2 r s
  refine ⟨?_, fun q hq => ?_, fun t ht hlt => ?_, ?_, ?_, ?_⟩
  · unfold Wf
    rw [e4, e5, e6, e7, e8, e9, D2]
    refine ⟨w.1, w.2.1, w.2.2.1, fun x hx => w.2.2.2.1 x (mem_dropL.mp (mem_dropL.mp hx).1).1, dropL_nodup (dropL_nodup w.2.2.2.2.1), w.2.2.2.2.2.1, w.2.2.2.2.2.2.1, w.2.2.2.2.2.2.2⟩
  · by_cases e : q = r
    · subst e
      have a0 : (fr1 q s).1 0 q = 0 := by rw [fr1_at, if_neg (by omega), if_neg (by omega), if_neg (by omega), if_neg (by omega), if_pos ⟨rfl, rfl⟩]
      have a1 : (fr1 q s).1 1 q = 0 := by rw [fr1_at, if_neg (by omega), if_neg (by omega), if_neg (by omega), if_pos ⟨rfl, rfl⟩]
      have a2 : (fr1 q s).1 2 q = -9 := by rw [fr1_at, if_neg (by omega), if_neg (by omega), if_pos ⟨rfl, rfl⟩]
      rw [a0, a1, a2, k3 q hq, if_pos rfl]
      exact ⟨⟨0, by omega, rfl⟩, ⟨0, by omega, rfl⟩, Or.inl rfl, M20.zero.and _, fun _ => rfl⟩
    · have := hT q hq
      rw [k0 q e, k1 q e, k2 q e, k3 q hq, if_neg e]
      exact ⟨this.1, this.2.1, this.2.2.1, this.2.2.2.1.and _, this.2.2.2.2⟩
  · have hlt2 := (hl t).mp hlt
    have hne := hno t ht hlt2
    have := hL t ht hlt2
    unfold tp zn
    rw [hp, hc, k0 _ hne, k1 _ hne, e4]
    exact this
  · unfold Uq
    rw [e4, e5, e6]; exact hU
  · unfold Lvs lv
    rw [e4, e7, e9, D2]; exact hV
  · intro t ht hp' hlt f hf h5 hx
    rw [hcd]
    rw [e7] at h5 hx ⊢
    rw [e5] at hx
    rw [hp]
    have hlt2 := (hl t).mp hlt
    have hne := hno t ht hlt2
    obtain ⟨u, hu, eu, ec⟩ := nl_cl (w.2.1 (2 * t + f) (by omega)) h5
    have hlu : lv s.1 u := by
      have := (hV.1 (2 * t + f) (by omega)).resolve_left h5
      rw [ec] at this; exact this
    have hne2 := hno u hu hlu
    have hR2 := hR t ht hp' hlt2 f hf h5 hx
    rw [ec] at hR2 ⊢
    have hpt := (w.pl ht).2
    have hcl := (w.ce ht).2
    have hcd20 := cdo_lt w ht
    have hdiv : cdo s.1 t / 2 = pP s.1 t := by unfold cdo; omega
    rcases hR2 with q | q
    · left
      rw [D2]
      show nI (cdo s.1 t) ∈ dropL (nI (2 * r + 1)) (dropL (nI (2 * r)) s.2.1)
      rw [mem_dropL, mem_dropL]
      refine ⟨⟨q, fun e => ?_⟩, fun e => ?_⟩
      · rw [nI_eq (by omega) (by omega)] at e; omega
      · rw [nI_eq (by omega) (by omega)] at e; omega
    · right
      rw [k3 _ (w.pl hu).2, if_neg hne2, bt_and, q, bt_m3 hr (by omega), hdiv, decide_eq_false hne]
      rfl
theorem iq_em {p : Nat → Prop} {s : HS} (h : Iq p s) {r : Nat} {st : Nat → Bool} (hroot : ∀ q, q < 6 → s.1 9 q = -5 ∨ ¬ dd s r st (s.1 9 q).toNatClampNeg) (hgrey : ∀ x, x ∈ s.2.2 → ¬ dd s r st x.toNatClampNeg) : Iq p (em r st s) := by
  obtain ⟨w, hT, hL, hU, hV, hR⟩ := h
  obtain ⟨D2, row, r4, r7⟩ := em_all r st s
  generalize em r st s = q at D2 row r4 r7 ⊢
  have e0 := row 0 (by decide) (by decide)
  have e1 := row 1 (by decide) (by decide)
  have e2 := row 2 (by decide) (by decide)
  have e3 := row 3 (by decide) (by decide)
  have e5 := row 5 (by decide) (by decide)
  have e6 := row 6 (by decide) (by decide)
  have e8 := row 8 (by decide) (by decide)
  have e9 := row 9 (by decide) (by decide)
  have hl : ∀ t, t < 32 → (lv q.1 t ↔ lv s.1 t ∧ ¬ dd s r st t) := fun t ht => by
    by_cases hd : dd s r st t
    · have := (r4 t).1 ⟨ht, hd⟩
      constructor
      · intro a
        unfold lv at a
        rw [this] at a
        exact absurd (by decide) a
      · intro a; exact absurd hd a.2
    · have := (r4 t).2 (fun a => hd a.2)
      unfold lv
      rw [this]
      exact ⟨fun a => ⟨a, hd⟩, fun a => a.1⟩
  have h4 : ∀ t, t < 32 → ¬ dd s r st t → q.1 4 t = s.1 4 t := fun t ht hd => (r4 t).2 (fun a => hd a.2)
  have hp : ∀ t, pP q.1 t = pP s.1 t := fun t => by unfold pP; rw [e5]
  have hc : ∀ t, pC q.1 t = pC s.1 t := fun t => by unfold pC; rw [e6]
  have hcd : ∀ t, cdo q.1 t = cdo s.1 t := fun t => by unfold cdo; rw [hp, hc]
  have f7 : ∀ i, i < 64 → q.1 7 i ≠ -5 → q.1 7 i = s.1 7 i ∧ ∃ u, u < 32 ∧ s.1 7 i = nI u ∧ ¬ dd s r st u := fun i hi h5 => by
    by_cases a : ∃ u, u < 32 ∧ dd s r st u ∧ s.1 7 i = nI u
    · exact absurd ((r7 i hi).1 a) h5
    · have e := (r7 i hi).2 a
      refine ⟨e, ?_⟩
      obtain ⟨u, hu, eu, _⟩ := nl_cl (w.2.1 i hi) (by rw [← e]; exact h5)
      exact ⟨u, hu, eu, fun b => a ⟨u, hu, b, eu⟩⟩
  have hlive : ∀ v, Nl v → (v = -5 ∨ lv s.1 v.toNatClampNeg) → (v = -5 ∨ ¬ dd s r st v.toNatClampNeg) → v = -5 ∨ lv q.1 v.toNatClampNeg := fun v hn h1 h2 => by
    by_cases h5 : v = -5
    · exact Or.inl h5
    · obtain ⟨u, hu, eu, ec⟩ := nl_cl hn h5
      right
      have a := h1.resolve_left h5
      have b := h2.resolve_left h5
      rw [ec] at a b ⊢
      exact (hl u hu).mpr ⟨a, b⟩
  refine ⟨?_, ?_, fun t ht hlt => ?_, fun t u ht hu hlt hlu q5 q6 => ?_, ⟨fun i hi => ?_, fun i hi => ?_, fun x hx => ?_⟩, fun t ht hp' hlt f hf h5 hx => ?_⟩
  · unfold Wf
    rw [e5, e6, e8, e9, D2]
    refine ⟨fun t ht => ⟨?_, (w.1 t ht).2⟩, fun i hi => ?_, w.2.2⟩
    · by_cases hd : dd s r st t
      · rw [(r4 t).1 ⟨ht, hd⟩]; exact ⟨0, by omega, rfl⟩
      · rw [h4 t ht hd]; exact (w.1 t ht).1
    · by_cases h5 : q.1 7 i = -5
      · exact Or.inl h5
      · rw [(f7 i hi h5).1]; exact w.2.1 i hi
  · unfold Tops
    rw [e0, e1, e2, e3]; exact hT
  · have a := (hl t ht).mp hlt
    have := hL t ht a.1
    unfold tp zn
    rw [hp, hc, e0, e1, h4 t ht a.2]
    exact this
  · rw [e5] at q5
    rw [e6] at q6
    exact hU t u ht hu ((hl t ht).mp hlt).1 ((hl u hu).mp hlu).1 q5 q6
  · by_cases h5 : q.1 7 i = -5
    · exact Or.inl h5
    · obtain ⟨e, u, hu, eu, hd⟩ := f7 i hi h5
      right
      have hlu := (hV.1 i hi).resolve_left (by rw [← e]; exact h5)
      rw [e]
      rw [eu, nI_clamp (show u < 2 ^ 31 by omega)] at hlu ⊢
      exact (hl u hu).mpr ⟨hlu, hd⟩
  · rw [e9]
    exact hlive _ (w.2.2.1 i hi) (hV.2.1 i hi) (hroot i hi)
  · rw [D2] at hx
    have := hlive x (nl_rg (w.2.2.2.2.2.1 x hx)) (Or.inr (hV.2.2 x hx)) (Or.inr (hgrey x hx))
    rcases this with a | a
    · obtain ⟨j, hj, ej⟩ := w.2.2.2.2.2.1 x hx
      rw [ej] at a
      exact absurd a (fun z => nI_pos (n := j) (by omega) (by rw [z]; decide))
    · exact a
  · have a := (hl t ht).mp hlt
    obtain ⟨e, _⟩ := f7 (2 * t + f) (by omega) h5
    rw [e] at h5 hx ⊢
    rw [e5] at hx
    rw [hcd, hp, e3, D2]
    exact hR t ht hp' a.1 f hf h5 hx
/-- a region keeps what stays in it -/
theorem iq_keep {p : Nat → Prop} {s : HS} (h : Iq p s) {r : Nat} (hr : r < 10) (hk : s.1 0 r = 1 ∨ s.1 0 r = 2) : Iq p (wr (wr s.1 0 r 2) 2 r (-9), s.2) := by
  obtain ⟨w, hT, hL, hU, hV, hR⟩ := h
  have h00 : ∀ i, wr (wr s.1 0 r 2) 2 r (-9) 0 i = if i = r then 2 else s.1 0 i := fun i => by
    rw [wr_at, if_neg (by omega), wr_at]
    by_cases e : i = r
    · rw [if_pos ⟨rfl, e⟩, if_pos e]
    · rw [if_neg (fun q => e q.2), if_neg e]
  have h22 : ∀ i, wr (wr s.1 0 r 2) 2 r (-9) 2 i = if i = r then -9 else s.1 2 i := fun i => by
    rw [wr_at]
    by_cases e : i = r
    · rw [if_pos ⟨rfl, e⟩, if_pos e]
    · rw [if_neg (fun q => e q.2), if_neg e, wr_at, if_neg (by omega)]
  refine ⟨w, fun q hq => ?_, fun t ht hl => ?_, hU, hV, hR⟩
  · show Rg 5 (wr (wr s.1 0 r 2) 2 r (-9) 0 q) ∧ Rg 9 (s.1 1 q) ∧ (wr (wr s.1 0 r 2) 2 r (-9) 2 q = -9 ∨ Rg 769 (wr (wr s.1 0 r 2) 2 r (-9) 2 q)) ∧ M20 (s.1 3 q) ∧ (wr (wr s.1 0 r 2) 2 r (-9) 0 q = 0 → s.1 1 q = 0)
    have := hT q hq
    rw [h00, h22]
    by_cases e : q = r
    · rw [if_pos e, if_pos e]
      exact ⟨⟨2, by omega, rfl⟩, this.2.1, Or.inl rfl, this.2.2.2.1, fun z => absurd z (by decide)⟩
    · rw [if_neg e, if_neg e]; exact this
  · show (wr (wr s.1 0 r 2) 2 r (-9) 0 (pP s.1 t) = 1 ∨ wr (wr s.1 0 r 2) 2 r (-9) 0 (pP s.1 t) = 2 ∨ wr (wr s.1 0 r 2) 2 r (-9) 0 (pP s.1 t) = 3) ∧ pC s.1 t < tp s.1 (pP s.1 t) ∧ (wr (wr s.1 0 r 2) 2 r (-9) 0 (pP s.1 t) ≠ 3 → zn s.1 t ≤ 8)
    have := hL t ht hl
    rw [h00]
    by_cases e : pP s.1 t = r
    · rw [if_pos e]
      refine ⟨Or.inr (Or.inl rfl), this.2.1, fun _ => this.2.2 (fun z => ?_)⟩
      rw [e] at z
      rw [z] at hk
      exact hk.elim (fun q => absurd q (by decide)) (fun q => absurd q (by decide))
    · rw [if_neg e]; exact this
/-! cards refined: what is remembered stays so -/
theorem nt_bits {c : Nat} {v : Int32} {s : HS} {r i : Nat} (h : bt (s.1 3 r) i = true) : bt ((nt c v s).1 3 r) i = true := by
  unfold nt
  split
  · exact h
  · split
    · exact h
    · show bt (wr s.1 3 (pP s.1 v.toNatClampNeg) _ 3 r) i = true
      rw [wr_at]
      split
      · next e => rw [bt_or, ← e.2, h, Bool.true_or]
      · exact h
theorem nt_sets {c : Nat} (hc : c < 20) {v : Int32} {s : HS} (h5 : v ≠ -5) (hx : s.1 5 v.toNatClampNeg ≠ nI (c / 2)) : bt ((nt c v s).1 3 (pP s.1 v.toNatClampNeg)) c = true := by
  unfold nt
  rw [if_neg h5, if_neg hx]
  show bt (wr s.1 3 (pP s.1 v.toNatClampNeg) _ 3 (pP s.1 v.toNatClampNeg)) c = true
  rw [wr_at, if_pos ⟨rfl, rfl⟩, bt_or, bt_one c (by omega) c (by omega), decide_eq_true rfl, Bool.or_true]
theorem rf_bits {s : HS} (w : Wf s) {c : Nat} (hc : c < 20) : (∀ r i, bt (s.1 3 r) i = true → bt ((rf c s).1 3 r) i = true) ∧ ∀ t, t < 32 → lv s.1 t → cdo s.1 t = c → ∀ f, f < 2 → s.1 7 (2 * t + f) ≠ -5 → s.1 5 (s.1 7 (2 * t + f)).toNatClampNeg ≠ nI (c / 2) → bt ((rf c s).1 3 (pP s.1 (s.1 7 (2 * t + f)).toNatClampNeg)) c = true := by
  unfold rf
  have key := it_inv (body := rt1 c) (s := ((s.1, dropL (nI c) s.2.1, s.2.2) : HS)) (fun n (q : HS) => (∀ k, k ≠ 3 → q.1 k = s.1 k) ∧ (∀ r i, bt (s.1 3 r) i = true → bt (q.1 3 r) i = true) ∧ ∀ t, t < n → lv s.1 t → cdo s.1 t = c → ∀ f, f < 2 → s.1 7 (2 * t + f) ≠ -5 → s.1 5 (s.1 7 (2 * t + f)).toNatClampNeg ≠ nI (c / 2) → bt (q.1 3 (pP s.1 (s.1 7 (2 * t + f)).toNatClampNeg)) c = true) 32 ⟨fun _ _ => rfl, fun _ _ h => h, fun t ht => absurd ht (Nat.not_lt_zero t)⟩ ?_
  · exact ⟨key.2.1, key.2.2⟩
  · rintro n q hn ⟨h1, h2, h3⟩
    refine ⟨fun k hk => by rw [rt1_row c n q hk, h1 k hk], fun r i h => ?_, fun t ht hl hcd f hf h5 hx => ?_⟩
    · have := h2 r i h
      unfold rt1
      split
      · exact this
      · split
        · exact nt_bits (nt_bits this)
        · exact this
    · have mono : ∀ r i, bt (q.1 3 r) i = true → bt ((rt1 c n q).1 3 r) i = true := fun r i h => by
        unfold rt1
        split
        · exact h
        · split
          · exact nt_bits (nt_bits h)
          · exact h
      by_cases e : t = n
      · subst e
        have hl' : ¬ q.1 4 t ≤ 0 := by rw [h1 4 (by decide)]; exact hl
        have hcd' : nI (cdo q.1 t) = nI c := by
          unfold cdo pP pC
          rw [h1 5 (by decide), h1 6 (by decide)]
          unfold cdo pP pC at hcd
          rw [hcd]
        unfold rt1
        rw [if_neg hl', if_pos hcd']
        have ep : ∀ y, pP q.1 y = pP s.1 y := fun y => by unfold pP; rw [h1 5 (by decide)]
        rcases (show f = 0 ∨ f = 1 by omega) with rfl | rfl
        · refine nt_bits ?_
          have e7 : q.1 7 (2 * t) = s.1 7 (2 * t) := by rw [h1 7 (by decide)]
          have := nt_sets (s := q) hc (v := q.1 7 (2 * t)) (by rw [e7]; exact h5) (by rw [e7, h1 5 (by decide)]; exact hx)
          rw [ep, e7] at this
          rw [e7]
          exact this
        · have e7 : (nt c (q.1 7 (2 * t)) q).1 7 (2 * t + 1) = s.1 7 (2 * t + 1) := by rw [nt_row _ _ _ (by decide), h1 7 (by decide)]
          have e5 : (nt c (q.1 7 (2 * t)) q).1 5 = s.1 5 := by rw [nt_row _ _ _ (by decide), h1 5 (by decide)]
          have := nt_sets (s := nt c (q.1 7 (2 * t)) q) hc (v := (nt c (q.1 7 (2 * t)) q).1 7 (2 * t + 1)) (by rw [e7]; exact h5) (by rw [e7, e5]; exact hx)
          rw [show pP (nt c (q.1 7 (2 * t)) q).1 ((nt c (q.1 7 (2 * t)) q).1 7 (2 * t + 1)).toNatClampNeg = pP s.1 (s.1 7 (2 * t + 1)).toNatClampNeg from by unfold pP; rw [e5, e7]] at this
          exact this
      · exact mono _ _ (h3 t (by omega) hl hcd f hf h5 hx)
theorem cdo_div {s : HS} (w : Wf s) {t : Nat} (ht : t < 32) : cdo s.1 t / 2 = pP s.1 t := by
  have := (w.ce ht).2
  unfold cdo
  omega
theorem rs_rf {s : HS} (w : Wf s) (h : RS s) {c : Nat} (hc : c < 20) : RS (rf c s) := by
  intro t ht hl hk f hf h5 hx
  obtain ⟨b1, b2⟩ := rf_bits w hc
  have row : ∀ k, k ≠ 3 → (rf c s).1 k = s.1 k := fun k hk => rf_row c s hk
  have D := rf_2 c s
  generalize rf c s = q at b1 b2 row D hl hk h5 hx ⊢
  have r7 := row 7 (by decide)
  have r5 := row 5 (by decide)
  have hp : ∀ y, pP q.1 y = pP s.1 y := fun y => by unfold pP; rw [r5]
  have hcd : cdo q.1 t = cdo s.1 t := by unfold cdo pP pC; rw [r5, row 6 (by decide)]
  rw [r7] at h5 hx ⊢
  rw [r5] at hx
  rw [hp, row 0 (by decide)] at hk
  have hl2 : lv s.1 t := by unfold lv at hl ⊢; rw [row 4 (by decide)] at hl; exact hl
  rw [hcd, hp, D]
  have hlt := cdo_lt w ht
  by_cases e : cdo s.1 t = c
  · right
    rw [e]
    refine b2 t ht hl2 e f hf h5 (fun z => hx ?_)
    rw [z, ← e, cdo_div w ht, ← (w.pl ht).1]
  · rcases h t ht hl2 hk f hf h5 hx with z | z
    · left
      show nI (cdo s.1 t) ∈ dropL (nI c) s.2.1
      rw [mem_dropL]
      exact ⟨z, fun y => e ((nI_eq (by omega) (by omega)).mp y)⟩
    · exact Or.inr (b1 _ _ z)
theorem sb_same {s q : HS} (h : SB s) (hr : ∀ k, k = 4 ∨ k = 7 ∨ k = 8 ∨ k = 9 ∨ k = 12 → q.1 k = s.1 k) (hG : q.2.2 = s.2.2) : SB q := by
  unfold SB Kr lv
  rw [hr 4 (by omega), hr 7 (by omega), hr 8 (by omega), hr 9 (by omega), hr 12 (by omega), hG]
  exact h
theorem inv_rf {s : HS} (h : Inv s) {c : Nat} (hc : c < 20) : Inv (rf c s) := ⟨st_rf h.1 hc, rs_rf h.1.1 h.2.1 hc, sb_same h.2.2 (fun k hk => rf_row c s (by omega)) (by rw [rf_2])⟩
theorem inv_rfn : ∀ (n : Nat) (s : HS), Inv s → Inv (rfn n s) := by
  intro n
  induction n with
  | zero => intro s h; exact h
  | succ n ih =>
    intro s h
    unfold rfn
    split
    · exact h
    · next hd =>
      obtain ⟨c, D, hc, eD, ehd⟩ := hd_ex h.1.1 hd
      rw [ehd]
      exact ih _ (inv_rf h hc)
theorem rfn_nil : ∀ (n : Nat) (s : HS), Wf s → s.2.1.length ≤ n → (rfn n s).2.1 = [] := by
  intro n
  induction n with
  | zero => intro s w h; show s.2.1 = []; exact List.eq_nil_of_length_eq_zero (by omega)
  | succ n ih =>
    intro s w h
    unfold rfn
    split
    · next hd => exact hd
    · next hd =>
      obtain ⟨c, D, hc, eD, ehd⟩ := hd_ex w hd
      rw [ehd]
      exact ih _ (wf_rf w) (by rw [rf_len w eD]; rw [eD, List.length_cons] at h; omega)
