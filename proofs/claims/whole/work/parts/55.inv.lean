/-! ===== 55 what is remembered, what marking has yet to reach; freeing and emptying keep it ===== -/
def RS (s : HS) : Prop := ∀ t, t < 32 → lv s.1 t → s.1 0 (pP s.1 t) ≠ 1 → ∀ f, f < 2 → s.1 7 (2 * t + f) ≠ -5 → s.1 5 (s.1 7 (2 * t + f)).toNatClampNeg ≠ s.1 5 t → nI (cdo s.1 t) ∈ s.2.1 ∨ bt (s.1 3 (pP s.1 (s.1 7 (2 * t + f)).toNatClampNeg)) (cdo s.1 t) = true
/-- led to from a grey thing through white ones -/
def Kr (s : HS) (y : Nat) : Prop := ∀ R : Nat → Prop, (∀ g, g < 32 → nI g ∈ s.2.2 → R g) → (∀ a b f, a < 32 → b < 32 → f < 2 → R a → s.1 7 (2 * a + f) = nI b → s.1 8 b = 0 → R b) → R y
def SB (s : HS) : Prop := s.1 12 0 = 1 → (∀ r, r < 6 → s.1 9 r = -5 ∨ s.1 8 (s.1 9 r).toNatClampNeg = 2 ∨ Kr s (s.1 9 r).toNatClampNeg) ∧ (∀ t, t < 32 → lv s.1 t → s.1 8 t = 2 → ∀ f, f < 2 → s.1 7 (2 * t + f) = -5 ∨ s.1 8 (s.1 7 (2 * t + f)).toNatClampNeg = 2 ∨ Kr s (s.1 7 (2 * t + f)).toNatClampNeg) ∧ ∀ t, t < 32 → s.1 8 t = 1 → nI t ∈ s.2.2
def Inv (s : HS) : Prop := St s ∧ RS s ∧ SB s
def I1 (s : HS) : Prop := Wf s ∧ Tops s.1 ∧ Lies s.1 ∧ Uq s.1 ∧ Lvs s ∧ RS s
theorem st_i1 {s : HS} (h : St s) (hr : RS s) : I1 s := ⟨h.1, h.2.1, h.2.2.1, h.2.2.2.1, h.2.2.2.2.1, hr⟩
theorem nl_cl {v : Int32} (h : Nl v) (h5 : v ≠ -5) : ∃ u, u < 32 ∧ v = nI u ∧ v.toNatClampNeg = u := by
  obtain ⟨u, hu, e⟩ := h.resolve_left h5
  exact ⟨u, hu, e, by rw [e, nI_clamp (by omega)]⟩
theorem i1_fr1 {s : HS} (h : I1 s) {r : Nat} (hr : r < 10) (hno : ∀ t, t < 32 → lv s.1 t → pP s.1 t ≠ r) : I1 (fr1 r s) := by
  obtain ⟨w, hT, hL, hU, hV, hR⟩ := h
  have row : ∀ k, 4 ≤ k → (fr1 r s).1 k = s.1 k := fun k hk => fr1_row r s hk
  have e4 := row 4 (by omega)
  have e5 := row 5 (by omega)
  have e6 := row 6 (by omega)
  have e7 := row 7 (by omega)
  have e8 := row 8 (by omega)
  have e9 := row 9 (by omega)
  have k0 : ∀ q, q ≠ r → (fr1 r s).1 0 q = s.1 0 q := fun q hq => by rw [fr1_at, if_neg (by omega), if_neg (by omega), if_neg (by omega), if_neg (by omega), if_neg (by omega)]
  have k1 : ∀ q, q ≠ r → (fr1 r s).1 1 q = s.1 1 q := fun q hq => by rw [fr1_at, if_neg (by omega), if_neg (by omega), if_neg (by omega), if_neg (by omega), if_neg (by omega)]
  have k2 : ∀ q, q ≠ r → (fr1 r s).1 2 q = s.1 2 q := fun q hq => by rw [fr1_at, if_neg (by omega), if_neg (by omega), if_neg (by omega), if_neg (by omega), if_neg (by omega)]
  have k3 : ∀ q, q < 10 → (fr1 r s).1 3 q = (if q = r then 0 else s.1 3 q) &&& m3 r := fun q hq => by rw [fr1_at, if_pos ⟨rfl, hq⟩]
  have hp : ∀ t, pP (fr1 r s).1 t = pP s.1 t := fun t => by unfold pP; rw [e5]
  have hc : ∀ t, pC (fr1 r s).1 t = pC s.1 t := fun t => by unfold pC; rw [e6]
  have hcd : ∀ t, cdo (fr1 r s).1 t = cdo s.1 t := fun t => by unfold cdo; rw [hp, hc]
  have hl : ∀ t, lv (fr1 r s).1 t ↔ lv s.1 t := fun t => by unfold lv; rw [e4]
  have D2 := fr1_2 r s
  refine ⟨?_, fun q hq => ?_, fun t ht hlt => ?_, ?_, ?_, ?_⟩
  · unfold Wf
    rw [e4, e5, e6, e7, e8, e9, D2]
    refine ⟨w.1, w.2.1, w.2.2.1, fun x hx => w.2.2.2.1 x (mem_dropL.mp (mem_dropL.mp hx).1).1, dropL_nodup (dropL_nodup w.2.2.2.2.1), w.2.2.2.2.2.1, w.2.2.2.2.2.2.1, w.2.2.2.2.2.2.2⟩
  · by_cases e : q = r
    · subst e
      have a0 : (fr1 q s).1 0 q = 0 := by rw [fr1_at, if_neg (by omega), if_neg (by omega), if_neg (by omega), if_neg (by omega), if_pos ⟨rfl, rfl⟩]
      have a1 : (fr1 q s).1 1 q = 0 := by rw [fr1_at, if_neg (by omega), if_neg (by omega), if_neg (by omega), if_pos ⟨rfl, rfl⟩]
      have a2 : (fr1 q s).1 2 q = -9 := by rw [fr1_at, if_neg (by omega), if_neg (by omega), if_pos ⟨rfl, rfl⟩]
      rw [a0, a1, a2, k3 q hq, if_pos rfl]
      exact ⟨⟨0, by omega, rfl⟩, ⟨0, by omega, rfl⟩, Or.inl rfl, M20.zero.and _, fun _ => rfl⟩
    · have := hT q hq
      rw [k0 q e, k1 q e, k2 q e, k3 q hq, if_neg e]
      exact ⟨this.1, this.2.1, this.2.2.1, this.2.2.2.1.and _, this.2.2.2.2⟩
  · have hlt2 := (hl t).mp hlt
    have hne := hno t ht hlt2
    have := hL t ht hlt2
    unfold tp zn
    rw [hp, hc, k0 _ hne, k1 _ hne, e4]
    exact this
  · unfold Uq
    rw [e4, e5, e6]; exact hU
  · unfold Lvs lv
    rw [e4, e7, e9, D2]; exact hV
  · intro t ht hlt hk f hf h5 hx
    rw [hcd]
    rw [e7] at h5 hx ⊢
    rw [e5] at hx
    rw [hp] at hk ⊢
    have hlt2 := (hl t).mp hlt
    have hne := hno t ht hlt2
    rw [k0 _ hne] at hk
    obtain ⟨u, hu, eu, ec⟩ := nl_cl (w.2.1 (2 * t + f) (by omega)) h5
    have hlu : lv s.1 u := by
      have := (hV.1 (2 * t + f) (by omega)).resolve_left h5
      rw [ec] at this; exact this
    have hne2 := hno u hu hlu
    have hR2 := hR t ht hlt2 hk f hf h5 hx
    rw [ec] at hR2 ⊢
    have hpt := (w.pl ht).2
    have hcl := (w.ce ht).2
    have hcd20 := cdo_lt w ht
    have hdiv : cdo s.1 t / 2 = pP s.1 t := by unfold cdo; omega
    rcases hR2 with q | q
    · left
      rw [D2]
      show nI (cdo s.1 t) ∈ dropL (nI (2 * r + 1)) (dropL (nI (2 * r)) s.2.1)
      rw [mem_dropL, mem_dropL]
      refine ⟨⟨q, fun e => ?_⟩, fun e => ?_⟩
      · rw [nI_eq (by omega) (by omega)] at e; omega
      · rw [nI_eq (by omega) (by omega)] at e; omega
    · right
      rw [k3 _ (w.pl hu).2, if_neg hne2, bt_and, q, bt_m3 hr (by omega), hdiv, decide_eq_false hne]
      rfl
theorem i1_em {s : HS} (h : I1 s) {r : Nat} {st : Nat → Bool} (hroot : ∀ q, q < 6 → s.1 9 q = -5 ∨ ¬ dd s r st (s.1 9 q).toNatClampNeg) (hgrey : ∀ x, x ∈ s.2.2 → ¬ dd s r st x.toNatClampNeg) : I1 (em r st s) := by
  obtain ⟨w, hT, hL, hU, hV, hR⟩ := h
  obtain ⟨D2, row, r4, r7⟩ := em_all r st s
  generalize em r st s = q at D2 row r4 r7 ⊢
  have e0 := row 0 (by decide) (by decide)
  have e1 := row 1 (by decide) (by decide)
  have e2 := row 2 (by decide) (by decide)
  have e3 := row 3 (by decide) (by decide)
  have e5 := row 5 (by decide) (by decide)
  have e6 := row 6 (by decide) (by decide)
  have e8 := row 8 (by decide) (by decide)
  have e9 := row 9 (by decide) (by decide)
  have hl : ∀ t, t < 32 → (lv q.1 t ↔ lv s.1 t ∧ ¬ dd s r st t) := fun t ht => by
    by_cases hd : dd s r st t
    · have := (r4 t).1 ⟨ht, hd⟩
      constructor
      · intro a
        unfold lv at a
        rw [this] at a
        exact absurd (by decide) a
      · intro a; exact absurd hd a.2
    · have := (r4 t).2 (fun a => hd a.2)
      unfold lv
      rw [this]
      exact ⟨fun a => ⟨a, hd⟩, fun a => a.1⟩
  have h4 : ∀ t, t < 32 → ¬ dd s r st t → q.1 4 t = s.1 4 t := fun t ht hd => (r4 t).2 (fun a => hd a.2)
  have hp : ∀ t, pP q.1 t = pP s.1 t := fun t => by unfold pP; rw [e5]
  have hc : ∀ t, pC q.1 t = pC s.1 t := fun t => by unfold pC; rw [e6]
  have hcd : ∀ t, cdo q.1 t = cdo s.1 t := fun t => by unfold cdo; rw [hp, hc]
  have f7 : ∀ i, i < 64 → q.1 7 i ≠ -5 → q.1 7 i = s.1 7 i ∧ ∃ u, u < 32 ∧ s.1 7 i = nI u ∧ ¬ dd s r st u := fun i hi h5 => by
    by_cases a : ∃ u, u < 32 ∧ dd s r st u ∧ s.1 7 i = nI u
    · exact absurd ((r7 i hi).1 a) h5
    · have e := (r7 i hi).2 a
      refine ⟨e, ?_⟩
      obtain ⟨u, hu, eu, _⟩ := nl_cl (w.2.1 i hi) (by rw [← e]; exact h5)
      exact ⟨u, hu, eu, fun b => a ⟨u, hu, b, eu⟩⟩
  have hlive : ∀ v, Nl v → (v = -5 ∨ lv s.1 v.toNatClampNeg) → (v = -5 ∨ ¬ dd s r st v.toNatClampNeg) → v = -5 ∨ lv q.1 v.toNatClampNeg := fun v hn h1 h2 => by
    by_cases h5 : v = -5
    · exact Or.inl h5
    · obtain ⟨u, hu, eu, ec⟩ := nl_cl hn h5
      right
      have a := h1.resolve_left h5
      have b := h2.resolve_left h5
      rw [ec] at a b ⊢
      exact (hl u hu).mpr ⟨a, b⟩
  refine ⟨?_, ?_, fun t ht hlt => ?_, fun t u ht hu hlt hlu q5 q6 => ?_, ⟨fun i hi => ?_, fun i hi => ?_, fun x hx => ?_⟩, fun t ht hlt hk f hf h5 hx => ?_⟩
  · unfold Wf
    rw [e5, e6, e8, e9, D2]
    refine ⟨fun t ht => ⟨?_, (w.1 t ht).2⟩, fun i hi => ?_, w.2.2⟩
    · by_cases hd : dd s r st t
      · rw [(r4 t).1 ⟨ht, hd⟩]; exact ⟨0, by omega, rfl⟩
      · rw [h4 t ht hd]; exact (w.1 t ht).1
    · by_cases h5 : q.1 7 i = -5
      · exact Or.inl h5
      · rw [(f7 i hi h5).1]; exact w.2.1 i hi
  · unfold Tops
    rw [e0, e1, e2, e3]; exact hT
  · have a := (hl t ht).mp hlt
    have := hL t ht a.1
    unfold tp zn
    rw [hp, hc, e0, e1, h4 t ht a.2]
    exact this
  · rw [e5] at q5
    rw [e6] at q6
    exact hU t u ht hu ((hl t ht).mp hlt).1 ((hl u hu).mp hlu).1 q5 q6
  · by_cases h5 : q.1 7 i = -5
    · exact Or.inl h5
    · obtain ⟨e, u, hu, eu, hd⟩ := f7 i hi h5
      right
      have hlu := (hV.1 i hi).resolve_left (by rw [← e]; exact h5)
      rw [e]
      rw [eu, nI_clamp (show u < 2 ^ 31 by omega)] at hlu ⊢
      exact (hl u hu).mpr ⟨hlu, hd⟩
  · rw [e9]
    exact hlive _ (w.2.2.1 i hi) (hV.2.1 i hi) (hroot i hi)
  · rw [D2] at hx
    have := hlive x (nl_rg (w.2.2.2.2.2.1 x hx)) (Or.inr (hV.2.2 x hx)) (Or.inr (hgrey x hx))
    rcases this with a | a
    · obtain ⟨j, hj, ej⟩ := w.2.2.2.2.2.1 x hx
      rw [ej] at a
      exact absurd a (fun z => nI_pos (n := j) (by omega) (by rw [z]; decide))
    · exact a
  · have a := (hl t ht).mp hlt
    obtain ⟨e, _⟩ := f7 (2 * t + f) (by omega) h5
    rw [e] at h5 hx ⊢
    rw [e5] at hx
    rw [hcd, hp, e3, D2]
    rw [hp, e0] at hk
    exact hR t ht a.1 hk f hf h5 hx
