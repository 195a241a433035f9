/-! ===== 71 a new thing keeps what holds ===== -/
/-- h' is h with a new thing t of size z at cell c of region r; kinds and tops of regions may have changed -/
def Nw (s q : HS) (t z r c : Nat) : Prop :=
  q.2 = s.2 ∧ (∀ u, q.1 4 u = if u = t then nI z else s.1 4 u) ∧ (∀ u, q.1 5 u = if u = t then nI r else s.1 5 u) ∧ (∀ u, q.1 6 u = if u = t then nI c else s.1 6 u) ∧
  (∀ i, q.1 7 i = if i = 2 * t ∨ i = 2 * t + 1 then -5 else s.1 7 i) ∧ (∀ u, q.1 8 u = if u = t then 2 else s.1 8 u) ∧ q.1 3 = s.1 3 ∧ q.1 9 = s.1 9 ∧ q.1 12 = s.1 12
theorem inv_new {s q : HS} (h : Inv s) {t z r c : Nat} (ht : t < 32) (hd : s.1 4 t ≤ 0) (hz : 0 < z) (hz2 : z ≤ 24) (hr : r < 10) (hN : Nw s q t z r c) (hT : Tops q.1) (hY : Ly q.1)
    (ho : ∀ u, u < 32 → lv s.1 u → q.1 0 (pP s.1 u) = s.1 0 (pP s.1 u) ∧ tp s.1 (pP s.1 u) ≤ tp q.1 (pP s.1 u)) (hn : (q.1 0 r = 1 ∨ q.1 0 r = 3) ∧ c < tp q.1 r ∧ (q.1 0 r ≠ 3 → z ≤ 8)) (hu : ∀ u, u < 32 → lv s.1 u → pP s.1 u = r → pC s.1 u ≠ c) : Inv q := by
  obtain ⟨⟨w, _, hL, hU, hV, hM, _⟩, hR, hB⟩ := h
  obtain ⟨e2, e4, e5, e6, e7, e8, e3, e9, e12⟩ := hN
  have c8 : c < 8 := by have := (tp_eq hT hr).2; omega
  have dead : ¬ lv s.1 t := fun q => q hd
  have nG : ∀ x, x ∈ s.2.2 → x.toNatClampNeg ≠ t := fun x hx e => dead (by rw [← e]; exact hV.2.2 x hx)
  have lvq : ∀ u, u < 32 → (lv q.1 u ↔ u = t ∨ lv s.1 u) := fun u hu' => by
    unfold lv
    rw [e4]
    by_cases e : u = t
    · rw [if_pos e]
      exact ⟨fun _ => Or.inl e, fun _ => nI_nle hz (by omega)⟩
    · rw [if_neg e]
      exact ⟨Or.inr, fun z => z.resolve_left e⟩
  have pq : ∀ u, pP q.1 u = if u = t then r else pP s.1 u := fun u => by
    unfold pP
    rw [e5]
    by_cases e : u = t
    · rw [if_pos e, if_pos e, nI_clamp (by omega)]
    · rw [if_neg e, if_neg e]
  have cq : ∀ u, pC q.1 u = if u = t then c else pC s.1 u := fun u => by
    unfold pC
    rw [e6]
    by_cases e : u = t
    · rw [if_pos e, if_pos e, nI_clamp (by omega)]
    · rw [if_neg e, if_neg e]
  have zq : ∀ u, zn q.1 u = if u = t then z else zn s.1 u := fun u => by
    unfold zn
    rw [e4]
    by_cases e : u = t
    · rw [if_pos e, if_pos e, nI_clamp (by omega)]
    · rw [if_neg e, if_neg e]
  have ne_t : ∀ v : Int32, (v = -5 ∨ lv s.1 v.toNatClampNeg) → v = -5 ∨ v.toNatClampNeg ≠ t := fun v hv => hv.elim Or.inl (fun z => Or.inr (fun e => dead (by rw [← e]; exact z)))
  have lvk : ∀ v : Int32, Nl v → (v = -5 ∨ lv s.1 v.toNatClampNeg) → v = -5 ∨ lv q.1 v.toNatClampNeg := fun v hn' hv => by
    by_cases h5 : v = -5
    · exact Or.inl h5
    · obtain ⟨u, hu', eu, ec⟩ := nl_cl hn' h5
      have := hv.resolve_left h5
      rw [ec] at this ⊢
      exact Or.inr ((lvq u hu').mpr (Or.inr this))
  refine ⟨⟨⟨fun u hu' => ⟨?_, ?_, ?_, ?_⟩, fun i hi => ?_, ?_, ?_⟩, hT, fun u hu' hl => ?_, fun u v hu' hv' hlu hlv q5 q6 => ?_, ⟨fun i hi => ?_, fun i hi => ?_, fun x hx => ?_⟩, ?_, hY⟩, fun u hu' hl hk f hf h5 hx => ?_, fun hm => ?_⟩
  · rw [e4]; split; exact ⟨z, by omega, rfl⟩; exact (w.1 u hu').1
  · rw [e5]; split; exact ⟨r, hr, rfl⟩; exact (w.1 u hu').2.1
  · rw [e6]; split; exact ⟨c, c8, rfl⟩; exact (w.1 u hu').2.2.1
  · rw [e8]; split; exact ⟨2, by omega, rfl⟩; exact (w.1 u hu').2.2.2
  · rw [e7]; split; exact Or.inl rfl; exact w.2.1 i hi
  · rw [e9]; exact w.2.2.1
  · rw [e2]
    refine ⟨w.2.2.2.1, w.2.2.2.2.1, w.2.2.2.2.2.1, w.2.2.2.2.2.2.1, fun x hx => ?_⟩
    rw [e8, if_neg (nG x hx)]; exact w.2.2.2.2.2.2.2 x hx
  · rw [pq, cq, zq]
    by_cases e : u = t
    · rw [if_pos e, if_pos e, if_pos e]
      exact ⟨hn.1.elim Or.inl (fun z => Or.inr (Or.inr z)), hn.2.1, hn.2.2⟩
    · rw [if_neg e, if_neg e, if_neg e]
      have hls := ((lvq u hu').mp hl).resolve_left e
      have a := hL u hu' hls
      have b := ho u hu' hls
      rw [b.1]
      exact ⟨a.1, by have := a.2.1; have := b.2; omega, a.2.2⟩
  · have key : ∀ x, x < 32 → lv s.1 x → s.1 5 x = nI r → s.1 6 x = nI c → False := fun x hx hlx x5 x6 => hu x hx hlx (by unfold pP; rw [x5, nI_clamp (by omega)]) (by unfold pC; rw [x6, nI_clamp (by omega)])
    rw [e5, e5] at q5
    rw [e6, e6] at q6
    by_cases eu : u = t
    · by_cases ev : v = t
      · rw [eu, ev]
      · rw [if_pos eu, if_neg ev] at q5 q6
        exact (key v hv' (((lvq v hv').mp hlv).resolve_left ev) q5.symm q6.symm).elim
    · by_cases ev : v = t
      · rw [if_neg eu, if_pos ev] at q5 q6
        exact (key u hu' (((lvq u hu').mp hlu).resolve_left eu) q5 q6).elim
      · rw [if_neg eu, if_neg ev] at q5 q6
        exact hU u v hu' hv' (((lvq u hu').mp hlu).resolve_left eu) (((lvq v hv').mp hlv).resolve_left ev) q5 q6
  · rw [e7]
    split
    · exact Or.inl rfl
    · exact lvk _ (w.2.1 i hi) (hV.1 i hi)
  · rw [e9]; exact lvk _ (w.2.2.1 i hi) (hV.2.1 i hi)
  · rw [e2] at hx
    obtain ⟨j, hj, ej⟩ := w.2.2.2.2.2.1 x hx
    have := hV.2.2 x hx
    rw [ej, nI_clamp (show j < 2 ^ 31 by omega)] at this ⊢
    exact (lvq j hj).mpr (Or.inr this)
  · unfold Mk
    rw [e12, e2]; exact hM
  · rw [e7] at h5 hx ⊢
    by_cases e : u = t
    · rw [if_pos (by omega)] at h5
      exact absurd rfl h5
    · rw [if_neg (by omega)] at h5 hx ⊢
      obtain ⟨y, hy, ey, ec⟩ := nl_cl (w.2.1 (2 * u + f) (by omega)) h5
      have hls := ((lvq u hu').mp hl).resolve_left e
      have yt := (ne_t _ (hV.1 (2 * u + f) (by omega))).resolve_left h5
      have ecd : cdo q.1 u = cdo s.1 u := by unfold cdo; rw [pq, cq, if_neg e, if_neg e]
      rw [ecd, e3, e2, pq, if_neg yt]
      rw [pq, if_neg e, (ho u hu' hls).1] at hk
      rw [e5, e5, if_neg yt, if_neg e] at hx
      exact hR u hu' hls hk f hf h5 hx
  · rw [e12] at hm
    obtain ⟨b1, b2, b3⟩ := hB hm
    have kr : ∀ y, Kr s y → Kr q y := by
      intro y hy
      refine (hy (fun y => y ≠ t ∧ Kr q y) (fun g hg hG => ⟨fun e => nG (nI g) hG (by rw [nI_clamp (by omega)]; exact e), Kr.grey hg (by rw [e2]; exact hG)⟩) (fun a b f ha hb' hf hk' e7' h0 => ?_)).2
      have bt' : b ≠ t := fun e => by
        have := ne_t _ (hV.1 (2 * a + f) (by omega))
        rw [e7', nI_clamp (show b < 2 ^ 31 by omega)] at this
        exact this.elim (fun z => nI_pos (n := b) (by omega) (by rw [z]; decide)) (fun z => z e)
      refine ⟨bt', Kr.step ha hb' hf hk'.2 ?_ (by rw [e8, if_neg bt']; exact h0)⟩
      rw [e7, if_neg (by have := hk'.1; omega)]; exact e7'
    have good : ∀ y, Nl y → (y = -5 ∨ lv s.1 y.toNatClampNeg) → (y = -5 ∨ s.1 8 y.toNatClampNeg = 2 ∨ Kr s y.toNatClampNeg) → y = -5 ∨ q.1 8 y.toNatClampNeg = 2 ∨ Kr q y.toNatClampNeg := fun y hn' hl' hy => by
      by_cases h5 : y = -5
      · exact Or.inl h5
      · right
        rcases hy.resolve_left h5 with z' | z'
        · left; rw [e8, if_neg ((ne_t y hl').resolve_left h5)]; exact z'
        · exact Or.inr (kr _ z')
    refine ⟨fun i hi => ?_, fun u hu' hl h2 f hf => ?_, fun u hu' h1 => ?_⟩
    · rw [e9]; exact good _ (w.2.2.1 i hi) (hV.2.1 i hi) (b1 i hi)
    · rw [e7]
      by_cases e : u = t
      · rw [if_pos (by omega)]; exact Or.inl rfl
      · rw [if_neg (by omega)]
        rw [e8, if_neg e] at h2
        exact good _ (w.2.1 _ (by omega)) (hV.1 _ (by omega)) (b2 u hu' (((lvq u hu').mp hl).resolve_left e) h2 f hf)
    · rw [e8] at h1
      rw [e2]
      by_cases e : u = t
      · rw [if_pos e] at h1; exact absurd h1 (by decide)
      · rw [if_neg e] at h1; exact b3 u hu' h1
