/-! ===== 75 the call that makes a thing ===== -/
theorem mkB_at (t z r : Nat) (s : HS) (k i : Nat) : (mkB t z r s).1 k i = if k = 4 ∧ i = t then nI z else if k = 8 ∧ i = t then 2 else if k = 7 ∧ i = 2 * t + 1 then -5 else if k = 7 ∧ i = 2 * t then -5 else if k = 6 ∧ i = t then 0 else if k = 5 ∧ i = t then nI r else if k = 0 ∧ r ≤ i ∧ i < r + (z + 7) / 8 then (if i = r then 3 else 4) else if k = 1 ∧ r ≤ i ∧ i < r + (z + 7) / 8 then 8 else s.1 k i := by
  unfold mkB
  rw [lie_at, (tk_at r s _).2]
theorem inv_mkB {s : HS} (h : Inv s) {t z r : Nat} (ht : t < 32) (hd : s.1 4 t ≤ 0) (hz : 4 < z) (hz2 : z ≤ 24) (hr : r + (z + 7) / 8 ≤ 10) (hf : frees s.1 r ((z + 7) / 8)) : Inv (mkB t z r s) := by
  have hat := mkB_at t z r s
  have e2 : (mkB t z r s).2 = s.2 := (tk_at r s _).1
  generalize mkB t z r s = q at hat e2 ⊢
  obtain ⟨w, ew⟩ : ∃ w, (z + 7) / 8 = w := ⟨_, rfl⟩
  have hw : 0 < w := by omega
  rw [ew] at hr hf hat
  have hT := h.1.2.1
  have no : ∀ u, u < 32 → lv s.1 u → ¬ (r ≤ pP s.1 u ∧ pP s.1 u < r + w) := fun u hu hl e => by
    have := (h.1.2.2.1 u hu hl).1
    rw [hf _ e.1 e.2] at this
    exact this.elim (fun z => absurd z (by decide)) (fun z => z.elim (fun z => absurd z (by decide)) (fun z => absurd z (by decide)))
  have r0 : ∀ i, q.1 0 i = if r ≤ i ∧ i < r + w then (if i = r then 3 else 4) else s.1 0 i := fun i => by
    rw [hat, if_neg (by omega), if_neg (by omega), if_neg (by omega), if_neg (by omega), if_neg (by omega), if_neg (by omega)]
    by_cases e : r ≤ i ∧ i < r + w
    · rw [if_pos ⟨rfl, e⟩, if_pos e]
    · rw [if_neg (fun z => e z.2), if_neg (by omega), if_neg e]
  have r1 : ∀ i, q.1 1 i = if r ≤ i ∧ i < r + w then 8 else s.1 1 i := fun i => by
    rw [hat, if_neg (by omega), if_neg (by omega), if_neg (by omega), if_neg (by omega), if_neg (by omega), if_neg (by omega), if_neg (by omega)]
    by_cases e : r ≤ i ∧ i < r + w
    · rw [if_pos ⟨rfl, e⟩, if_pos e]
    · rw [if_neg (fun z => e z.2), if_neg e]
  have same : ∀ k, k ≠ 0 → k ≠ 1 → k ≠ 4 → k ≠ 5 → k ≠ 6 → k ≠ 7 → k ≠ 8 → q.1 k = s.1 k := fun k a b c d e f g => funext fun j => by
    rw [hat, if_neg (by omega), if_neg (by omega), if_neg (by omega), if_neg (by omega), if_neg (by omega), if_neg (by omega), if_neg (by omega), if_neg (by omega)]
  refine inv_new h (t := t) (z := z) (r := r) (c := 0) ht hd (by omega) hz2 (by omega) ⟨e2, fun u => ?_, fun u => ?_, fun u => ?_, fun i => ?_, fun u => ?_, same 3 (by decide) (by decide) (by decide) (by decide) (by decide) (by decide) (by decide), same 9 (by decide) (by decide) (by decide) (by decide) (by decide) (by decide) (by decide), same 12 (by decide) (by decide) (by decide) (by decide) (by decide) (by decide) (by decide)⟩ (fun i hi => ?_) ?_ (fun u hu hl => ⟨?_, ?_⟩) ⟨Or.inr ?_, ?_, fun z => absurd ?_ z⟩ (fun u hu hl e => ?_)
  · rw [hat]
    by_cases e : u = t
    · rw [if_pos ⟨rfl, e⟩, if_pos e]
    · rw [if_neg (fun z => e z.2), if_neg (by omega), if_neg (by omega), if_neg (by omega), if_neg (by omega), if_neg (by omega), if_neg (by omega), if_neg (by omega), if_neg e]
  · rw [hat, if_neg (by omega), if_neg (by omega), if_neg (by omega), if_neg (by omega), if_neg (by omega)]
    by_cases e : u = t
    · rw [if_pos ⟨rfl, e⟩, if_pos e]
    · rw [if_neg (fun z => e z.2), if_neg (by omega), if_neg (by omega), if_neg e]
  · rw [hat, if_neg (by omega), if_neg (by omega), if_neg (by omega), if_neg (by omega)]
    by_cases e : u = t
    · rw [if_pos ⟨rfl, e⟩, if_pos e]; rfl
    · rw [if_neg (fun z => e z.2), if_neg (by omega), if_neg (by omega), if_neg (by omega), if_neg e]
  · rw [hat, if_neg (by omega), if_neg (by omega)]
    by_cases e : i = 2 * t + 1
    · rw [if_pos ⟨rfl, e⟩, if_pos (Or.inr e)]
    · rw [if_neg (fun z => e z.2)]
      by_cases e' : i = 2 * t
      · rw [if_pos ⟨rfl, e'⟩, if_pos (Or.inl e')]
      · rw [if_neg (fun z => e' z.2), if_neg (by omega), if_neg (by omega), if_neg (by omega), if_neg (by omega), if_neg (by omega)]
  · rw [hat, if_neg (by omega)]
    by_cases e : u = t
    · rw [if_pos ⟨rfl, e⟩, if_pos e]
    · rw [if_neg (fun z => e z.2), if_neg (by omega), if_neg (by omega), if_neg (by omega), if_neg (by omega), if_neg (by omega), if_neg (by omega), if_neg e]
  · have := hT i hi
    rw [r0, r1, same 2 (by decide) (by decide) (by decide) (by decide) (by decide) (by decide) (by decide), same 3 (by decide) (by decide) (by decide) (by decide) (by decide) (by decide) (by decide)]
    by_cases e : r ≤ i ∧ i < r + w
    · rw [if_pos e, if_pos e]
      refine ⟨?_, ⟨8, by omega, rfl⟩, this.2.2.1, this.2.2.2.1, ?_⟩
      · split
        · exact ⟨3, by omega, rfl⟩
        · exact ⟨4, by omega, rfl⟩
      · split
        · exact fun z => absurd z (by decide)
        · exact fun z => absurd z (by decide)
    · rw [if_neg e, if_neg e]; exact this
  · rcases h.1.2.2.2.2.2.2 with z' | ⟨y, hy, ey, ky⟩
    · exact Or.inl (by rw [same 13 (by decide) (by decide) (by decide) (by decide) (by decide) (by decide) (by decide)]; exact z')
    · refine Or.inr ⟨y, hy, by rw [same 13 (by decide) (by decide) (by decide) (by decide) (by decide) (by decide) (by decide)]; exact ey, ?_⟩
      rw [r0, if_neg (fun e => by rw [hf y e.1 e.2] at ky; exact absurd ky (by decide))]; exact ky
  · rw [r0, if_neg (no u hu hl)]
  · unfold tp
    rw [r1, if_neg (no u hu hl)]; exact Nat.le_refl _
  · rw [r0, if_pos ⟨Nat.le_refl _, by omega⟩, if_pos rfl]
  · unfold tp
    rw [r1, if_pos ⟨Nat.le_refl _, by omega⟩]
    decide
  · rw [r0, if_pos ⟨Nat.le_refl _, by omega⟩, if_pos rfl]
  · exact absurd ⟨by omega, by omega⟩ (no u hu hl)
theorem mk_end {kf : Nat → Int32} {rgt yct : Int32} {fctc : UInt32} {Ap : IA} {Fpc : FA} {Ar : IA} {nx kn : Int32} {HA : Nat → IA} {HF : Nat → FA} {N K : IA} {G : FA} {B : IA} {q : HS} {t p : Nat} (hH : Hist nx kn HA HF N G) (hI : Img kf HA HF N G) (h14 : HF 0 14 0 = G 2 0) (h15 : HF 0 15 0 = G 2 1) (hB : CR B q) (hK : MR (K 1) q) (fK : Fr N K) (hq : Inv q) (ht : t < 32) (hp : p < 6) (hl : lv q.1 t) (h8 : q.1 8 t = 2) : Rl (kf, rgt, yct, fctc, Ap, Fpc, Ar, nx, kn, upH (upH HA 0 B) 0 (wr (upH HA 0 B 0) 9 p (nI t)), HF) (wr K 1 (192 + p) (nI t)) G := by
  have hc : (nI t).toNatClampNeg = t := nI_clamp (by omega)
  have e0 : upH HA 0 B 0 = B := by rw [upH_at, if_pos rfl]
  have hcq : Cq (wr B 9 p (nI t)) (HF 0) ((wr K 1 (192 + p) (nI t)) 1) (G 2 0) (G 2 1) := ⟨(wr q.1 9 p (nI t), q.2), cr_wr hB (w_rt hp) _, mr_wr hK (k := 9) (w_rt hp) rfl _, inv_root hq (Or.inr ⟨⟨t, ht, rfl⟩, by rw [hc]; exact hl⟩) (fun _ => Or.inr (Or.inl (by rw [hc]; exact h8))), h14, h15⟩
  have hR : Rl (kf, rgt, yct, fctc, Ap, Fpc, Ar, nx, kn, upH HA 0 (wr B 9 p (nI t)), HF) (wr K 1 (192 + p) (nI t)) G := rl_put hH hI hcq (by rw [wr_row_ne _ _ _ (by decide)]; exact fK 3 (by decide)) (by rw [wr_row_ne _ _ _ (by decide)]; exact fK 5 (by decide)) (by rw [wr_row_ne _ _ _ (by decide)]; exact fK 6 (by decide)) (by rw [wr_row_ne _ _ _ (by decide)]; exact fK 8 (by decide))
  rw [e0, show upH (upH HA 0 B) 0 (wr B 9 p (nI t)) = upH HA 0 (wr B 9 p (nI t)) from funext fun k => by
    rw [upH_at, upH_at, upH_at]
    by_cases e : k = 0
    · rw [if_pos e, if_pos e]
    · rw [if_neg e, if_neg e, if_neg e]]
  exact hR
