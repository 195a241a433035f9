/-! ===== 73 a small thing is made ===== -/
def mk0 (t z : Nat) (s : HS) : HS := (wr (wr (wr (wr s.1 4 t (nI z)) 7 (2 * t) (-5)) 7 (2 * t + 1) (-5)) 8 t 2, s.2)
def mkS (t z r : Nat) (s : HS) : HS := lay t r (wr (wr (mk0 t z s).1 0 r 1) 13 0 (nI r), s.2)
theorem mkS_at (t z r : Nat) (s : HS) (k i : Nat) : (mkS t z r s).1 k i = if k = 1 ∧ i = r then s.1 1 r + nI z else if k = 6 ∧ i = t then s.1 1 r else if k = 5 ∧ i = t then nI r else if k = 13 ∧ i = 0 then nI r else if k = 0 ∧ i = r then 1 else if k = 8 ∧ i = t then 2 else if k = 7 ∧ i = 2 * t + 1 then -5 else if k = 7 ∧ i = 2 * t then -5 else if k = 4 ∧ i = t then nI z else s.1 k i := by
  unfold mkS
  rw [lay_at]
  have e1 : (wr (wr (mk0 t z s).1 0 r 1) 13 0 (nI r)) 1 r = s.1 1 r := rfl
  have e4 : (wr (wr (mk0 t z s).1 0 r 1) 13 0 (nI r)) 4 t = nI z := by
    show wr s.1 4 t (nI z) 4 t = nI z
    rw [wr_at, if_pos ⟨rfl, rfl⟩]
  have ek : (wr (wr (mk0 t z s).1 0 r 1) 13 0 (nI r)) k i = if k = 13 ∧ i = 0 then nI r else if k = 0 ∧ i = r then 1 else if k = 8 ∧ i = t then 2 else if k = 7 ∧ i = 2 * t + 1 then -5 else if k = 7 ∧ i = 2 * t then -5 else if k = 4 ∧ i = t then nI z else s.1 k i := by
    unfold mk0
    show wr (wr (wr (wr (wr (wr s.1 4 t (nI z)) 7 (2 * t) (-5)) 7 (2 * t + 1) (-5)) 8 t 2) 0 r 1) 13 0 (nI r) k i = _
    rw [wr_at, wr_at, wr_at, wr_at, wr_at, wr_at]
  show (if k = 1 ∧ i = r then (wr (wr (mk0 t z s).1 0 r 1) 13 0 (nI r)) 1 r + (wr (wr (mk0 t z s).1 0 r 1) 13 0 (nI r)) 4 t else if k = 6 ∧ i = t then (wr (wr (mk0 t z s).1 0 r 1) 13 0 (nI r)) 1 r else if k = 5 ∧ i = t then nI r else (wr (wr (mk0 t z s).1 0 r 1) 13 0 (nI r)) k i) = _
  rw [e1, e4, ek]
theorem c_mk0 {A : IA} {s : HS} (h : CR A s) {t : Nat} (ht : t < 32) (z : Nat) : CR (wr (wr (wr (wr A 4 t (nI z)) 7 (2 * t) (-5)) 7 (2 * t + 1) (-5)) 8 t 2) (mk0 t z s) :=
  cr_wr (cr_wr (cr_wr (cr_wr h (w_th ht (by omega) (by omega) (by omega)) _) (w_fd (show 2 * t < 64 by omega)) _) (w_fd (show 2 * t + 1 < 64 by omega)) _) (w_th ht (by omega) (by omega) (by omega)) _
theorem c_makeS {A : IA} {s : HS} (h : CR A s) {t z r : Nat} (ht : t < 32) (hz : z ≤ 4) (hr : r < 10) : ∃ B, sX1_makeThing A (nI t) (nI z) (nI r) = some B ∧ CR B (mkS t z r s) := by
  obtain ⟨B, eB, hB⟩ := c_lay (cr_sc (cr_wr (c_mk0 h ht z) (w_rg hr (by omega) : r < wid 0) 1) (k := 13) (by decide) (nI r)) ht hr
  refine ⟨B, ?_, hB⟩
  unfold sX1_makeThing
  rw [ck_nI ht (by omega), nI_clamp (show t < 2 ^ 31 by omega), bd_eq, mul2n, ck_nI (show 2 * t < 64 by omega) (by omega), nI_clamp (show 2 * t < 2 ^ 31 by omega), bd_eq, nI_1, ck_nI (show 2 * t + 1 < 64 by omega) (by omega), nI_clamp (show 2 * t + 1 < 2 ^ 31 by omega), bd_eq, ck_nI ht (by omega), bd_eq, if_pos (show nI z ≤ 4 from nI_le (b := 4) hz (by omega)), ck_nI hr (by omega), nI_clamp (show r < 2 ^ 31 by omega), bd_eq, bd_eq, eB]
  rfl
theorem inv_mkS {s : HS} (h : Inv s) {t z r : Nat} (ht : t < 32) (hd : s.1 4 t ≤ 0) (hz : 0 < z) (hz4 : z ≤ 4) (hr : r < 10) (hk : s.1 0 r = 0 ∨ s.1 0 r = 1) (hroom : tp s.1 r + z ≤ 8) : Inv (mkS t z r s) := by
  have hat := mkS_at t z r s
  have e2 : (mkS t z r s).2 = s.2 := rfl
  generalize mkS t z r s = q at hat e2 ⊢
  have hT := h.1.2.1
  have htp := tp_eq hT hr
  have r0 : ∀ i, q.1 0 i = if i = r then 1 else s.1 0 i := fun i => by
    rw [hat, if_neg (by omega), if_neg (by omega), if_neg (by omega), if_neg (by omega)]
    by_cases e : i = r
    · rw [if_pos ⟨rfl, e⟩, if_pos e]
    · rw [if_neg (fun z => e z.2), if_neg (by omega), if_neg (by omega), if_neg (by omega), if_neg (by omega), if_neg e]
  have r1 : ∀ i, q.1 1 i = if i = r then nI (tp s.1 r + z) else s.1 1 i := fun i => by
    rw [hat]
    by_cases e : i = r
    · rw [if_pos ⟨rfl, e⟩, if_pos e, htp.1, nI_add]
    · rw [if_neg (fun z => e z.2), if_neg (by omega), if_neg (by omega), if_neg (by omega), if_neg (by omega), if_neg (by omega), if_neg (by omega), if_neg (by omega), if_neg (by omega), if_neg e]
  have same : ∀ k, k ≠ 0 → k ≠ 1 → k ≠ 4 → k ≠ 5 → k ≠ 6 → k ≠ 7 → k ≠ 8 → k ≠ 13 → q.1 k = s.1 k := fun k a b c d e f g i => funext fun j => by
    rw [hat, if_neg (by omega), if_neg (by omega), if_neg (by omega), if_neg (by omega), if_neg (by omega), if_neg (by omega), if_neg (by omega), if_neg (by omega), if_neg (by omega)]
  have tpq : ∀ i, tp q.1 i = if i = r then tp s.1 r + z else tp s.1 i := fun i => by
    unfold tp
    rw [r1]
    by_cases e : i = r
    · rw [if_pos e, if_pos e, nI_clamp (by omega)]; rfl
    · rw [if_neg e, if_neg e]
  have lvr : s.1 0 r = 0 → ∀ u, u < 32 → lv s.1 u → pP s.1 u ≠ r := fun h0 u hu hl e => by
    have := (h.1.2.2.1 u hu hl).1
    rw [e, h0] at this
    exact this.elim (fun z => absurd z (by decide)) (fun z => z.elim (fun z => absurd z (by decide)) (fun z => absurd z (by decide)))
  refine inv_new h (t := t) (z := z) (r := r) (c := tp s.1 r) ht hd hz (by omega) hr ⟨e2, fun u => ?_, fun u => ?_, fun u => ?_, fun i => ?_, fun u => ?_, same 3 (by decide) (by decide) (by decide) (by decide) (by decide) (by decide) (by decide) (by decide), same 9 (by decide) (by decide) (by decide) (by decide) (by decide) (by decide) (by decide) (by decide), same 12 (by decide) (by decide) (by decide) (by decide) (by decide) (by decide) (by decide) (by decide)⟩ (fun i hi => ?_) (Or.inr ⟨r, hr, ?_, ?_⟩) (fun u hu hl => ⟨?_, ?_⟩) ⟨Or.inl ?_, ?_, fun _ => by omega⟩ (fun u hu hl e => ?_)
  · rw [hat, if_neg (by omega), if_neg (by omega), if_neg (by omega), if_neg (by omega), if_neg (by omega), if_neg (by omega), if_neg (by omega), if_neg (by omega)]
    by_cases e : u = t
    · rw [if_pos ⟨rfl, e⟩, if_pos e]
    · rw [if_neg (fun z => e z.2), if_neg e]
  · rw [hat, if_neg (by omega), if_neg (by omega)]
    by_cases e : u = t
    · rw [if_pos ⟨rfl, e⟩, if_pos e]
    · rw [if_neg (fun z => e z.2), if_neg (by omega), if_neg (by omega), if_neg (by omega), if_neg (by omega), if_neg (by omega), if_neg (by omega), if_neg e]
  · rw [hat, if_neg (by omega)]
    by_cases e : u = t
    · rw [if_pos ⟨rfl, e⟩, if_pos e]; exact htp.1
    · rw [if_neg (fun z => e z.2), if_neg (by omega), if_neg (by omega), if_neg (by omega), if_neg (by omega), if_neg (by omega), if_neg (by omega), if_neg (by omega), if_neg e]
  · rw [hat, if_neg (by omega), if_neg (by omega), if_neg (by omega), if_neg (by omega), if_neg (by omega), if_neg (by omega)]
    by_cases e : i = 2 * t + 1
    · rw [if_pos ⟨rfl, e⟩, if_pos (Or.inr e)]
    · rw [if_neg (fun z => e z.2)]
      by_cases e' : i = 2 * t
      · rw [if_pos ⟨rfl, e'⟩, if_pos (Or.inl e')]
      · rw [if_neg (fun z => e' z.2), if_neg (by omega), if_neg (by omega)]
  · rw [hat, if_neg (by omega), if_neg (by omega), if_neg (by omega), if_neg (by omega), if_neg (by omega)]
    by_cases e : u = t
    · rw [if_pos ⟨rfl, e⟩, if_pos e]
    · rw [if_neg (fun z => e z.2), if_neg (by omega), if_neg (by omega), if_neg (by omega), if_neg e]
  · have := hT i hi
    rw [r0, r1, same 2 (by decide) (by decide) (by decide) (by decide) (by decide) (by decide) (by decide) (by decide), same 3 (by decide) (by decide) (by decide) (by decide) (by decide) (by decide) (by decide) (by decide)]
    by_cases e : i = r
    · rw [if_pos e, if_pos e]
      exact ⟨⟨1, by omega, rfl⟩, ⟨_, by omega, rfl⟩, this.2.2.1, this.2.2.2.1, fun z => absurd z (by decide)⟩
    · rw [if_neg e, if_neg e]; exact this
  · rw [hat, if_neg (by omega), if_neg (by omega), if_neg (by omega), if_pos ⟨rfl, rfl⟩]
  · rw [r0, if_pos rfl]
  · rw [r0]
    by_cases e : pP s.1 u = r
    · rw [if_pos e, e]
      exact (hk.resolve_left (fun h0 => lvr h0 u hu hl e)).symm
    · rw [if_neg e]
  · rw [tpq]
    by_cases e : pP s.1 u = r
    · rw [if_pos e, e]; omega
    · rw [if_neg e]; exact Nat.le_refl _
  · rw [r0, if_pos rfl]
  · rw [tpq, if_pos rfl]; omega
  · have := (h.1.2.2.1 u hu hl).2.1
    rw [e] at this
    omega
