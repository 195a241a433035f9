/-! ===== 45 what holds of a heap between the calls (but for what is led to) ===== -/
def lv (h : IA) (t : Nat) : Prop := ¬ h 4 t ≤ 0
def tp (h : IA) (r : Nat) : Nat := (h 1 r).toNatClampNeg
def zn (h : IA) (t : Nat) : Nat := (h 4 t).toNatClampNeg
def Tops (h : IA) : Prop := ∀ r, r < 10 → Rg 5 (h 0 r) ∧ Rg 9 (h 1 r) ∧ (h 2 r = -9 ∨ Rg 769 (h 2 r)) ∧ M20 (h 3 r) ∧ (h 0 r = 0 → h 1 r = 0)
def Lies (h : IA) : Prop := ∀ t, t < 32 → lv h t → (h 0 (pP h t) = 1 ∨ h 0 (pP h t) = 2 ∨ h 0 (pP h t) = 3) ∧ pC h t < tp h (pP h t) ∧ (h 0 (pP h t) ≠ 3 → zn h t ≤ 8)
def Lvs (s : HS) : Prop := (∀ i, i < 64 → s.1 7 i = -5 ∨ lv s.1 (s.1 7 i).toNatClampNeg) ∧ (∀ r, r < 6 → s.1 9 r = -5 ∨ lv s.1 (s.1 9 r).toNatClampNeg) ∧ ∀ x, x ∈ s.2.2 → lv s.1 x.toNatClampNeg
def Mk (s : HS) : Prop := (s.1 12 0 = 0 ∧ s.2.2 = []) ∨ (s.1 12 0 = 1 ∧ s.2.2 ≠ [])
def Ly (h : IA) : Prop := h 13 0 = -9 ∨ ∃ r, r < 10 ∧ h 13 0 = nI r ∧ h 0 r = 1
def St (s : HS) : Prop := Wf s ∧ Tops s.1 ∧ Lies s.1 ∧ Uq s.1 ∧ Lvs s ∧ Mk s ∧ Ly s.1
theorem tp_eq {h : IA} (hT : Tops h) {r : Nat} (hr : r < 10) : h 1 r = nI (tp h r) ∧ tp h r ≤ 8 := by
  have := (hT r hr).2.1.cl (by omega)
  exact ⟨this.2, by have := this.1; unfold tp; omega⟩
theorem zn_eq {s : HS} (w : Wf s) {t : Nat} (ht : t < 32) : s.1 4 t = nI (zn s.1 t) ∧ zn s.1 t ≤ 24 := by
  have := (w.1 t ht).1.cl (by omega)
  exact ⟨this.2, by have := this.1; unfold zn; omega⟩
theorem lv_zn {s : HS} (w : Wf s) {t : Nat} (ht : t < 32) : lv s.1 t ↔ 0 < zn s.1 t := by
  have h := zn_eq w ht
  unfold lv
  rw [h.1, show (0 : Int32) = nI 0 from rfl, nI_leI (by omega) (by omega)]
  omega
def lay (t r : Nat) (s : HS) : HS := (wr (wr (wr s.1 5 t (nI r)) 6 t (s.1 1 r)) 1 r (s.1 1 r + s.1 4 t), s.2)
theorem lay_at (t r : Nat) (s : HS) (k i : Nat) : (lay t r s).1 k i = if k = 1 ∧ i = r then s.1 1 r + s.1 4 t else if k = 6 ∧ i = t then s.1 1 r else if k = 5 ∧ i = t then nI r else s.1 k i := by
  show wr (wr (wr s.1 5 t (nI r)) 6 t (s.1 1 r)) 1 r (s.1 1 r + s.1 4 t) k i = _
  rw [wr_at, wr_at, wr_at]
theorem lay_row (t r : Nat) (s : HS) {k : Nat} (h1 : k ≠ 1) (h5 : k ≠ 5) (h6 : k ≠ 6) : (lay t r s).1 k = s.1 k := by
  funext i
  rw [lay_at, if_neg (fun q => h1 q.1), if_neg (fun q => h6 q.1), if_neg (fun q => h5 q.1)]
theorem c_lay {A : IA} {s : HS} (h : CR A s) {t r : Nat} (ht : t < 32) (hr : r < 10) : ∃ B, sX1_layAtTop A (nI t) (nI r) = some B ∧ CR B (lay t r s) := by
  have hct : (nI t).toNatClampNeg = t := nI_clamp (by omega)
  have hcr : (nI r).toNatClampNeg = r := nI_clamp (by omega)
  have w5 : t < wid 5 := w_th ht (by omega) (by omega) (by omega)
  have w6 : t < wid 6 := w_th ht (by omega) (by omega) (by omega)
  have w4 : t < wid 4 := w_th ht (by omega) (by omega) (by omega)
  have w1 : r < wid 1 := w_rg hr (by omega)
  refine ⟨wr (wr (wr A 5 t (nI r)) 6 t (A 1 r)) 1 r (A 1 r + A 4 t), ?_, ?_⟩
  · unfold sX1_layAtTop
    rw [ck_nI ht (by omega), hct, bd_eq, ck_nI hr (by omega), ck_nI ht (by omega), hcr, bd_eq, ck_nI hr (by omega), ck_nI ht (by omega), ck_nI hr (by omega), bd_eq]
    rfl
  · have := cr_wr (cr_wr (cr_wr h w5 (nI r)) w6 (s.1 1 r)) w1 (s.1 1 r + s.1 4 t)
    rw [h.1 1 r w1, h.1 4 t w4]
    exact this
/-! a free region becomes old -/
theorem st_old {s : HS} (h : St s) {r : Nat} (hr : r < 10) (h0 : s.1 0 r = 0) : St (wr s.1 0 r 2, s.2) := by
  obtain ⟨w, hT, hL, hU, hV, hM, hY⟩ := h
  have h00 : ∀ i, wr s.1 0 r 2 0 i = if i = r then 2 else s.1 0 i := fun i => by
    rw [wr_at]
    by_cases e : i = r
    · rw [if_pos ⟨rfl, e⟩, if_pos e]
    · rw [if_neg (fun q => e q.2), if_neg e]
  refine ⟨w, fun q hq => ?_, fun t ht hl => ?_, hU, hV, hM, ?_⟩
  · show Rg 5 (wr s.1 0 r 2 0 q) ∧ Rg 9 (s.1 1 q) ∧ (s.1 2 q = -9 ∨ Rg 769 (s.1 2 q)) ∧ M20 (s.1 3 q) ∧ (wr s.1 0 r 2 0 q = 0 → s.1 1 q = 0)
    have hq2 := hT q hq
    rw [h00]
    by_cases e : q = r
    · rw [if_pos e]
      exact ⟨⟨2, by omega, rfl⟩, hq2.2.1, hq2.2.2.1, hq2.2.2.2.1, fun z => absurd z (by decide)⟩
    · rw [if_neg e]; exact hq2
  · show (wr s.1 0 r 2 0 (pP s.1 t) = 1 ∨ wr s.1 0 r 2 0 (pP s.1 t) = 2 ∨ wr s.1 0 r 2 0 (pP s.1 t) = 3) ∧ pC s.1 t < tp s.1 (pP s.1 t) ∧ (wr s.1 0 r 2 0 (pP s.1 t) ≠ 3 → zn s.1 t ≤ 8)
    have ht2 := hL t ht hl
    have e : pP s.1 t ≠ r := fun q => by
      rw [q, h0] at ht2
      exact ht2.1.elim (fun z => absurd z (by decide)) (fun z => z.elim (fun z => absurd z (by decide)) (fun z => absurd z (by decide)))
    rw [h00, if_neg e]; exact ht2
  · rcases hY with q | ⟨q, hq, e1, e2⟩
    · exact Or.inl q
    · refine Or.inr ⟨q, hq, e1, ?_⟩
      show wr s.1 0 r 2 0 q = 1
      rw [h00, if_neg (fun z => by rw [z, h0] at e2; exact absurd e2 (by decide))]
      exact e2
/-! a thing is laid at a region's top -/
theorem st_lay {s : HS} (h : St s) {t r : Nat} (ht : t < 32) (hr : r < 10) (hl : lv s.1 t) (hk : s.1 0 r = 1 ∨ s.1 0 r = 2) (hz : tp s.1 r + zn s.1 t ≤ 8) : St (lay t r s) := by
  obtain ⟨w, hT, hL, hU, hV, hM, hY⟩ := h
  have htop := tp_eq hT hr
  have hsz := zn_eq w ht
  have hpos := (lv_zn w ht).mp hl
  have hrow : ∀ k, k ≠ 1 → k ≠ 5 → k ≠ 6 → (lay t r s).1 k = s.1 k := fun k a b c => lay_row t r s a b c
  have e4 := hrow 4 (by decide) (by decide) (by decide)
  have e0 := hrow 0 (by decide) (by decide) (by decide)
  have e7 := hrow 7 (by decide) (by decide) (by decide)
  have e8 := hrow 8 (by decide) (by decide) (by decide)
  have e9 := hrow 9 (by decide) (by decide) (by decide)
  have a5 : ∀ u, (lay t r s).1 5 u = if u = t then nI r else s.1 5 u := fun u => by
    rw [lay_at, if_neg (by omega), if_neg (by omega)]
    by_cases e : u = t
    · rw [if_pos ⟨rfl, e⟩, if_pos e]
    · rw [if_neg (fun q => e q.2), if_neg e]
  have a6 : ∀ u, (lay t r s).1 6 u = if u = t then s.1 1 r else s.1 6 u := fun u => by
    rw [lay_at, if_neg (by omega)]
    by_cases e : u = t
    · rw [if_pos ⟨rfl, e⟩, if_pos e]
    · rw [if_neg (fun q => e q.2), if_neg e, if_neg (by omega)]
  have a1 : ∀ q, (lay t r s).1 1 q = if q = r then nI (tp s.1 r + zn s.1 t) else s.1 1 q := fun q => by
    rw [lay_at]
    by_cases e : q = r
    · rw [if_pos ⟨rfl, e⟩, if_pos e, htop.1, hsz.1, nI_add]
    · rw [if_neg (fun z => e z.2), if_neg e, if_neg (by omega), if_neg (by omega)]
  have p : ∀ u, pP (lay t r s).1 u = if u = t then r else pP s.1 u := fun u => by
    unfold pP
    rw [a5]
    by_cases e : u = t
    · rw [if_pos e, if_pos e, nI_clamp (by omega)]
    · rw [if_neg e, if_neg e]
  have c : ∀ u, pC (lay t r s).1 u = if u = t then tp s.1 r else pC s.1 u := fun u => by
    unfold pC
    rw [a6]
    by_cases e : u = t
    · rw [if_pos e, if_pos e]; rfl
    · rw [if_neg e, if_neg e]
  have tpq : ∀ q, tp (lay t r s).1 q = if q = r then tp s.1 r + zn s.1 t else tp s.1 q := fun q => by
    unfold tp
    rw [a1]
    by_cases e : q = r
    · rw [if_pos e, if_pos e, nI_clamp (by omega)]; rfl
    · rw [if_neg e, if_neg e]
  have lve : ∀ u, lv (lay t r s).1 u ↔ lv s.1 u := fun u => by unfold lv; rw [e4]
  have zne : ∀ u, zn (lay t r s).1 u = zn s.1 u := fun u => by unfold zn; rw [e4]
  refine ⟨⟨fun u hu => ⟨?_, ?_, ?_, ?_⟩, ?_, ?_, w.2.2.2.1, w.2.2.2.2.1, w.2.2.2.2.2.1, w.2.2.2.2.2.2.1, ?_⟩, fun q hq => ?_, fun u hu hlu => ?_, ?_, ?_, ?_, ?_⟩
  · rw [e4]; exact (w.1 u hu).1
  · rw [a5]
    split
    · exact ⟨r, hr, rfl⟩
    · exact (w.1 u hu).2.1
  · rw [a6]
    split
    · exact ⟨tp s.1 r, by omega, htop.1⟩
    · exact (w.1 u hu).2.2.1
  · rw [e8]; exact (w.1 u hu).2.2.2
  · rw [e7]; exact w.2.1
  · rw [e9]; exact w.2.2.1
  · rw [e8]; exact w.2.2.2.2.2.2.2
  · have hq2 := hT q hq
    rw [e0, a1, hrow 2 (by decide) (by decide) (by decide), hrow 3 (by decide) (by decide) (by decide)]
    by_cases e : q = r
    · rw [if_pos e]
      refine ⟨hq2.1, ⟨_, by omega, rfl⟩, hq2.2.2.1, hq2.2.2.2.1, fun z => ?_⟩
      rw [e] at z
      rw [z] at hk
      exact hk.elim (fun z => absurd z (by decide)) (fun z => absurd z (by decide))
    · rw [if_neg e]; exact hq2
  · rw [lve] at hlu
    rw [e0, p, c, zne, tpq]
    by_cases e : u = t
    · rw [if_pos e, if_pos e, if_pos rfl, e]
      exact ⟨hk.elim Or.inl (fun z => Or.inr (Or.inl z)), by omega, fun _ => by omega⟩
    · rw [if_neg e, if_neg e]
      have hu2 := hL u hu hlu
      refine ⟨hu2.1, ?_, hu2.2.2⟩
      by_cases e2 : pP s.1 u = r
      · rw [if_pos e2]
        have := hu2.2.1
        rw [e2] at this
        omega
      · rw [if_neg e2]; exact hu2.2.1
  · intro u v hu hv hlu hlv q5 q6
    have hlu2 : lv s.1 u := (lve u).mp hlu
    have hlv2 : lv s.1 v := (lve v).mp hlv
    rw [a5, a5] at q5
    rw [a6, a6] at q6
    have other : ∀ x, x < 32 → lv s.1 x → s.1 5 x = nI r → s.1 6 x = s.1 1 r → False := by
      intro x hx hlx x5 x6
      have hx2 := hL x hx hlx
      have ep : pP s.1 x = r := by unfold pP; rw [x5, nI_clamp (by omega)]
      have ec : pC s.1 x = tp s.1 r := by unfold pC tp; rw [x6]
      rw [ep, ec] at hx2
      omega
    by_cases eu : u = t
    · by_cases ev : v = t
      · rw [eu, ev]
      · rw [if_pos eu, if_neg ev] at q5 q6
        exact (other v hv hlv2 q5.symm q6.symm).elim
    · by_cases ev : v = t
      · rw [if_neg eu, if_pos ev] at q5 q6
        exact (other u hu hlu2 q5 q6).elim
      · rw [if_neg eu, if_neg ev] at q5 q6
        exact hU u v hu hv hlu2 hlv2 q5 q6
  · unfold Lvs lv
    rw [e7, e9, e4]; exact hV
  · unfold Mk
    rw [hrow 12 (by decide) (by decide) (by decide)]; exact hM
  · unfold Ly
    rw [hrow 13 (by decide) (by decide) (by decide), e0]; exact hY
