/-! ===== 47 all that is found is moved, or stays ===== -/
theorem fd_app {h : IA} {m v : Int32} {X : List Int32} : ∃ Y, fd h m v X = X ++ Y := by
  unfold fd
  split
  · exact ⟨[], by rw [List.append_nil]⟩
  · split
    · split
      · exact ⟨[], by rw [List.append_nil]⟩
      · exact ⟨[v], rfl⟩
    · exact ⟨[], by rw [List.append_nil]⟩
theorem ff_app {h : IA} {m : Int32} {t : Nat} {X : List Int32} : ∃ Y, ff h m t X = X ++ Y := by
  obtain ⟨Y1, e1⟩ := fd_app (h := h) (m := m) (v := h 7 (2 * t)) (X := X)
  obtain ⟨Y2, e2⟩ := fd_app (h := h) (m := m) (v := h 7 (2 * t + 1)) (X := X ++ Y1)
  exact ⟨Y1 ++ Y2, by unfold ff; rw [e1, e2, List.append_assoc]⟩
theorem fd_mem {h : IA} {m v x : Int32} {X : List Int32} (q : x ∈ fd h m v X) : x ∈ X ∨ (x = v ∧ v ≠ -5 ∧ bt m (pP h v.toNatClampNeg) = true) := by
  unfold fd at q
  split at q
  · exact Or.inl q
  · next h5 =>
    split at q
    · next hb =>
      split at q
      · exact Or.inl q
      · rcases List.mem_append.mp q with w | w
        · exact Or.inl w
        · exact Or.inr ⟨List.mem_singleton.mp w, h5, hb⟩
    · exact Or.inl q
/-- what is found: live, in a chosen region, small -/
def FL (h : IA) (m : Int32) (X : List Int32) : Prop := ∀ x, x ∈ X → lv h x.toNatClampNeg ∧ bt m (pP h x.toNatClampNeg) = true ∧ zn h x.toNatClampNeg ≤ 8
/-- chosen regions are young or old -/
def Chm (h : IA) (m : Int32) : Prop := ∀ r, r < 10 → bt m r = true → h 0 r = 1 ∨ h 0 r = 2
theorem fl_fd {s : HS} (hS : St s) {m v : Int32} (hm : Chm s.1 m) {X : List Int32} (hx : FL s.1 m X) (hv : v = -5 ∨ (Rg 32 v ∧ lv s.1 v.toNatClampNeg)) : FL s.1 m (fd s.1 m v X) := by
  intro x q
  rcases fd_mem q with w | ⟨rfl, h5, hb⟩
  · exact hx x w
  · obtain ⟨hr, hl⟩ := hv.resolve_left h5
    obtain ⟨t, ht, rfl⟩ := hr
    rw [nI_clamp (show t < 2 ^ 31 by omega)] at hl hb ⊢
    refine ⟨hl, hb, (hS.2.2.1 t ht hl).2.2 (fun w => ?_)⟩
    have := hm _ (hS.1.pl ht).2 hb
    rw [w] at this
    exact this.elim (fun z => absurd z (by decide)) (fun z => absurd z (by decide))
theorem st_field {s : HS} (hS : St s) {i : Nat} (hi : i < 64) : s.1 7 i = -5 ∨ (Rg 32 (s.1 7 i) ∧ lv s.1 (s.1 7 i).toNatClampNeg) := by
  rcases hS.1.2.1 i hi with q | q
  · exact Or.inl q
  · rcases hS.2.2.2.2.1.1 i hi with w | w
    · exact Or.inl w
    · exact Or.inr ⟨q, w⟩
theorem st_root {s : HS} (hS : St s) {i : Nat} (hi : i < 6) : s.1 9 i = -5 ∨ (Rg 32 (s.1 9 i) ∧ lv s.1 (s.1 9 i).toNatClampNeg) := by
  rcases hS.1.2.2.1 i hi with q | q
  · exact Or.inl q
  · rcases hS.2.2.2.2.1.2.1 i hi with w | w
    · exact Or.inl w
    · exact Or.inr ⟨q, w⟩
theorem fl_ff {s : HS} (hS : St s) {m : Int32} (hm : Chm s.1 m) {X : List Int32} (hx : FL s.1 m X) {t : Nat} (ht : t < 32) : FL s.1 m (ff s.1 m t X) := fl_fd hS hm (fl_fd hS hm hx (st_field hS (by omega))) (st_field hS (by omega))
def TgOK (m : Int32) (z : MS) : Prop := z.2.1 = -9 ∨ ∃ r, r < 10 ∧ z.2.1 = nI r ∧ z.1.1 0 r = 2 ∧ bt m r = false
/-- the state of moving: s as the pause found it, z now, the first i of X done -/
def MI (s : HS) (m : Int32) (z : MS) (X : List Int32) (i : Nat) : Prop :=
  St z.1 ∧ TgOK m z ∧ (FX X ∧ FL s.1 m X) ∧ (∀ k, k ≠ 0 → k ≠ 1 → k ≠ 5 → k ≠ 6 → z.1.1 k = s.1 k) ∧ z.1.2 = s.2 ∧
  (∀ t, t < 32 → ¬ nI t ∈ X.take i → z.1.1 5 t = s.1 5 t ∧ z.1.1 6 t = s.1 6 t) ∧
  (∀ t, t < 32 → nI t ∈ X.take i → (bt z.2.2.1 t = true ∧ z.1.1 5 t = s.1 5 t ∧ z.1.1 6 t = s.1 6 t) ∨ (bt z.2.2.1 t = false ∧ bt m (pP z.1.1 t) = false ∧ z.1.1 0 (pP z.1.1 t) = 2)) ∧
  (∀ t, t < 32 → bt z.2.2.1 t = true → nI t ∈ X.take i) ∧ (∀ r, r < 10 → z.1.1 0 r = s.1 0 r ∨ (s.1 0 r = 0 ∧ z.1.1 0 r = 2))
theorem MI.chosen {s : HS} {m : Int32} (hm : Chm s.1 m) {z : MS} {X : List Int32} {i : Nat} (h : MI s m z X i) {r : Nat} (hr : r < 10) (hb : bt m r = true) : z.1.1 0 r = s.1 0 r := by
  rcases h.2.2.2.2.2.2.2.2 r hr with q | q
  · exact q
  · have := hm r hr hb
    rw [q.1] at this
    exact this.elim (fun z => absurd z (by decide)) (fun z => absurd z (by decide))
theorem MI.cp {s : HS} {m : Int32} (hS : St s) (hm : Chm s.1 m) {z : MS} {X : List Int32} {i : Nat} (h : MI s m z X i) : Cp z.1 s.1 m X :=
  ⟨fun t ht hn => ⟨(h.2.2.2.2.2.1 t ht (fun q => hn (List.mem_of_mem_take q))).1, fun hb => h.chosen hm (hS.1.pl ht).2 hb⟩, fun t _ => by rw [h.2.2.2.1 4 (by decide) (by decide) (by decide) (by decide)], fun i _ => by rw [h.2.2.2.1 7 (by decide) (by decide) (by decide) (by decide)]⟩
theorem TgOK.rg {m : Int32} {z : MS} (h : TgOK m z) : z.2.1 = -9 ∨ Rg 10 z.2.1 := h.elim Or.inl (fun ⟨r, hr, e, _⟩ => Or.inr ⟨r, hr, e⟩)
theorem take_app {X Y : List Int32} {i : Nat} (h : i < X.length) : (X ++ Y).take (i + 1) = X.take i ++ [X.getD i 0] := by
  rw [List.take_append_of_le_length (by omega), take_next h]
/-- laying the next thing -/
theorem mi_lay {s : HS} (hS : St s) {m : Int32} {z : MS} {X : List Int32} {i t r : Nat} (h : MI s m z X i) (hi : i < X.length) (ht : t < 32) (et : X.getD i 0 = nI t) (hr : r < 10) (q : HS) (hq : St q) (hqz : (q = z.1 ∧ z.2.1 = nI r) ∨ (q = (wr z.1.1 0 r 2, z.1.2) ∧ z.1.1 0 r = 0)) (h2 : q.1 0 r = 2) (hbr : bt m r = false) (hz : tp q.1 r + zn q.1 t ≤ 8) (hlv : lv q.1 t) (cp sn : Int32) : MI s m (lay t r q, nI r, z.2.2.1, cp, sn) (ff s.1 m t X) (i + 1) ∨ ¬ (FX (ff s.1 m t X) ∧ FL s.1 m (ff s.1 m t X)) := by
  by_cases hfx : FX (ff s.1 m t X) ∧ FL s.1 m (ff s.1 m t X)
  · left
    obtain ⟨Y, eY⟩ := ff_app (h := s.1) (m := m) (t := t) (X := X)
    have etk : (ff s.1 m t X).take (i + 1) = X.take i ++ [nI t] := by rw [eY, take_app hi, et]
    have hnot : ¬ nI t ∈ X.take i := fun w => by
      have hn := h.2.2.1.1.2
      rw [← List.take_append_drop i X, List.nodup_append] at hn
      exact hn.2.2 (nI t) w (nI t) (by rw [drop_cons hi, et]; exact List.mem_cons_self) rfl
    have hmem : ∀ u, u < 32 → (nI u ∈ (ff s.1 m t X).take (i + 1) ↔ nI u ∈ X.take i ∨ u = t) := fun u hu => by
      rw [etk, List.mem_append, List.mem_singleton, nI_eq (by omega) (by omega)]
    have qrow : ∀ k, k ≠ 0 → q.1 k = z.1.1 k := fun k hk => by
      rcases hqz with w | w
      · rw [w.1]
      · rw [w.1]; exact wr_row_ne _ _ _ hk
    have q2 : q.2 = z.1.2 := by
      rcases hqz with w | w
      · rw [w.1]
      · rw [w.1]
    have qk : ∀ r', r' < 10 → q.1 0 r' = z.1.1 0 r' ∨ (z.1.1 0 r' = 0 ∧ q.1 0 r' = 2 ∧ r' = r) := fun r' _ => by
      rcases hqz with w | w
      · rw [w.1]; exact Or.inl rfl
      · rw [w.1]
        by_cases e : r' = r
        · subst e
          exact Or.inr ⟨w.2, by show wr z.1.1 0 r' 2 0 r' = 2; rw [wr_at, if_pos ⟨rfl, rfl⟩], rfl⟩
        · exact Or.inl (by show wr z.1.1 0 r 2 0 r' = _; rw [wr_at, if_neg (fun z => e z.2)])
    have lrow : ∀ k, k ≠ 1 → k ≠ 5 → k ≠ 6 → (lay t r q).1 k = q.1 k := fun k a b c => lay_row t r q a b c
    have l5 : ∀ u, u ≠ t → (lay t r q).1 5 u = z.1.1 5 u := fun u e => by
      rw [lay_at, if_neg (by omega), if_neg (by omega), if_neg (fun w => e w.2), qrow 5 (by decide)]
    have l6 : ∀ u, u ≠ t → (lay t r q).1 6 u = z.1.1 6 u := fun u e => by
      rw [lay_at, if_neg (by omega), if_neg (fun w => e w.2), if_neg (by omega), qrow 6 (by decide)]
    have lp : ∀ u, u ≠ t → pP (lay t r q).1 u = pP z.1.1 u := fun u e => by unfold pP; rw [l5 u e]
    have lpt : pP (lay t r q).1 t = r := by
      unfold pP
      rw [lay_at, if_neg (by omega), if_neg (by omega), if_pos ⟨rfl, rfl⟩, nI_clamp (by omega)]
    have e0 := lrow 0 (by decide) (by decide) (by decide)
    refine ⟨st_lay hq ht hr hlv (Or.inr h2) hz, Or.inr ⟨r, hr, rfl, ?_, hbr⟩, hfx, fun k a b c d => ?_, ?_, fun u hu hn => ?_, fun u hu hu2 => ?_, fun u hu hb => ?_, fun r' hr' => ?_⟩
    · show (lay t r q).1 0 r = 2
      rw [e0]; exact h2
    · show (lay t r q).1 k = s.1 k
      rw [lrow k b c d, qrow k a, h.2.2.2.1 k a b c d]
    · show q.2 = s.2
      rw [q2, h.2.2.2.2.1]
    · have hn2 : ¬ nI u ∈ X.take i := fun w => hn ((hmem u hu).mpr (Or.inl w))
      have hut : u ≠ t := fun w => hn ((hmem u hu).mpr (Or.inr w))
      show (lay t r q).1 5 u = s.1 5 u ∧ (lay t r q).1 6 u = s.1 6 u
      rw [l5 u hut, l6 u hut]
      exact h.2.2.2.2.2.1 u hu hn2
    · show (bt z.2.2.1 u = true ∧ (lay t r q).1 5 u = s.1 5 u ∧ (lay t r q).1 6 u = s.1 6 u) ∨ (bt z.2.2.1 u = false ∧ bt m (pP (lay t r q).1 u) = false ∧ (lay t r q).1 0 (pP (lay t r q).1 u) = 2)
      by_cases e : u = t
      · subst e
        right
        refine ⟨Bool.eq_false_iff.mpr (fun w => hnot (h.2.2.2.2.2.2.2.1 u hu w)), ?_, ?_⟩
        · rw [lpt]; exact hbr
        · rw [lpt, e0]; exact h2
      · have hu3 := ((hmem u hu).mp hu2).resolve_right e
        rw [l5 u e, l6 u e, lp u e, e0]
        rcases h.2.2.2.2.2.2.1 u hu hu3 with w | w
        · exact Or.inl w
        · right
          refine ⟨w.1, w.2.1, ?_⟩
          rcases qk _ (h.1.1.pl hu).2 with v | v
          · rw [v]; exact w.2.2
          · exact v.2.1
    · exact (hmem u hu).mpr (Or.inl (h.2.2.2.2.2.2.2.1 u hu hb))
    · show (lay t r q).1 0 r' = s.1 0 r' ∨ (s.1 0 r' = 0 ∧ (lay t r q).1 0 r' = 2)
      rw [e0]
      rcases qk r' hr' with v | v
      · rw [v]; exact h.2.2.2.2.2.2.2.2 r' hr'
      · rcases h.2.2.2.2.2.2.2.2 r' hr' with w | w
        · exact Or.inr ⟨by rw [← w]; exact v.1, v.2.1⟩
        · exact Or.inr ⟨w.1, v.2.1⟩
  · exact Or.inr hfx
theorem mi_mv {s : HS} (hS : St s) {m : Int32} (hm : Chm s.1 m) {z : MS} {X : List Int32} {i t : Nat} (h : MI s m z X i) (hi : i < X.length) (ht : t < 32) (et : X.getD i 0 = nI t) : MI s m (mv t z) (ff s.1 m t X) (i + 1) := by
  have hx : nI t ∈ X := by rw [← et]; exact getD_mem hi
  have hct : (nI t).toNatClampNeg = t := nI_clamp (by omega)
  have hfl := h.2.2.1.2 (nI t) hx
  rw [hct] at hfl
  have hff : FX (ff s.1 m t X) ∧ FL s.1 m (ff s.1 m t X) := ⟨fx_ff hS.1 ht h.2.2.1.1, fl_ff hS hm h.2.2.1.2 ht⟩
  have e4 : z.1.1 4 = s.1 4 := h.2.2.2.1 4 (by decide) (by decide) (by decide) (by decide)
  have hlz : lv z.1.1 t := by unfold lv; rw [e4]; exact hfl.1
  have hzz : zn z.1.1 t ≤ 8 := by unfold zn; rw [e4]; exact hfl.2.2
  unfold mv
  by_cases hc : z.2.1 = -9 ∨ 8 < z.1.1 1 z.2.1.toNatClampNeg + z.1.1 4 t
  · rw [if_pos hc]
    by_cases h9 : lf z.1.1 = -9
    · rw [if_pos h9]
      obtain ⟨Y, eY⟩ := ff_app (h := s.1) (m := m) (t := t) (X := X)
      have hmem : ∀ u, u < 32 → (nI u ∈ (ff s.1 m t X).take (i + 1) ↔ nI u ∈ X.take i ∨ u = t) := fun u hu => by
        rw [eY, take_app hi, et, List.mem_append, List.mem_singleton, nI_eq (by omega) (by omega)]
      have hnot : ¬ nI t ∈ X.take i := fun w => by
        have hn := h.2.2.1.1.2
        rw [← List.take_append_drop i X, List.nodup_append] at hn
        exact hn.2.2 (nI t) w (nI t) (by rw [drop_cons hi, et]; exact List.mem_cons_self) rfl
      have hbt : ∀ u, u < 32 → bt (z.2.2.1 ||| (1 <<< (nI t &&& 31))) u = (bt z.2.2.1 u || decide (u = t)) := fun u hu => by rw [bt_or, bt_one t ht u hu]
      refine ⟨h.1, h.2.1, hff, h.2.2.2.1, h.2.2.2.2.1, fun u hu hn => h.2.2.2.2.2.1 u hu (fun w => hn ((hmem u hu).mpr (Or.inl w))), fun u hu hu2 => ?_, fun u hu hb => ?_, h.2.2.2.2.2.2.2.2⟩
      · show (bt (z.2.2.1 ||| (1 <<< (nI t &&& 31))) u = true ∧ z.1.1 5 u = s.1 5 u ∧ z.1.1 6 u = s.1 6 u) ∨ (bt (z.2.2.1 ||| (1 <<< (nI t &&& 31))) u = false ∧ bt m (pP z.1.1 u) = false ∧ z.1.1 0 (pP z.1.1 u) = 2)
        rw [hbt u hu]
        by_cases e : u = t
        · subst e
          exact Or.inl ⟨by rw [decide_eq_true rfl, Bool.or_true], h.2.2.2.2.2.1 u hu hnot⟩
        · rw [decide_eq_false e, Bool.or_false]
          exact h.2.2.2.2.2.2.1 u hu (((hmem u hu).mp hu2).resolve_right e)
      · have hb2 : bt (z.2.2.1 ||| (1 <<< (nI t &&& 31))) u = true := hb
        rw [hbt u hu, Bool.or_eq_true, decide_eq_true_eq] at hb2
        exact (hmem u hu).mpr (hb2.elim (fun w => Or.inl (h.2.2.2.2.2.2.2.1 u hu w)) Or.inr)
    · rw [if_neg h9]
      obtain ⟨r, hr, er, h0⟩ := (lf_cases z.1.1).resolve_left h9
      rw [er, nI_clamp (show r < 2 ^ 31 by omega)]
      have hq := st_old h.1 hr h0
      have hbr : bt m r = false := Bool.eq_false_iff.mpr (fun w => by
        have e := h.chosen hm hr w
        have := hm r hr w
        rw [← e, h0] at this
        exact this.elim (fun z => absurd z (by decide)) (fun z => absurd z (by decide)))
      have htp0 : tp (wr z.1.1 0 r 2) r = 0 := by
        show (z.1.1 1 r).toNatClampNeg = 0
        rw [(h.1.2.1 r hr).2.2.2.2 h0]
        rfl
      exact (mi_lay hS h hi ht et hr (wr z.1.1 0 r 2, z.1.2) hq (Or.inr ⟨rfl, h0⟩) (by show wr z.1.1 0 r 2 0 r = 2; rw [wr_at, if_pos ⟨rfl, rfl⟩]) hbr (by show tp (wr z.1.1 0 r 2) r + zn z.1.1 t ≤ 8; rw [htp0]; omega) hlz _ _).resolve_right (fun w => w hff)
  · rw [if_neg hc]
    rcases h.2.1 with q | ⟨r, hr, er, hk, hbr⟩
    · exact absurd (Or.inl q) hc
    · have hc2 : ¬ 8 < z.1.1 1 r + z.1.1 4 t := fun w => hc (Or.inr (by rw [er, nI_clamp (show r < 2 ^ 31 by omega)]; exact w))
      rw [er, nI_clamp (show r < 2 ^ 31 by omega)]
      have htp := tp_eq h.1.2.1 hr
      have hsz := zn_eq h.1.1 ht
      have hle : tp z.1.1 r + zn z.1.1 t ≤ 8 := by
        rw [htp.1, hsz.1, nI_add] at hc2
        have : ¬ nI 8 < nI (tp z.1.1 r + zn z.1.1 t) := hc2
        rw [nI_ltI (by omega) (by omega)] at this
        omega
      exact (mi_lay hS h hi ht et hr z.1 h.1 (Or.inl ⟨rfl, er⟩) hk hbr hle hlz _ _).resolve_right (fun w => w hff)
