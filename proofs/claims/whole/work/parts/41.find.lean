/-! ===== 41 what a pause finds: both sides keep the same row ===== -/
def smL (f : Int32 → Int32) (X : List Int32) : Int32 := X.foldl (fun a x => a + f x) 0
theorem smL_push (f : Int32 → Int32) (X : List Int32) (v : Int32) : smL f (X ++ [v]) = smL f X + f v := by
  unfold smL
  rw [List.foldl_append]
  rfl
def fd (h : IA) (m v : Int32) (X : List Int32) : List Int32 := if v = -5 then X else if bt m (pP h v.toNatClampNeg) = true then (if v ∈ X then X else X ++ [v]) else X
def ff (h : IA) (m : Int32) (t : Nat) (X : List Int32) : List Int32 := fd h m (h 7 (2 * t + 1)) (fd h m (h 7 (2 * t)) X)
def szf (h : IA) (x : Int32) : Int32 := h 4 x.toNatClampNeg
def yof (h : IA) (x : Int32) : Int32 := if h 0 (pP h x.toNatClampNeg) = 1 then h 4 x.toNatClampNeg else 0
def FX (X : List Int32) : Prop := (∀ x, x ∈ X → Rg 32 x) ∧ X.Nodup
theorem FX.len {X : List Int32} (h : FX X) : X.length ≤ 32 := nodup_len 32 X h.2 h.1 (by omega)
theorem fx_fd {h : IA} {m v : Int32} {X : List Int32} (hx : FX X) (hv : Nl v) : FX (fd h m v X) := by
  unfold fd
  split
  · exact hx
  · next h5 =>
    split
    · split
      · exact hx
      · next hn =>
        refine ⟨fun x q => ?_, nodup_push hx.2 hn⟩
        rcases List.mem_append.mp q with q | q
        · exact hx.1 x q
        · rw [List.mem_singleton.mp q]; exact hv.resolve_left h5
    · exact hx
/-- the pause's own rows on the class's side -/
def PQ (Q : IA) (h : IA) (m : Int32) (X : List Int32) : Prop := RowR (Q 1) (Q 9 0) X ∧ Q 10 0 = m ∧ Q 5 0 = smL (szf h) X ∧ Q 6 0 = smL (yof h) X
def FQ (Q Q' : IA) : Prop := ∀ k, k ≠ 1 → k ≠ 9 → k ≠ 5 → k ≠ 6 → Q' k = Q k
theorem FQ.refl (Q : IA) : FQ Q Q := fun _ _ _ _ _ => rfl
theorem FQ.trans {M N K : IA} (h : FQ M N) (h2 : FQ N K) : FQ M K := fun k a b c d => by rw [h2 k a b c d, h k a b c d]
/-- and on the reference's -/
def PM (M : IA) (h : IA) (m : Int32) (X : List Int32) : Prop := M 14 0 = nI X.length ∧ (∀ i, i < X.length → M 15 i = X.getD i 0) ∧ (∀ t, t < 32 → M 16 t = if nI t ∈ X then 1 else 0) ∧ (∀ t, t < 32 → M 17 t = h 5 t) ∧ M 11 0 = m
def FM (M M' : IA) : Prop := ∀ k, k ≠ 14 → k ≠ 15 → k ≠ 16 → M' k = M k
theorem FM.refl (M : IA) : FM M M := fun _ _ _ _ => rfl
theorem FM.trans {M N K : IA} (h : FM M N) (h2 : FM N K) : FM M K := fun k a b c => by rw [h2 k a b c, h k a b c]
/-- the heap as it is now against the heap at the pause's start: things not found lie where they lay -/
def Cp (s : HS) (h : IA) (m : Int32) (X : List Int32) : Prop := (∀ t, t < 32 → ¬ nI t ∈ X → s.1 5 t = h 5 t ∧ (bt m (pP h t) = true → s.1 0 (pP h t) = h 0 (pP h t))) ∧ (∀ t, t < 32 → s.1 4 t = h 4 t) ∧ ∀ i, i < 64 → s.1 7 i = h 7 i
theorem Cp.refl (s : HS) (m : Int32) (X : List Int32) : Cp s s.1 m X := ⟨fun _ _ _ => ⟨rfl, fun _ => rfl⟩, fun _ _ => rfl, fun _ _ => rfl⟩
theorem fd_sub {h : IA} {m v : Int32} {X : List Int32} {x : Int32} (hx : x ∈ X) : x ∈ fd h m v X := by
  unfold fd
  split
  · exact hx
  · split
    · split
      · exact hx
      · exact List.mem_append_left _ hx
    · exact hx
theorem Cp.more {s : HS} {h : IA} {m : Int32} {X Y : List Int32} (hc : Cp s h m X) (hs : ∀ x, x ∈ X → x ∈ Y) : Cp s h m Y := ⟨fun t ht hn => hc.1 t ht (fun q => hn (hs _ q)), hc.2⟩
theorem c_find {A : IA} {s : HS} (h : CR A s) (w : Wf s) {Q h0 : IA} {m : Int32} {X : List Int32} (hq : PQ Q h0 m X) (hx : FX X) (hc : Cp s h0 m X) {v : Int32} (hv : Nl v) : ∃ Q', sX3_find Q A v = some Q' ∧ PQ Q' h0 m (fd h0 m v X) ∧ FQ Q Q' := by
  unfold sX3_find fd
  by_cases h5 : v = -5
  · rw [if_pos h5, if_pos h5]; exact ⟨Q, rfl, hq, FQ.refl Q⟩
  · rw [if_neg h5, if_neg h5]
    obtain ⟨t, ht, rfl⟩ := hv.resolve_left h5
    have hcl : (nI t).toNatClampNeg = t := nI_clamp (by omega)
    have hp := w.pl ht
    have h32 := hx.len
    rw [ck_nI ht (by omega), hcl, h.1 5 t (w_th ht (by omega) (by omega) (by omega)), hp.1, hq.2.1, hasBit_eq m (by have := hp.2; omega), bind_s, ite10]
    have same : nI t ∈ X → ∃ z, sX5_append (Q 1) (Q 9 0) (nI t) = some z ∧ z.1 = 0 ∧ PQ (sc (setR Q 1 z.2.1) 9 z.2.2) h0 m X ∧ FQ Q (sc (setR Q 1 z.2.1) 9 z.2.2) := by
      intro hm
      obtain ⟨f, e, hf⟩ := append_spec hq.1 (nI t) (Or.inl hm)
      rw [if_pos hm, if_pos hm] at e hf
      refine ⟨_, e, rfl, ⟨?_, ?_, ?_, ?_⟩, ?_⟩
      · rw [sc_row_ne _ _ (by decide), setR_same, sc_same]; exact hf
      · rw [sc_row_ne _ _ (by decide), setR_ne _ _ (by decide)]; exact hq.2.1
      · rw [sc_row_ne _ _ (by decide), setR_ne _ _ (by decide)]; exact hq.2.2.1
      · rw [sc_row_ne _ _ (by decide), setR_ne _ _ (by decide)]; exact hq.2.2.2
      · intro k a b _ _
        rw [sc_row_ne _ _ b, setR_ne _ _ a]
    by_cases hm : nI t ∈ X
    · rw [if_pos hm]
      have hres : ∃ Q', (if bt m (pP s.1 t) = true then (sX5_append (Q 1) (Q 9 0) (nI t)).bind fun z1 => bd (sc (setR Q 1 z1.2.1) 9 z1.2.2) fun A1 => if z1.1 = 0 then (some A1) else (ck (nI t) 32 (bd (sc A1 5 ((A1 5 0) + ((A 4) t))) fun A2 => ck (nI t) 32 (ck (nI (pP s.1 t)) 10 (if ((A 0) (nI (pP s.1 t)).toNatClampNeg) = 1 then (ck (nI t) 32 (bd (sc A2 6 ((A2 6 0) + ((A 4) t))) fun A3 => some A3)) else (some A2))))) else some Q) = some Q' ∧ PQ Q' h0 m X ∧ FQ Q Q' := by
        by_cases hb : bt m (pP s.1 t) = true
        · rw [if_pos hb]
          obtain ⟨z, e, e0, h1, h2⟩ := same hm
          rw [e, bind_s, bd_eq, if_pos e0]
          exact ⟨_, rfl, h1, h2⟩
        · rw [if_neg hb]
          exact ⟨Q, rfl, hq, FQ.refl Q⟩
      obtain ⟨Q', e, h1, h2⟩ := hres
      refine ⟨Q', e, ?_, h2⟩
      split
      · exact h1
      · exact h1
    · rw [if_neg hm]
      have hcp := hc.1 t ht hm
      have hpp : pP s.1 t = pP h0 t := by unfold pP; rw [hcp.1]
      rw [hpp]
      by_cases hb : bt m (pP h0 t) = true
      · rw [if_pos hb, if_pos hb]
        have hroom : X.length < 32 := nodup_room hx.2 hx.1 hm ⟨t, ht, rfl⟩ (by omega)
        obtain ⟨f, e, hf⟩ := append_spec hq.1 (nI t) (Or.inr hroom)
        rw [if_neg hm, if_neg hm] at e hf
        have hp2 : pP h0 t < 10 := by rw [← hpp]; exact hp.2
        rw [e, bind_s, bd_eq, if_neg (show ¬ (1 : Int32) = 0 by decide), ck_nI ht (by omega), bd_eq, ck_nI ht (by omega), ck_nI hp2 (by omega), nI_clamp (by omega), h.1 0 _ (w_rg hp2 (by omega)), hcp.2 hb, ck_nI ht (by omega), bd_eq, h.1 4 t (w_th ht (by omega) (by omega) (by omega)), hc.2.1 t ht]
        have e5 : smL (szf h0) (X ++ [nI t]) = smL (szf h0) X + h0 4 t := by rw [smL_push]; unfold szf; rw [hcl]
        by_cases hy : h0 0 (pP h0 t) = 1
        · rw [if_pos hy]
          have e6 : smL (yof h0) (X ++ [nI t]) = smL (yof h0) X + h0 4 t := by rw [smL_push]; unfold yof; rw [hcl, if_pos hy]
          refine ⟨_, rfl, ⟨?_, ?_, ?_, ?_⟩, ?_⟩
          · rw [sc_row_ne _ _ (by decide), sc_row_ne _ _ (by decide), sc_row_ne _ _ (by decide), setR_same, sc_row_ne _ _ (by decide), sc_row_ne _ _ (by decide), sc_same]; exact hf
          · rw [sc_row_ne _ _ (by decide), sc_row_ne _ _ (by decide), sc_row_ne _ _ (by decide), setR_ne _ _ (by decide)]; exact hq.2.1
          · rw [sc_row_ne _ _ (by decide), sc_same, e5, sc_row_ne _ _ (by decide), setR_ne _ _ (by decide), hq.2.2.1]
          · rw [sc_same, e6, sc_row_ne _ _ (by decide), sc_row_ne _ _ (by decide), setR_ne _ _ (by decide), hq.2.2.2]
          · intro k a b c d
            rw [sc_row_ne _ _ d, sc_row_ne _ _ c, sc_row_ne _ _ b, setR_ne _ _ a]
        · rw [if_neg hy]
          have e6 : smL (yof h0) (X ++ [nI t]) = smL (yof h0) X := by rw [smL_push]; unfold yof; rw [hcl, if_neg hy, Int32.add_zero]
          refine ⟨_, rfl, ⟨?_, ?_, ?_, ?_⟩, ?_⟩
          · rw [sc_row_ne _ _ (by decide), sc_row_ne _ _ (by decide), setR_same, sc_row_ne _ _ (by decide), sc_same]; exact hf
          · rw [sc_row_ne _ _ (by decide), sc_row_ne _ _ (by decide), setR_ne _ _ (by decide)]; exact hq.2.1
          · rw [sc_same, e5, sc_row_ne _ _ (by decide), setR_ne _ _ (by decide), hq.2.2.1]
          · rw [sc_row_ne _ _ (by decide), e6, sc_row_ne _ _ (by decide), setR_ne _ _ (by decide), hq.2.2.2]
          · intro k a b c d
            rw [sc_row_ne _ _ c, sc_row_ne _ _ b, setR_ne _ _ a]
      · rw [if_neg hb, if_neg hb]
        exact ⟨Q, rfl, hq, FQ.refl Q⟩
theorem m_find {M h0 : IA} (hp : ∀ t, t < 32 → h0 5 t = nI (pP h0 t) ∧ pP h0 t < 10) {m : Int32} {X : List Int32} (hq : PM M h0 m X) (hx : FX X) {v : Int32} (hv : Nl v) : ∃ N, sX7_finds M v = some N ∧ PM N h0 m (fd h0 m v X) ∧ FM M N := by
  unfold sX7_finds fd
  by_cases h5 : v = -5
  · rw [if_pos h5, if_pos h5]; exact ⟨M, rfl, hq, FM.refl M⟩
  · rw [if_neg h5, if_neg h5]
    obtain ⟨t, ht, rfl⟩ := hv.resolve_left h5
    have hcl : (nI t).toNatClampNeg = t := nI_clamp (by omega)
    have hpt := hp t ht
    have h32 := hx.len
    rw [ck_nI ht (by omega), hcl, hq.2.2.2.2, hq.2.2.2.1 t ht, hpt.1, hb_val m (by omega), ck_nI ht (by omega), hq.2.2.1 t ht, ck_nI ht (by omega)]
    by_cases hb : bt m (pP h0 t) = true
    · rw [if_pos hb, if_pos hb, if_pos rfl, ite10]
      by_cases hm : nI t ∈ X
      · rw [if_pos hm, if_pos hm]; exact ⟨M, rfl, hq, FM.refl M⟩
      · have hroom : X.length < 32 := nodup_room hx.2 hx.1 hm ⟨t, ht, rfl⟩ (by omega)
        rw [if_neg hm, if_neg hm, bd_eq, show wr M 16 t 1 14 0 = nI X.length from hq.1, ck_nI hroom (by omega), nI_clamp (by omega), bd_eq, bd_eq, show wr (wr M 16 t 1) 15 X.length (nI t) 14 0 = nI X.length from hq.1, nI_1]
        refine ⟨_, rfl, ⟨?_, ?_, ?_, ?_, ?_⟩, ?_⟩
        · rw [sc_same, List.length_append]; rfl
        · intro i hi
          rw [List.length_append] at hi
          have hi2 : i < X.length + 1 := hi
          rw [sc_row_ne _ _ (by decide), wr_at]
          by_cases e : i = X.length
          · rw [if_pos ⟨rfl, e⟩, e, getD_last]
          · rw [if_neg (fun q => e q.2), wr_row_ne _ _ _ (by decide), getD_app (by omega)]
            exact hq.2.1 i (by omega)
        · intro u hu
          rw [sc_row_ne _ _ (by decide), wr_row_ne _ _ _ (by decide), wr_at]
          by_cases e : u = t
          · rw [if_pos ⟨rfl, e⟩, if_pos (by rw [e]; exact List.mem_append_right _ (List.mem_singleton.mpr rfl))]
          · rw [if_neg (fun q => e q.2), hq.2.2.1 u hu]
            by_cases hu2 : nI u ∈ X
            · rw [if_pos hu2, if_pos (List.mem_append_left _ hu2)]
            · rw [if_neg hu2, if_neg (fun q => by
                rcases List.mem_append.mp q with q | q
                · exact hu2 q
                · exact e ((nI_eq (by omega) (by omega)).mp (List.mem_singleton.mp q)))]
        · intro u hu
          rw [sc_row_ne _ _ (by decide), wr_row_ne _ _ _ (by decide), wr_row_ne _ _ _ (by decide)]
          exact hq.2.2.2.1 u hu
        · rw [sc_row_ne _ _ (by decide), wr_row_ne _ _ _ (by decide), wr_row_ne _ _ _ (by decide)]
          exact hq.2.2.2.2
        · intro k a b c
          rw [sc_row_ne _ _ a, wr_row_ne _ _ _ b, wr_row_ne _ _ _ c]
    · rw [if_neg hb, if_neg hb, if_neg (by decide)]
      exact ⟨M, rfl, hq, FM.refl M⟩
theorem c_ff {A : IA} {s : HS} (h : CR A s) (w : Wf s) {Q h0 : IA} {m : Int32} {X : List Int32} (hq : PQ Q h0 m X) (hx : FX X) (hc : Cp s h0 m X) {t : Nat} (ht : t < 32) : ∃ Q', sX3_findFields Q A (nI t) = some Q' ∧ PQ Q' h0 m (ff h0 m t X) ∧ FQ Q Q' ∧ FX (ff h0 m t X) := by
  have n0 := w.2.1 (2 * t) (by omega)
  have n1 := w.2.1 (2 * t + 1) (by omega)
  rw [hc.2.2 _ (by omega)] at n0 n1
  obtain ⟨Q1, e1, h1, f1⟩ := c_find h w hq hx hc n0
  have hx1 := fx_fd (h := h0) (m := m) hx n0
  obtain ⟨Q2, e2, h2, f2⟩ := c_find h w h1 hx1 (hc.more (fun _ q => fd_sub q)) n1
  refine ⟨Q2, ?_, h2, f1.trans f2, fx_fd hx1 n1⟩
  unfold sX3_findFields
  rw [c_f0 h ht, bind_s, hc.2.2 _ (by omega), e1, bind_s, c_f1 h ht, bind_s, hc.2.2 _ (by omega), e2]
  rfl
theorem ff_sub {h : IA} {m : Int32} {t : Nat} {X : List Int32} {x : Int32} (hx : x ∈ X) : x ∈ ff h m t X := fd_sub (fd_sub hx)
