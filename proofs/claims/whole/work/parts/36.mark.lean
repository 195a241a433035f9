/-! ===== 36 grey, begin, step; cards refined ===== -/
theorem rowS_push {M : IA} {base cnt : Nat} {L : List Int32} (h : RowS (M 1) base cnt L) (ho : cnt < base ∨ base + L.length < cnt) (x : Int32) : RowS ((wr (wr M 1 (base + L.length) x) 1 cnt (nI (L.length + 1))) 1) base cnt (L ++ [x]) := by
  refine ⟨?_, fun i hi => ?_⟩
  · rw [wr_at, if_pos ⟨rfl, rfl⟩, List.length_append]; rfl
  · rw [List.length_append] at hi
    have hi2 : i < L.length + 1 := hi
    rw [wr_at, if_neg (by omega), wr_at]
    by_cases e : i = L.length
    · rw [if_pos ⟨rfl, by rw [e]⟩, e, getD_last]
    · rw [if_neg (by omega), getD_app (by omega)]; exact h.2 i (by omega)
def gr (v : Int32) (s : HS) : HS := if v = -5 then s else if s.1 8 v.toNatClampNeg = 0 then (wr s.1 8 v.toNatClampNeg 1, s.2.1, s.2.2 ++ [v]) else s
theorem wf_notG {s : HS} (w : Wf s) {v : Int32} (h : s.1 8 v.toNatClampNeg = 0) : ¬ v ∈ s.2.2 := fun q => by
  have := w.2.2.2.2.2.2.2 v q
  rw [h] at this
  exact absurd this (by decide)
theorem wf_roomG {s : HS} (w : Wf s) {v : Int32} (h : s.1 8 v.toNatClampNeg = 0) (hv : Rg 32 v) : s.2.2.length < 32 := nodup_room w.2.2.2.2.2.2.1 w.2.2.2.2.2.1 (wf_notG w h) hv (by omega)
theorem wf_gr {s : HS} (w : Wf s) {v : Int32} (hv : Nl v) : Wf (gr v s) := by
  unfold gr
  by_cases h5 : v = -5
  · rw [if_pos h5]; exact w
  · rw [if_neg h5]
    by_cases h0 : s.1 8 v.toNatClampNeg = 0
    · rw [if_pos h0]
      have hr : Rg 32 v := hv.resolve_left h5
      refine ⟨fun t ht => ⟨(w.1 t ht).1, (w.1 t ht).2.1, (w.1 t ht).2.2.1, ?_⟩, w.2.1, w.2.2.1, w.2.2.2.1, w.2.2.2.2.1, fun x hx => ?_, nodup_push w.2.2.2.2.2.2.1 (wf_notG w h0), fun x hx => ?_⟩
      · show Rg 3 (wr s.1 8 v.toNatClampNeg 1 8 t)
        rw [wr_at]
        by_cases e : 8 = 8 ∧ t = v.toNatClampNeg
        · rw [if_pos e]; exact ⟨1, by omega, rfl⟩
        · rw [if_neg e]; exact (w.1 t ht).2.2.2
      · rcases List.mem_append.mp hx with q | q
        · exact w.2.2.2.2.2.1 x q
        · rw [List.mem_singleton.mp q]; exact hr
      · show wr s.1 8 v.toNatClampNeg 1 8 x.toNatClampNeg = 1
        rw [wr_at]
        by_cases e : 8 = 8 ∧ x.toNatClampNeg = v.toNatClampNeg
        · rw [if_pos e]
        · rw [if_neg e]
          rcases List.mem_append.mp hx with q | q
          · exact w.2.2.2.2.2.2.2 x q
          · exact absurd ⟨rfl, by rw [List.mem_singleton.mp q]⟩ e
    · rw [if_neg h0]; exact w
theorem c_gr {A : IA} {s : HS} (h : CR A s) (w : Wf s) {v : Int32} (hv : Nl v) : ∃ B, sX1_becomeGrey A v = some B ∧ CR B (gr v s) := by
  unfold sX1_becomeGrey gr
  by_cases h5 : v = -5
  · rw [if_pos h5, if_pos h5]; exact ⟨A, rfl, h⟩
  · rw [if_neg h5, if_neg h5]
    have hr : Rg 32 v := hv.resolve_left h5
    obtain ⟨t, ht, rfl⟩ := hr
    have hc : (nI t).toNatClampNeg = t := nI_clamp (by omega)
    rw [ck_nI ht (by omega), hc, h.1 8 t (w_th ht (by omega) (by omega) (by omega))]
    by_cases h0 : s.1 8 t = 0
    · rw [if_pos h0, if_pos h0, ck_nI ht (by omega)]
      have h1 := cr_wr h (w_th ht (by omega) (by omega) (by omega) : t < wid 8) 1
      have hn : ¬ nI t ∈ s.2.2 := wf_notG w (by rw [hc]; exact h0)
      have hroom : s.2.2.length < 32 := wf_roomG w (by rw [hc]; exact h0) ⟨t, ht, rfl⟩
      obtain ⟨f, e, hf⟩ := append_spec h1.2.2 (nI t) (Or.inr hroom)
      rw [if_neg hn, if_neg hn] at e hf
      rw [bd_eq, e, bind_s, bd_eq]
      exact ⟨_, rfl, cr_grey h1 hf⟩
    · rw [if_neg h0, if_neg h0]; exact ⟨A, rfl, h⟩
theorem m_gr {M : IA} {s : HS} (h : MR (M 1) s) (w : Wf s) {v : Int32} (hv : Nl v) : ∃ N, sX7_becomesGrey M v = some N ∧ MR (N 1) (gr v s) ∧ Fr M N := by
  unfold sX7_becomesGrey gr
  by_cases h5 : v = -5
  · rw [if_pos h5, if_pos h5]; exact ⟨M, rfl, h, Fr.refl M⟩
  · rw [if_neg h5, if_neg h5]
    have hr : Rg 32 v := hv.resolve_left h5
    obtain ⟨t, ht, rfl⟩ := hr
    have hc : (nI t).toNatClampNeg = t := nI_clamp (by omega)
    rw [hc, m_co h ht, bind_s]
    by_cases h0 : s.1 8 t = 0
    · have hl : s.2.2.length < 32 := wf_roomG w (by rw [hc]; exact h0) ⟨t, ht, rfl⟩
      rw [if_pos h0, if_pos h0, show (6 : Int32) * nI t + 5 = nI (6 * t + 5) from mul6 t 5, ck_nI (by omega) (by omega), nI_clamp (by omega)]
      have h1 : MR ((wr M 1 (6 * t + 5) 1) 1) (wr s.1 8 t 1, s.2) := mr_wr h (w_th ht (by omega) (by omega) (by omega)) (show 6 * t + 5 = lc 8 t from rfl) 1
      rw [bd_eq, m_gn h1, show (259 : Int32) + nI s.2.2.length = nI (259 + s.2.2.length) from nI_add 259 _, ck_nI (by omega) (by omega), nI_clamp (by omega)]
      refine ⟨wr (wr (wr M 1 (6 * t + 5) 1) 1 (259 + s.2.2.length) (nI t)) 1 291 (nI (s.2.2.length + 1)), ?_, mr_grey h1 (rowS_push h1.2.2.1 (Or.inr (by show 259 + s.2.2.length < 291; omega)) (nI t)) (by rw [List.length_append]; exact hl) (fun n h1 h2 => by rw [wr_at, if_neg (fun q => h1 q.2), wr_at, if_neg (by show ¬ (1 = 1 ∧ n = 259 + s.2.2.length); omega)]), ((fr_wr _ _ _).trans (fr_wr _ _ _)).trans (fr_wr _ _ _)⟩
      show some (wr (wr (wr M 1 (6 * t + 5) 1) 1 (259 + s.2.2.length) (nI t)) 1 291 (wr (wr M 1 (6 * t + 5) 1) 1 (259 + s.2.2.length) (nI t) 1 291 + 1)) = _
      rw [wr_at (wr M 1 (6 * t + 5) 1), if_neg (by omega), show wr M 1 (6 * t + 5) 1 1 291 = nI s.2.2.length from h1.2.2.1.1, nI_1]
    · rw [if_neg h0, if_neg h0]; exact ⟨M, rfl, h, Fr.refl M⟩
/-! it begins -/
def bg0 (s : HS) : HS := it (fun i (s : HS) => ((wr s.1 8 i ((fun _ => 0) (s.1 8 i)), s.2) : HS)) 32 (wr s.1 12 0 1, s.2.1, [])
def bg1 (s : HS) : HS := it (fun r (s : HS) => gr (s.1 9 r) s) 6 (bg0 s)
def bgs (s : HS) : HS := if (bg1 s).2.2 = [] then ends (bg1 s) else bg1 s
theorem bg0_2 (s : HS) : (bg0 s).2 = (s.2.1, []) := (it_wr 8 (fun _ => 0) 32 (wr s.1 12 0 1, s.2.1, [])).1
theorem bg0_at (s : HS) (a b : Nat) : (bg0 s).1 a b = if a = 8 ∧ b < 32 then 0 else if a = 12 ∧ b = 0 then 1 else s.1 a b := by
  refine ((it_wr 8 (fun _ => 0) 32 (wr s.1 12 0 1, s.2.1, [])).2 a b).trans ?_
  show (if a = 8 ∧ b < 32 then 0 else wr s.1 12 0 1 a b) = _
  rw [wr_at]
theorem wf_bg0 {s : HS} (w : Wf s) : Wf (bg0 s) := by
  have h4 : ∀ k b, k ≠ 8 → k ≠ 12 → (bg0 s).1 k b = s.1 k b := fun k b h1 h2 => by rw [bg0_at, if_neg (fun q => h1 q.1), if_neg (fun q => h2 q.1)]
  unfold Wf
  rw [bg0_2]
  refine ⟨fun t ht => ⟨?_, ?_, ?_, ?_⟩, fun i hi => ?_, fun i hi => ?_, w.2.2.2.1, w.2.2.2.2.1, fun x hx => absurd hx List.not_mem_nil, List.nodup_nil, fun x hx => absurd hx List.not_mem_nil⟩
  · rw [h4 4 t (by omega) (by omega)]; exact (w.1 t ht).1
  · rw [h4 5 t (by omega) (by omega)]; exact (w.1 t ht).2.1
  · rw [h4 6 t (by omega) (by omega)]; exact (w.1 t ht).2.2.1
  · rw [bg0_at, if_pos ⟨rfl, ht⟩]; exact ⟨0, by omega, rfl⟩
  · rw [h4 7 i (by omega) (by omega)]; exact w.2.1 i hi
  · rw [h4 9 i (by omega) (by omega)]; exact w.2.2.1 i hi
theorem wf_bg1 {s : HS} (w : Wf s) : Wf (bg1 s) := it_inv (fun _ s => Wf s) 6 (wf_bg0 w) (fun i s hi hs => wf_gr hs (hs.2.2.1 i hi))
theorem cr_congr {A : IA} {s q : HS} (h : CR A s) (h1 : ∀ k j, j < wid k → q.1 k j = s.1 k j) (h2 : q.2 = s.2) : CR A q := by
  refine ⟨fun k j hj => by rw [h1 k j hj]; exact h.1 k j hj, ?_, ?_⟩
  · rw [h2]; exact h.2.1
  · rw [h2]; exact h.2.2
theorem c_bg {A : IA} {s : HS} (h : CR A s) (w : Wf s) (hg : s.2.2 = []) : ∃ B, sX1_beginMarking A = some B ∧ CR B (bgs s) := by
  have h1 := cr_sc h (k := 12) (by decide) 1
  have h2 : CR (setR (sc A 12 1) 8 (fun j => if j < 32 then 0 else sc A 12 1 8 j)) (bg0 s) := by
    refine ⟨fun k j hj => ?_, ?_, ?_⟩
    · rw [bg0_at, setR_eq]
      by_cases e : k = 8
      · subst e
        have hj2 : j < 32 := hj
        rw [if_pos rfl, if_pos hj2, if_pos ⟨rfl, hj2⟩]
      · rw [if_neg e, if_neg (fun q => e q.1), h1.1 k j hj]
        show wr s.1 12 0 1 k j = _
        rw [wr_at]
    · rw [bg0_2, setR_ne _ _ (by decide), setR_ne _ _ (by decide)]; exact h1.2.1
    · rw [bg0_2, setR_ne _ _ (by decide), setR_ne _ _ (by decide), show ([] : List Int32) = s.2.2 from hg.symm]; exact h1.2.2
  obtain ⟨B, e, hB, _⟩ := for_rel (step := sX1_beginMarking_L15) (fun r (s : HS) => gr (s.1 9 r) s) (fun s x => CR x s) (fun _ s => Wf s) 6 (by omega)
    (fun i s x hi ws hx => by
      obtain ⟨B, eB, hB⟩ := c_gr hx ws (ws.2.2.1 i hi)
      unfold sX1_beginMarking_L15
      dsimp +instances only
      rw [if_neg (show ¬ (6 : Int32) ≤ nI i from nI_ge (b := 6) hi (by omega)), ck_nI hi (by omega), nI_clamp (by omega), hx.1 9 i (w_rt hi), eB, bind_s, nI_1]
      exact ⟨B, rfl, hB, wf_gr ws (ws.2.2.1 i hi)⟩)
    (fun s x _ _ => by
      unfold sX1_beginMarking_L15
      dsimp +instances only
      rw [if_pos (show (6 : Int32) ≤ nI 6 by decide)]) (s := bg0 s) (wf_bg0 w) h2
  have hB' : CR B (bg1 s) := hB
  obtain ⟨B2, e2, hB2⟩ := c_ends hB'
  refine ⟨B2, ?_, by unfold bgs; exact hB2⟩
  unfold sX1_beginMarking
  rw [bd_eq, fill_eq 32 (by omega), bind_s, bd_eq, e, bind_s, e2]
  rfl
theorem mr_nogrey {M : IA} {s : HS} (h : MR (M 1) s) : MR ((wr M 1 291 0) 1) (s.1, s.2.1, []) :=
  mr_grey h ⟨by rw [wr_at, if_pos ⟨rfl, rfl⟩]; rfl, fun i hi => absurd hi (Nat.not_lt_zero i)⟩ (Nat.zero_le _) (fun n h1 _ => by rw [wr_at, if_neg (fun q => h1 q.2)])
theorem m_bg {M : IA} {s : HS} (h : MR (M 1) s) (w : Wf s) : ∃ N, (loopN sX7_begins_L44 2000 (0, wr (wr M 1 292 1) 1 291 0)).bind (fun q2 => loopN sX7_begins_L70 2000 (0, q2)) = some N ∧ MR (N 1) (bg1 s) ∧ Fr M N := by
  have h1 : MR ((wr (wr M 1 292 1) 1 291 0) 1) (wr s.1 12 0 1, s.2.1, []) := mr_nogrey (mr_wr h (k := 12) (j := 0) (by decide) (by decide) 1)
  obtain ⟨B, e, hB, _⟩ := for_rel (step := sX7_begins_L44) (fun i (s : HS) => ((wr s.1 8 i ((fun _ => 0) (s.1 8 i)), s.2) : HS)) (fun s x => MR (x 1) s ∧ Fr M x) (fun _ _ => True) 32 (by omega)
    (fun i s x hi _ hx => by
      unfold sX7_begins_L44
      dsimp +instances only
      rw [if_neg (show ¬ (32 : Int32) ≤ nI i from nI_ge (b := 32) hi (by omega)), show (6 : Int32) * nI i + 5 = nI (6 * i + 5) from mul6 i 5, ck_nI (by omega) (by omega), nI_clamp (by omega), nI_1]
      exact ⟨_, rfl, ⟨mr_wr hx.1 (w_th hi (by omega) (by omega) (by omega)) (show 6 * i + 5 = lc 8 i from rfl) 0, hx.2.trans (fr_wr _ _ _)⟩, trivial⟩)
    (fun s x _ _ => by
      unfold sX7_begins_L44
      dsimp +instances only
      rw [if_pos (show (32 : Int32) ≤ nI 32 by decide)]) (s := (wr s.1 12 0 1, s.2.1, [])) trivial ⟨h1, (fr_wr _ _ _).trans (fr_wr _ _ _)⟩
  obtain ⟨B2, e2, hB2, _⟩ := for_rel (step := sX7_begins_L70) (fun r (s : HS) => gr (s.1 9 r) s) (fun s x => MR (x 1) s ∧ Fr M x) (fun _ s => Wf s) 6 (by omega)
    (fun i s x hi ws hx => by
      obtain ⟨N, eN, hN, fN⟩ := m_gr hx.1 ws (ws.2.2.1 i hi)
      unfold sX7_begins_L70
      dsimp +instances only
      rw [if_neg (show ¬ (6 : Int32) ≤ nI i from nI_ge (b := 6) hi (by omega)), show (192 : Int32) + nI i = nI (192 + i) from nI_add 192 i, ck_nI (by omega) (by omega), nI_clamp (by omega), m_root hx.1 hi, eN, bind_s, nI_1]
      exact ⟨N, rfl, ⟨hN, hx.2.trans fN⟩, wf_gr ws (ws.2.2.1 i hi)⟩)
    (fun s x _ _ => by
      unfold sX7_begins_L70
      dsimp +instances only
      rw [if_pos (show (6 : Int32) ≤ nI 6 by decide)]) (s := bg0 s) (wf_bg0 w) hB
  exact ⟨B2, by rw [e, bind_s, e2], hB2.1, hB2.2⟩
/-! a step -/
def stp (s : HS) : HS :=
  match s.2.2 with
  | [] => ends s
  | v :: G =>
    let a : HS := (wr s.1 8 v.toNatClampNeg 2, s.2.1, G)
    let b := gr (a.1 7 (2 * v.toNatClampNeg)) a
    let c := gr (b.1 7 (2 * v.toNatClampNeg + 1)) b
    if c.2.2 = [] then ends c else c
theorem wf_blk {s : HS} (w : Wf s) {v : Int32} {G : List Int32} (e : s.2.2 = v :: G) : Wf (wr s.1 8 v.toNatClampNeg 2, s.2.1, G) := by
  have hn := w.2.2.2.2.2.2.1
  rw [e] at hn
  have hm : ∀ x, x ∈ G → x ∈ s.2.2 := fun x hx => by rw [e]; exact List.mem_cons_of_mem _ hx
  refine ⟨fun t ht => ⟨(w.1 t ht).1, (w.1 t ht).2.1, (w.1 t ht).2.2.1, ?_⟩, w.2.1, w.2.2.1, w.2.2.2.1, w.2.2.2.2.1, fun x hx => w.2.2.2.2.2.1 x (hm x hx), (List.nodup_cons.mp hn).2, fun x hx => ?_⟩
  · show Rg 3 (wr s.1 8 v.toNatClampNeg 2 8 t)
    rw [wr_at]
    by_cases e : 8 = 8 ∧ t = v.toNatClampNeg
    · rw [if_pos e]; exact ⟨2, by omega, rfl⟩
    · rw [if_neg e]; exact (w.1 t ht).2.2.2
  · show wr s.1 8 v.toNatClampNeg 2 8 x.toNatClampNeg = 1
    obtain ⟨i, hi, ei⟩ := w.2.2.2.2.2.1 x (hm x hx)
    obtain ⟨j, hj, ej⟩ := w.2.2.2.2.2.1 v (by rw [e]; exact List.mem_cons_self)
    rw [wr_at, if_neg (fun q => by
      have q2 := q.2
      rw [ei, ej, nI_clamp (by omega), nI_clamp (by omega)] at q2
      exact (List.nodup_cons.mp hn).1 (by rw [ej, ← q2, ← ei]; exact hx))]
    exact w.2.2.2.2.2.2.2 x (hm x hx)
theorem c_stp {A : IA} {s : HS} (h : CR A s) (w : Wf s) (hg : s.2.2 ≠ []) : ∃ B, sX1_markOldest A = some B ∧ CR B (stp s) := by
  obtain ⟨v, G, e⟩ : ∃ v G, s.2.2 = v :: G := by
    cases e : s.2.2 with
    | nil => exact absurd e hg
    | cons v G => exact ⟨v, G, rfl⟩
  unfold stp
  rw [e]
  dsimp +instances only
  obtain ⟨t, ht, hv⟩ := w.2.2.2.2.2.1 v (by rw [e]; exact List.mem_cons_self)
  have hc : (nI t).toNatClampNeg = t := nI_clamp (by omega)
  have hrow := h.2.2
  rw [e] at hrow
  have hn := w.2.2.2.2.2.2.1
  rw [e] at hn
  obtain ⟨f, ef, hf⟩ := drop_spec hrow v
  rw [dropL_head hn] at ef hf
  have wa := wf_blk w e
  rw [hv, hc] at wa ⊢
  have ha : CR (wr (sc (setR A 11 f) 19 (nI G.length)) 8 t 2) (wr s.1 8 t 2, s.2.1, G) := cr_wr (cr_grey h hf) (w_th ht (by omega) (by omega) (by omega)) 2
  have n1 := wa.2.1 (2 * t) (by omega)
  obtain ⟨B, eB, hB⟩ := c_gr ha wa n1
  have wb := wf_gr wa n1
  have n2 := wb.2.1 (2 * t + 1) (by omega)
  obtain ⟨K, eK, hK⟩ := c_gr hB wb n2
  obtain ⟨L, eL, hL⟩ := c_ends hK
  refine ⟨L, ?_, hL⟩
  unfold sX1_markOldest
  rw [show sX5_itemAt (A 11) (A 19 0) 0 = some v from itemAt_spec hrow (i := 0) (by rw [List.length_cons]; omega), bind_s, if_neg (by rw [hv]; intro q; exact nI_pos (n := t) (by omega) (by rw [q]; decide)), ef, bind_s, hv, bd_eq, ck_nI ht (by omega), hc, bd_eq, c_f0 ha ht, bind_s, eB, bind_s, c_f1 hB ht, bind_s, eK, bind_s, eL, bind_s]
theorem gr_row (v : Int32) (s : HS) {k : Nat} (hk : k ≠ 8) : (gr v s).1 k = s.1 k := by
  unfold gr
  split
  · rfl
  · split
    · exact wr_row_ne _ _ _ hk
    · rfl
theorem m_stp {M : IA} {s : HS} (h : MR (M 1) s) (w : Wf s) (hg : s.2.2 ≠ []) (hlg : ∀ x, x ∈ s.2.2 → ¬ s.1 4 x.toNatClampNeg ≤ 0) : ∃ N, sX7_step M = some N ∧ MR (N 1) (stp s) ∧ Fr M N := by
  obtain ⟨v, G, e⟩ : ∃ v G, s.2.2 = v :: G := by
    cases e : s.2.2 with
    | nil => exact absurd e hg
    | cons v G => exact ⟨v, G, rfl⟩
  unfold stp
  rw [e]
  dsimp +instances only
  obtain ⟨t, ht, hv⟩ := w.2.2.2.2.2.1 v (by rw [e]; exact List.mem_cons_self)
  have hc : (nI t).toNatClampNeg = t := nI_clamp (by omega)
  have hrow := h.2.2.1
  have hlen := h.2.2.2
  rw [e] at hrow hlen
  have wa := wf_blk w e
  rw [hv, hc] at wa ⊢
  have hl2 : G.length + 1 ≤ 32 := hlen
  obtain ⟨M1, e1, r1, f1, g1⟩ := leaves_spec (k := 0) hrow (by rw [List.length_cons]; omega) (by omega) (Or.inr (by rw [List.length_cons]; omega)) (by rw [List.length_cons]; omega)
  have h1 : MR (M1 1) (s.1, s.2.1, G) := mr_grey h r1 (by show G.length ≤ 32; omega) (fun n q1 q2 => g1 n q1 (by rw [List.length_cons]; omega))
  have ha : MR ((wr M1 1 (6 * t + 5) 2) 1) (wr s.1 8 t 2, s.2.1, G) := mr_wr h1 (w_th ht (by omega) (by omega) (by omega)) (show 6 * t + 5 = lc 8 t from rfl) 2
  have n1 := wa.2.1 (2 * t) (by omega)
  obtain ⟨B, eB, hB, fB⟩ := m_gr ha wa n1
  have wb := wf_gr wa n1
  have n2 := wb.2.1 (2 * t + 1) (by omega)
  obtain ⟨K, eK, hK, fK⟩ := m_gr hB wb n2
  have fM1 : Fr M M1 := fun k hk => f1 k hk
  have hl0 : ¬ s.1 4 t ≤ 0 := by have := hlg v (by rw [e]; exact List.mem_cons_self); rw [hv, hc] at this; exact this
  have fM : Fr M K := ((fM1.trans (fr_wr _ _ _)).trans fB).trans fK
  have h0 : M 1 (Int32.toNatClampNeg 259) = nI t := by
    rw [show M 1 (Int32.toNatClampNeg 259) = (v :: G).getD 0 0 from hrow.2 0 (by rw [List.length_cons]; omega), ← hv]
    rfl
  unfold sX7_step
  rw [bd_eq, h0, show sX7_leaves M 259 291 0 = some M1 from e1, bind_s, show (6 : Int32) * nI t + 5 = nI (6 * t + 5) from mul6 t 5, ck_nI (by omega) (by omega), nI_clamp (by omega), bd_eq, m_f0 ha ht hl0, bind_s, eB, bind_s, m_f1 hB ht (by rw [gr_row _ _ (show 4 ≠ 8 by decide)]; exact hl0), bind_s, eK, bind_s, m_gn hK]
  by_cases h3 : (gr ((gr (wr s.1 8 t 2 7 (2 * t)) (wr s.1 8 t 2, s.2.1, G)).1 7 (2 * t + 1)) (gr (wr s.1 8 t 2 7 (2 * t)) (wr s.1 8 t 2, s.2.1, G))).2.2 = []
  · rw [if_pos h3, if_pos (by rw [h3]; rfl)]
    obtain ⟨L, eL, hL, fL⟩ := m_ends hK
    rw [eL]
    exact ⟨L, rfl, hL, fM.trans fL⟩
  · rw [if_neg h3, if_neg (nI_ne0 (List.length_pos_iff.mpr h3) (Nat.lt_of_le_of_lt hK.2.2.2 (show 32 < 2 ^ 31 by omega)))]
    exact ⟨K, rfl, hK, fM⟩
