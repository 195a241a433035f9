/-! ===== 57 marking begins, steps: what it keeps ===== -/
theorem rs_same {s q : HS} (h : RS s) (hr : ∀ k, k = 0 ∨ k = 3 ∨ k = 4 ∨ k = 5 ∨ k = 6 ∨ k = 7 → q.1 k = s.1 k) (hD : q.2.1 = s.2.1) : RS q := by
  unfold RS lv cdo pP pC
  rw [hr 0 (by omega), hr 3 (by omega), hr 4 (by omega), hr 5 (by omega), hr 6 (by omega), hr 7 (by omega), hD]
  exact h
theorem i1_same {s q : HS} (h : I1 s) (w : Wf q) (hr : ∀ k, k < 10 → k ≠ 8 → q.1 k = s.1 k) (hD : q.2.1 = s.2.1) (hG : ∀ x, x ∈ q.2.2 → lv s.1 x.toNatClampNeg) : I1 q := by
  obtain ⟨_, hT, hL, hU, hV, hR⟩ := h
  refine ⟨w, ?_, ?_, ?_, ?_, rs_same hR (fun k hk => hr k (by omega) (by omega)) hD⟩
  · unfold Tops
    rw [hr 0 (by omega) (by omega), hr 1 (by omega) (by omega), hr 2 (by omega) (by omega), hr 3 (by omega) (by omega)]; exact hT
  · unfold Lies lv tp zn pP pC
    rw [hr 0 (by omega) (by omega), hr 1 (by omega) (by omega), hr 4 (by omega) (by omega), hr 5 (by omega) (by omega), hr 6 (by omega) (by omega)]; exact hL
  · unfold Uq
    rw [hr 4 (by omega) (by omega), hr 5 (by omega) (by omega), hr 6 (by omega) (by omega)]; exact hU
  · unfold Lvs lv
    rw [hr 4 (by omega) (by omega), hr 7 (by omega) (by omega), hr 9 (by omega) (by omega)]
    exact ⟨hV.1, hV.2.1, hG⟩
theorem Kr.grey {s : HS} {g : Nat} (hg : g < 32) (h : nI g ∈ s.2.2) : Kr s g := fun _ h1 _ => h1 g hg h
theorem Kr.step {s : HS} {a b f : Nat} (ha : a < 32) (hb' : b < 32) (hf : f < 2) (h : Kr s a) (e : s.1 7 (2 * a + f) = nI b) (h0 : s.1 8 b = 0) : Kr s b := fun R h1 h2 => h2 a b f ha hb' hf (h R h1 h2) e h0
theorem Kr.none {s : HS} {y : Nat} (hG : s.2.2 = []) (h : Kr s y) : False := h (fun _ => False) (fun g _ q => by rw [hG] at q; exact List.not_mem_nil q) (fun _ _ _ _ _ _ q _ _ => q)
/-- the marking facts, whether or not marks are set -/
def SBc (s : HS) : Prop := (∀ r, r < 6 → s.1 9 r = -5 ∨ s.1 8 (s.1 9 r).toNatClampNeg = 2 ∨ Kr s (s.1 9 r).toNatClampNeg) ∧ (∀ t, t < 32 → lv s.1 t → s.1 8 t = 2 → ∀ f, f < 2 → s.1 7 (2 * t + f) = -5 ∨ s.1 8 (s.1 7 (2 * t + f)).toNatClampNeg = 2 ∨ Kr s (s.1 7 (2 * t + f)).toNatClampNeg) ∧ ∀ t, t < 32 → s.1 8 t = 1 → nI t ∈ s.2.2
/-- with no grey left the roots are black: marking ends -/
theorem inv_ends {s : HS} (h : I1 s) (hY : Ly s.1) (hG : s.2.2 = []) (hS : SBc s) : Inv (ends s) := by
  refine j_inv (j_ends h hY hG (fun q hq => ?_))
  rcases hS.1 q hq with a | a | a
  · exact Or.inl a
  · exact Or.inr a
  · exact (Kr.none hG a).elim
theorem inv_go {s : HS} (h : I1 s) (hY : Ly s.1) (hS : SBc s) (hM : s.1 12 0 = 1) : Inv (if s.2.2 = [] then ends s else s) := by
  split
  · next hG => exact inv_ends h hY hG hS
  · next hG => exact ⟨⟨h.1, h.2.1, h.2.2.1, h.2.2.2.1, h.2.2.2.2.1, Or.inr ⟨hM, hG⟩, hY⟩, h.2.2.2.2.2, fun _ => hS⟩
theorem inv_bgs {s : HS} (h : Inv s) : Inv (bgs s) := by
  obtain ⟨hS, hR, _⟩ := h
  have r0 : ∀ k, k ≠ 8 → k ≠ 12 → (bg0 s).1 k = s.1 k := fun k a b => funext fun i => by rw [bg0_at, if_neg (fun q => a q.1), if_neg (fun q => b q.1)]
  have hI0 : I1 (bg0 s) := i1_same (st_i1 hS hR) (wf_bg0 hS.1) (fun k hk h8 => r0 k h8 (by omega)) (by rw [bg0_2]) (fun x hx => by rw [bg0_2] at hx; exact absurd hx List.not_mem_nil)
  have key : (fun n (q : HS) => I1 q ∧ (∀ k, k ≠ 8 → q.1 k = (bg0 s).1 k) ∧ (∀ t, t < 32 → q.1 8 t = 0 ∨ (q.1 8 t = 1 ∧ nI t ∈ q.2.2)) ∧ ∀ r, r < n → q.1 9 r = -5 ∨ q.1 9 r ∈ q.2.2) 6 (bg1 s) := by
    unfold bg1
    refine it_inv (fun n (q : HS) => I1 q ∧ (∀ k, k ≠ 8 → q.1 k = (bg0 s).1 k) ∧ (∀ t, t < 32 → q.1 8 t = 0 ∨ (q.1 8 t = 1 ∧ nI t ∈ q.2.2)) ∧ ∀ r, r < n → q.1 9 r = -5 ∨ q.1 9 r ∈ q.2.2) 6 ⟨hI0, fun _ _ => rfl, fun t ht => Or.inl (by rw [bg0_at, if_pos ⟨rfl, ht⟩]), fun r hr => absurd hr (Nat.not_lt_zero r)⟩ ?_
    rintro i q hi ⟨a, b, c, d⟩
    have hn := a.1.2.2.1 i hi
    have hl := a.2.2.2.2.1.2.1 i hi
    refine ⟨i1_gr a hn hl, fun k hk => by rw [gr_row _ _ hk, b k hk], fun t ht => ?_, fun r hr => ?_⟩
    · rcases gr_col (v := q.1 9 i) (s := q) hn ht with e | e
      · rw [e]
        rcases c t ht with z | z
        · exact Or.inl z
        · exact Or.inr ⟨z.1, gr_G z.2⟩
      · exact Or.inr e.2
    · rw [gr_row _ _ (show 9 ≠ 8 by decide)]
      by_cases e : r = i
      · subst e
        by_cases h5 : q.1 9 r = -5
        · exact Or.inl h5
        · right
          obtain ⟨u, hu, eu, ec⟩ := nl_cl hn h5
          rcases c u hu with z | z
          · exact gry_new h5 (by rw [ec]; exact z)
          · exact gr_G (by rw [eu]; exact z.2)
      · rcases d r (by omega) with z | z
        · exact Or.inl z
        · exact Or.inr (gr_G z)
  obtain ⟨a, b, c, d⟩ := key
  have hY : Ly (bg1 s).1 := by
    unfold Ly
    rw [b 13 (by decide), b 0 (by decide), r0 13 (by decide) (by decide), r0 0 (by decide) (by decide)]
    exact hS.2.2.2.2.2.2
  have hM : (bg1 s).1 12 0 = 1 := by rw [b 12 (by decide), bg0_at, if_neg (by omega), if_pos ⟨rfl, rfl⟩]
  unfold bgs
  generalize bg1 s = q at a b c d hY hM ⊢
  refine inv_go a hY ⟨fun r hr => ?_, fun t ht _ h2 => ?_, fun t ht h1 => ?_⟩ hM
  · by_cases h5 : q.1 9 r = -5
    · exact Or.inl h5
    · obtain ⟨u, hu, eu, ec⟩ := nl_cl (a.1.2.2.1 r hr) h5
      have := (d r hr).resolve_left h5
      rw [ec]
      exact Or.inr (Or.inr (Kr.grey hu (by rw [← eu]; exact this)))
  · rcases c t ht with z | z
    · rw [z] at h2; exact absurd h2 (by decide)
    · rw [z.1] at h2; exact absurd h2 (by decide)
  · rcases c t ht with z | z
    · rw [z] at h1; exact absurd h1 (by decide)
    · exact z.2
def stq (t : Nat) (a : HS) : HS := if (gr ((gr (a.1 7 (2 * t)) a).1 7 (2 * t + 1)) (gr (a.1 7 (2 * t)) a)).2.2 = [] then ends (gr ((gr (a.1 7 (2 * t)) a).1 7 (2 * t + 1)) (gr (a.1 7 (2 * t)) a)) else gr ((gr (a.1 7 (2 * t)) a).1 7 (2 * t + 1)) (gr (a.1 7 (2 * t)) a)
theorem stp_eq {s : HS} {v : Int32} {G : List Int32} (e : s.2.2 = v :: G) : stp s = stq v.toNatClampNeg (wr s.1 8 v.toNatClampNeg 2, s.2.1, G) := by
  unfold stp
  rw [e]
  rfl
theorem inv_stp {s : HS} (h : Inv s) (hM : s.1 12 0 = 1) : Inv (stp s) := by
  obtain ⟨hS, hR, hB⟩ := h
  have hG0 : s.2.2 ≠ [] := (hS.2.2.2.2.2.1.resolve_left (fun q => by rw [hM] at q; exact absurd q.1 (by decide))).2
  obtain ⟨v, G, eG⟩ : ∃ v G, s.2.2 = v :: G := by
    cases e : s.2.2 with
    | nil => exact absurd e hG0
    | cons v G => exact ⟨v, G, rfl⟩
  obtain ⟨hB1, hB2, hB3⟩ := hB hM
  have hvG : v ∈ s.2.2 := by rw [eG]; exact List.mem_cons_self
  obtain ⟨t, ht, ev⟩ := hS.1.2.2.2.2.2.1 v hvG
  have hc : v.toNatClampNeg = t := by rw [ev, nI_clamp (by omega)]
  have hv1 : s.1 8 t = 1 := by rw [← hc]; exact hS.1.2.2.2.2.2.2.2 v hvG
  rw [stp_eq eG, hc]
  have wa : Wf (wr s.1 8 t 2, s.2.1, G) := by have := wf_blk hS.1 eG; rw [hc] at this; exact this
  obtain ⟨a, ea⟩ : ∃ a : HS, a = (wr s.1 8 t 2, s.2.1, G) := ⟨_, rfl⟩
  rw [← ea] at wa ⊢
  unfold stq
  have ar : ∀ k, k ≠ 8 → a.1 k = s.1 k := fun k hk => by rw [ea]; exact wr_row_ne _ _ _ hk
  have a8 : ∀ u, a.1 8 u = if u = t then 2 else s.1 8 u := fun u => by
    rw [ea]
    show wr s.1 8 t 2 8 u = _
    rw [wr_at]
    by_cases e : u = t
    · rw [if_pos ⟨rfl, e⟩, if_pos e]
    · rw [if_neg (fun q => e q.2), if_neg e]
  have aG : a.2.2 = G := by rw [ea]
  have aD : a.2.1 = s.2.1 := by rw [ea]
  have Ia : I1 a := i1_same (st_i1 hS hR) wa (fun k _ h8 => ar k h8) aD (fun x hx => by rw [aG] at hx; exact hS.2.2.2.2.1.2.2 x (by rw [eG]; exact List.mem_cons_of_mem _ hx))
  have n1 := wa.2.1 (2 * t) (by omega)
  have l1 := Ia.2.2.2.2.1.1 (2 * t) (by omega)
  have Ib := i1_gr Ia n1 l1
  obtain ⟨b, eb⟩ : ∃ b : HS, b = gr (a.1 7 (2 * t)) a := ⟨_, rfl⟩
  rw [← eb] at Ib ⊢
  have br : ∀ k, k ≠ 8 → b.1 k = s.1 k := fun k hk => by rw [eb, gr_row _ _ hk, ar k hk]
  have n2 := Ib.1.2.1 (2 * t + 1) (by omega)
  have l2 := Ib.2.2.2.2.1.1 (2 * t + 1) (by omega)
  have Ic := i1_gr Ib n2 l2
  obtain ⟨c, ecc⟩ : ∃ c : HS, c = gr (b.1 7 (2 * t + 1)) b := ⟨_, rfl⟩
  rw [← ecc] at Ic ⊢
  have cr : ∀ k, k ≠ 8 → c.1 k = s.1 k := fun k hk => by rw [ecc, gr_row _ _ hk, br k hk]
  have cG : ∀ x, x ∈ G → x ∈ c.2.2 := fun x hx => by rw [ecc, eb]; exact gr_G (gr_G (by rw [aG]; exact hx))
  -- colours
  have col : ∀ u, u < 32 → c.1 8 u = a.1 8 u ∨ (a.1 8 u = 0 ∧ c.1 8 u = 1 ∧ nI u ∈ c.2.2) := fun u hu => by
    have q2 := gr_col (v := b.1 7 (2 * t + 1)) (s := b) n2 hu
    have q1 := gr_col (v := a.1 7 (2 * t)) (s := a) n1 hu
    rw [← ecc] at q2
    rw [← eb] at q1
    rcases q2 with e | e
    · rcases q1 with d | d
      · exact Or.inl (by rw [e, d])
      · exact Or.inr ⟨d.1, by rw [e]; exact d.2.1, by rw [ecc]; exact gr_G d.2.2⟩
    · rcases q1 with d | d
      · exact Or.inr ⟨by rw [← d]; exact e.1, e.2⟩
      · exact Or.inr ⟨d.1, e.2⟩
  have hvc : c.1 8 t = 2 := by
    rcases col t ht with e | e
    · rw [e, a8, if_pos rfl]
    · rw [a8, if_pos rfl] at e; exact absurd e.1 (by decide)
  have fin1 : ∀ f, f < 2 → ∀ u, u < 32 → s.1 7 (2 * t + f) = nI u → s.1 8 u = 0 → nI u ∈ c.2.2 := by
    intro f hf u hu e7 h0
    have hut : u ≠ t := fun q => by rw [q, hv1] at h0; exact absurd h0 (by decide)
    have ha0 : a.1 8 u = 0 := by rw [a8, if_neg hut]; exact h0
    have hcl : (nI u).toNatClampNeg = u := nI_clamp (by omega)
    have h5 : nI u ≠ -5 := fun q => nI_pos (n := u) (by omega) (by rw [q]; decide)
    rcases (show f = 0 ∨ f = 1 by omega) with rfl | rfl
    · have e : a.1 7 (2 * t) = nI u := by rw [ar 7 (by decide)]; exact e7
      rw [ecc]
      refine gr_G ?_
      rw [eb, e]
      exact gry_new h5 (by rw [hcl]; exact ha0)
    · have e : b.1 7 (2 * t + 1) = nI u := by rw [br 7 (by decide)]; exact e7
      have q1 := gr_col (v := a.1 7 (2 * t)) (s := a) n1 hu
      rw [← eb] at q1
      rcases q1 with d | d
      · rw [ecc, e]
        exact gry_new h5 (by rw [hcl, d]; exact ha0)
      · rw [ecc]; exact gr_G d.2.2
  have s0 : ∀ u, u < 32 → s.1 8 u = 0 → c.1 8 u = 0 ∨ nI u ∈ c.2.2 := fun u hu h0 => by
    have hut : u ≠ t := fun q => by rw [q, hv1] at h0; exact absurd h0 (by decide)
    rcases col u hu with e | e
    · exact Or.inl (by rw [e, a8, if_neg hut]; exact h0)
    · exact Or.inr e.2.2
  have s2 : ∀ u, u < 32 → s.1 8 u = 2 → c.1 8 u = 2 := fun u hu h2 => by
    rcases col u hu with e | e
    · rw [e, a8]; split; rfl; exact h2
    · rw [a8] at e
      by_cases q : u = t
      · rw [if_pos q] at e; exact absurd e.1 (by decide)
      · rw [if_neg q, h2] at e; exact absurd e.1 (by decide)
  have kr : ∀ y, Kr s y → y = t ∨ Kr c y := by
    intro y hy
    refine hy (fun y => y = t ∨ Kr c y) (fun g hg hgG => ?_) (fun a' b' f ha' hb' hf hR' e7 h0 => ?_)
    · rw [eG] at hgG
      rcases List.mem_cons.mp hgG with q | q
      · left
        rw [ev, nI_eq (by omega) (by omega)] at q
        exact q
      · exact Or.inr (Kr.grey hg (cG _ q))
    · right
      rcases hR' with q | q
      · rw [q] at e7
        exact Kr.grey hb' (fin1 f hf b' hb' e7 h0)
      · rcases s0 b' hb' h0 with z | z
        · exact Kr.step ha' hb' hf q (by rw [cr 7 (by decide)]; exact e7) z
        · exact Kr.grey hb' z
  have good : ∀ y, Nl y → (y = -5 ∨ s.1 8 y.toNatClampNeg = 2 ∨ Kr s y.toNatClampNeg) → y = -5 ∨ c.1 8 y.toNatClampNeg = 2 ∨ Kr c y.toNatClampNeg := by
    intro y hn hy
    by_cases h5 : y = -5
    · exact Or.inl h5
    · obtain ⟨u, hu, eu, ec⟩ := nl_cl hn h5
      rw [ec] at hy ⊢
      right
      rcases hy.resolve_left h5 with q | q
      · exact Or.inl (s2 u hu q)
      · rcases kr u q with z | z
        · left; rw [z]; exact hvc
        · exact Or.inr z
  have hY : Ly c.1 := by
    unfold Ly
    rw [cr 13 (by decide), cr 0 (by decide)]; exact hS.2.2.2.2.2.2
  refine inv_go Ic hY ⟨fun r hr => ?_, fun u hu hlu h2 f hf => ?_, fun u hu h1 => ?_⟩ (by rw [cr 12 (by decide)]; exact hM)
  · rw [cr 9 (by decide)]
    exact good _ (hS.1.2.2.1 r hr) (hB1 r hr)
  · rw [cr 7 (by decide)]
    have hn := hS.1.2.1 (2 * u + f) (by omega)
    by_cases hut : u = t
    · subst hut
      by_cases h5 : s.1 7 (2 * u + f) = -5
      · exact Or.inl h5
      · right
        obtain ⟨y, hy, ey, ecy⟩ := nl_cl hn h5
        rw [ecy]
        rcases (hS.1.1 y hy).2.2.2 with ⟨j, hj, ej⟩
        rcases (show j = 0 ∨ j = 1 ∨ j = 2 by omega) with rfl | rfl | rfl
        · exact Or.inr (Kr.grey hy (fin1 f hf y hy ey ej))
        · have hyG := hB3 y hy ej
          rw [eG] at hyG
          rcases List.mem_cons.mp hyG with q | q
          · left
            rw [ev, nI_eq (by omega) (by omega)] at q
            rw [q]; exact hvc
          · exact Or.inr (Kr.grey hy (cG _ q))
        · exact Or.inl (s2 y hy ej)
    · have hs2 : s.1 8 u = 2 := by
        rcases col u hu with e | e
        · rw [e, a8, if_neg hut] at h2; exact h2
        · rw [e.2.1] at h2; exact absurd h2 (by decide)
      have hlu2 : lv s.1 u := by unfold lv at hlu ⊢; rw [cr 4 (by decide)] at hlu; exact hlu
      exact good _ hn (hB2 u hu hlu2 hs2 f hf)
  · rcases col u hu with e | e
    · rw [e, a8] at h1
      by_cases hut : u = t
      · rw [if_pos hut] at h1; exact absurd h1 (by decide)
      · rw [if_neg hut] at h1
        have := hB3 u hu h1
        rw [eG] at this
        rcases List.mem_cons.mp this with q | q
        · rw [ev, nI_eq (by omega) (by omega)] at q; exact absurd q hut
        · exact cG _ q
    · exact e.2.2
