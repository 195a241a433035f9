/-! ===== 77 who is reached: the class's side ===== -/
/-- led to from a root -/
def Re (h : IA) (y : Nat) : Prop := ∀ R : Nat → Prop, (∀ r u, r < 6 → u < 32 → h 9 r = nI u → R u) → (∀ a b f, a < 32 → b < 32 → f < 2 → R a → h 7 (2 * a + f) = nI b → R b) → R y
theorem Re.root {h : IA} {r u : Nat} (hr : r < 6) (hu : u < 32) (e : h 9 r = nI u) : Re h u := fun _ h1 _ => h1 r u hr hu e
theorem Re.step {h : IA} {a b f : Nat} (ha : a < 32) (hb' : b < 32) (hf : f < 2) (hr : Re h a) (e : h 7 (2 * a + f) = nI b) : Re h b := fun R h1 h2 => h2 a b f ha hb' hf (hr R h1 h2) e
def PR (A : IA) (W : List Int32) : Prop := RowR (A 2) (A 3 0) W ∧ ∀ t, t < 32 → bt (A 0 0) t = decide (nI t ∈ W)
theorem all_bits {i : Nat} (h : i < 32) : bt (-1) i = true := bt_m1 i h
theorem fd_all {s : HS} (w : Wf s) {v : Int32} (hv : Nl v) (X : List Int32) : fd s.1 (-1) v X = if v = -5 then X else if v ∈ X then X else X ++ [v] := by
  unfold fd
  by_cases h5 : v = -5
  · rw [if_pos h5, if_pos h5]
  · rw [if_neg h5, if_neg h5]
    obtain ⟨u, hu, eu, ec⟩ := nl_cl hv h5
    rw [if_pos (all_bits (by rw [ec]; have := (w.pl hu).2; omega))]
theorem c_enter {s : HS} (w : Wf s) {A : IA} {W : List Int32} (hp : PR A W) (hx : FX W) {v : Int32} (hv : Nl v) : ∃ B, sX4_enter A v = some B ∧ PR B (fd s.1 (-1) v W) := by
  rw [fd_all w hv]
  unfold sX4_enter
  by_cases h5 : v = -5
  · rw [if_pos h5, if_pos h5]; exact ⟨A, rfl, hp⟩
  · rw [if_neg h5, if_neg h5]
    obtain ⟨t, ht, rfl⟩ := hv.resolve_left h5
    by_cases hm : nI t ∈ W
    · obtain ⟨f, e, hf⟩ := append_spec hp.1 (nI t) (Or.inl hm)
      rw [if_pos hm, if_pos hm] at e hf
      rw [if_pos hm, e, bind_s, bd_eq]
      dsimp +instances only
      rw [if_pos (show (0 : Int32) = 0 from rfl)]
      refine ⟨_, rfl, ?_, fun u hu => ?_⟩
      · rw [sc_row_ne _ _ (show 2 ≠ 3 by decide), setR_same, sc_same]; exact hf
      · rw [sc_row_ne _ _ (show 0 ≠ 3 by decide), setR_ne _ _ (show 0 ≠ 2 by decide)]; exact hp.2 u hu
    · have hroom : W.length < 32 := nodup_room hx.2 hx.1 hm ⟨t, ht, rfl⟩ (by omega)
      obtain ⟨f, e, hf⟩ := append_spec hp.1 (nI t) (Or.inr hroom)
      rw [if_neg hm, if_neg hm] at e hf
      rw [if_neg hm, e, bind_s, bd_eq]
      dsimp +instances only
      rw [if_neg (show ¬ (1 : Int32) = 0 by decide), bd_eq]
      refine ⟨_, rfl, ?_, fun u hu => ?_⟩
      · rw [sc_row_ne _ _ (show 2 ≠ 0 by decide), sc_row_ne _ _ (show 3 ≠ 0 by decide), sc_row_ne _ _ (show 2 ≠ 3 by decide), setR_same, sc_same]; exact hf
      · rw [sc_same, sc_row_ne _ _ (show 0 ≠ 3 by decide), setR_ne _ _ (show 0 ≠ 2 by decide), bt_or, bt_one t ht u hu, hp.2 u hu]
        apply Bool.eq_iff_iff.mpr
        rw [Bool.or_eq_true, decide_eq_true_eq, decide_eq_true_eq, decide_eq_true_eq, List.mem_append, List.mem_singleton, nI_eq (by omega) (by omega)]
theorem c_wl {A : IA} {s : HS} (hA : CR A s) (w : Wf s) : ∀ (n i k : Nat) (z : MS) (W : List Int32) (Q : IA), i + n = 32 → n < k → FX W → PR Q W → ∃ B, loopN (sX4_findReached_L39 A) k (nI i, Q) = some B ∧ PR B (mvl s.1 (-1) n i (z, W)).2 := by
  intro n
  induction n with
  | zero =>
    intro i k z W Q hn hk hx hp
    obtain ⟨j, rfl⟩ : ∃ j, k = j + 1 := ⟨k - 1, by omega⟩
    have hi : i = 32 := by omega
    subst hi
    exact ⟨Q, loopN_inr (by unfold sX4_findReached_L39; dsimp +instances only; rw [if_pos (by decide)]), hp⟩
  | succ n ih =>
    intro i k z W Q hn hk hx hp
    obtain ⟨j, rfl⟩ : ∃ j, k = j + 1 := ⟨k - 1, by omega⟩
    have h32 := hx.len
    unfold mvl
    by_cases hi : i < W.length
    · rw [if_pos hi]
      obtain ⟨t, ht, et, ec⟩ := fx_item hx hi
      have n0 := w.2.1 (2 * t) (by omega)
      have n1 := w.2.1 (2 * t + 1) (by omega)
      obtain ⟨Q1, e1, p1⟩ := c_enter w hp hx n0
      have hx1 := fx_fd (h := s.1) (m := -1) hx n0
      obtain ⟨Q2, e2, p2⟩ := c_enter w p1 hx1 n1
      have hst : sX4_findReached_L39 A (nI i, Q) = some (.inl (nI (i + 1), Q2)) := by
        unfold sX4_findReached_L39
        dsimp +instances only
        rw [if_neg (show ¬ (32 : Int32) ≤ nI i from nI_ge (b := 32) (by omega) (by omega)), if_neg (by rw [hp.1.1]; exact nI_ge hi (by omega)), itemAt_spec hp.1 hi, bind_s, et, c_f0 hA ht, bind_s, e1, bind_s, c_f1 hA ht, bind_s, e2, bind_s, nI_1]
      rw [loopN_inl hst]
      obtain ⟨B, eB, hB⟩ := ih (i + 1) j (mv (W.getD i 0).toNatClampNeg z) (ff s.1 (-1) t W) Q2 (by omega) (by omega) (fx_ff w ht hx) p2
      refine ⟨B, eB, ?_⟩
      show PR B (mvl s.1 (-1) n (i + 1) (mv (W.getD i 0).toNatClampNeg z, ff s.1 (-1) (W.getD i 0).toNatClampNeg W)).2
      rw [ec] at hB ⊢
      exact hB
    · rw [if_neg hi]
      refine ⟨Q, loopN_inr ?_, hp⟩
      unfold sX4_findReached_L39
      dsimp +instances only
      rw [if_neg (show ¬ (32 : Int32) ≤ nI i from nI_ge (b := 32) (by omega) (by omega)), if_pos (by rw [hp.1.1]; exact nI_le (by omega) (by omega))]
theorem fd_re {s : HS} {v : Int32} (hv : Nl v) (hr : v = -5 ∨ Re s.1 v.toNatClampNeg) {X : List Int32} (hx : ∀ x, x ∈ X → Re s.1 x.toNatClampNeg) : ∀ x, x ∈ fd s.1 (-1) v X → Re s.1 x.toNatClampNeg := fun x q => by
  rcases fd_mem q with z | ⟨rfl, h5, _⟩
  · exact hx x z
  · exact hr.resolve_left h5
theorem fld_re {s : HS} (w : Wf s) {t f : Nat} (ht : t < 32) (hf : f < 2) (hr : Re s.1 t) : s.1 7 (2 * t + f) = -5 ∨ Re s.1 (s.1 7 (2 * t + f)).toNatClampNeg := by
  by_cases h5 : s.1 7 (2 * t + f) = -5
  · exact Or.inl h5
  · obtain ⟨u, hu, eu, ec⟩ := nl_cl (w.2.1 (2 * t + f) (by omega)) h5
    rw [ec]; exact Or.inr (Re.step ht hu hf hr eu)
theorem wl_re {s : HS} (w : Wf s) : ∀ (n i : Nat) (z : MS) (W : List Int32), FX W → (∀ x, x ∈ W → Re s.1 x.toNatClampNeg) → ∀ x, x ∈ (mvl s.1 (-1) n i (z, W)).2 → Re s.1 x.toNatClampNeg := by
  intro n
  induction n with
  | zero => intro i z W _ h x q; exact h x q
  | succ n ih =>
    intro i z W hx h
    unfold mvl
    by_cases hi : i < W.length
    · rw [if_pos hi]
      obtain ⟨t, ht, et, ec⟩ := fx_item hx hi
      have hrt : Re s.1 t := by have := h _ (getD_mem hi); rw [ec] at this; exact this
      refine ih (i + 1) _ _ (by rw [ec]; exact fx_ff w ht hx) ?_
      show ∀ x, x ∈ ff s.1 (-1) (W.getD i 0).toNatClampNeg W → Re s.1 x.toNatClampNeg
      rw [ec]
      exact fd_re (w.2.1 _ (by omega)) (fld_re w ht (f := 1) (by omega) hrt) (fd_re (w.2.1 _ (by omega)) (fld_re w ht (f := 0) (by omega) hrt) h)
    · rw [if_neg hi]; exact h
/-- the class marks as reached just what is led to from a root -/
theorem c_reached {A : IA} {s : HS} (hA : CR A s) (w : Wf s) (Q : IA) : ∃ B, sX4_findReached Q A = some B ∧ ∀ t, t < 32 → (bt (B 0 0) t = true ↔ Re s.1 t) := by
  have h0 : PR (sc (sc Q 0 0) 3 0) [] := by
    refine ⟨⟨?_, Nat.zero_le _, fun i hi => absurd hi (Nat.not_lt_zero i)⟩, fun t ht => ?_⟩
    · rw [sc_same]; rfl
    · rw [sc_row_ne _ _ (show 0 ≠ 3 by decide), sc_same, bt_0 t ht, decide_eq_false List.not_mem_nil]
  obtain ⟨Q1, e1, h1, hx1⟩ := for_rel (step := sX4_findReached_L15 A) (fun r X => fd s.1 (-1) (s.1 9 r) X) (fun X x => PR x X) (fun _ X => FX X) 6 (by omega)
    (fun i X x hi hX hr => by
      obtain ⟨B, eB, hB⟩ := c_enter w hr hX (w.2.2.1 i hi)
      unfold sX4_findReached_L15
      dsimp +instances only
      rw [if_neg (show ¬ (6 : Int32) ≤ nI i from nI_ge (b := 6) hi (by omega)), ck_nI hi (by omega), nI_clamp (by omega), hA.1 9 i (w_rt hi), eB, bind_s, nI_1]
      exact ⟨B, rfl, hB, fx_fd hX (w.2.2.1 i hi)⟩)
    (fun X x _ _ => by
      unfold sX4_findReached_L15
      dsimp +instances only
      rw [if_pos (show (6 : Int32) ≤ nI 6 by decide)]) (s := []) fx_nil h0
  obtain ⟨W, eW⟩ : ∃ W, it (fun r X => fd s.1 (-1) (s.1 9 r) X) 6 [] = W := ⟨_, rfl⟩
  have hroot : ∀ r u, r < 6 → u < 32 → s.1 9 r = nI u → nI u ∈ W := fun r u hr hu e => by
    have h5 : s.1 9 r ≠ -5 := fun q => nI_pos (n := u) (by omega) (by rw [← e, q]; decide)
    have := it_mem (body := fun r X => fd s.1 (-1) (s.1 9 r) X) (x := s.1 9 r) (fun _ _ q => fd_sub q) (j := r) (fun Y => fd_in h5 (all_bits (by rw [e, nI_clamp (show u < 2 ^ 31 by omega)]; have := (w.pl hu).2; omega))) 6 [] hr
    rw [eW, e] at this
    exact this
  have hre : ∀ x, x ∈ W → Re s.1 x.toNatClampNeg := by
    rw [← eW]
    refine it_inv (fun _ (X : List Int32) => ∀ x, x ∈ X → Re s.1 x.toNatClampNeg) 6 (fun x q => absurd q List.not_mem_nil) (fun i X hi h => fd_re (w.2.2.1 i hi) ?_ h)
    by_cases h5 : s.1 9 i = -5
    · exact Or.inl h5
    · obtain ⟨u, hu, eu, ec⟩ := nl_cl (w.2.2.1 i hi) h5
      rw [ec]; exact Or.inr (Re.root hi hu eu)
  rw [eW] at h1 hx1
  obtain ⟨B, eB, hB⟩ := c_wl hA w 32 0 2000 (s, -9, 0, 0, 0) W Q1 rfl (by omega) hx1 h1
  have hcl := mvl_closed w (m := -1) 32 0 (s, -9, 0, 0, 0) W rfl hx1 (fun j hj => absurd hj (Nat.not_lt_zero j))
  have hsub : ∀ x, x ∈ W → x ∈ (mvl s.1 (-1) 32 0 ((s, -9, 0, 0, 0), W)).2 := fun x q => mvl_sub 32 0 _ W q
  have hre2 := wl_re w 32 0 (s, -9, 0, 0, 0) W hx1 hre
  generalize (mvl s.1 (-1) 32 0 ((s, -9, 0, 0, 0), W)).2 = V at hB hcl hsub hre2
  refine ⟨B, ?_, fun t ht => ?_⟩
  · unfold sX4_findReached
    rw [bd_eq, bd_eq, e1, bind_s, show loopN (sX4_findReached_L39 A) 2000 (0, Q1) = some B from by rw [← nI_0]; exact eB]
    rfl
  · rw [hB.2 t ht]
    have iff : nI t ∈ V ↔ Re s.1 t := by
      constructor
      · intro q
        have := hre2 _ q
        rw [nI_clamp (show t < 2 ^ 31 by omega)] at this; exact this
      · intro q
        refine (q (fun y => y < 32 → nI y ∈ V) (fun r u hr hu e _ => hsub _ (hroot r u hr hu e)) (fun a b f ha hb' hf hRa e _ => ?_)) ht
        have := hcl (nI a) (hRa ha) f hf
        rw [nI_clamp (show a < 2 ^ 31 by omega), e] at this
        exact this (fun z => nI_pos (n := b) (by omega) (by rw [z]; decide)) (all_bits (by rw [nI_clamp (show b < 2 ^ 31 by omega)]; have := (w.pl hb').2; omega))
    rw [decide_eq_true_eq]
    exact iff
