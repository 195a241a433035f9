/-! ===== 63 the relation; what can be undone ===== -/
theorem upH_at (HA : Nat → IA) (i : Nat) (A : IA) (k : Nat) : upH HA i A k = if k = i then A else HA k := by
  unfold upH
  by_cases h : k = i
  · rw [if_pos h, h, show Nat.beq i i = true from Nat.beq_refl i]; rfl
  · rw [if_neg h, show Nat.beq k i = false from by
      cases hb : Nat.beq k i with
      | false => rfl
      | true => exact absurd (Nat.eq_of_beq_eq_true hb) h]; rfl
theorem upF_at (HF : Nat → FA) (i : Nat) (F : FA) (k : Nat) : upF HF i F k = if k = i then F else HF k := by
  unfold upF
  by_cases h : k = i
  · rw [if_pos h, h, show Nat.beq i i = true from Nat.beq_refl i]; rfl
  · rw [if_neg h, show Nat.beq k i = false from by
      cases hb : Nat.beq k i with
      | false => rfl
      | true => exact absurd (Nat.eq_of_beq_eq_true hb) h]; rfl
def Hist (nx kn : Int32) (HA : Nat → IA) (HF : Nat → FA) (M : IA) (MF : FA) : Prop := ∃ n k, n < 6 ∧ k ≤ 6 ∧ nx = nI n ∧ kn = nI k ∧ M 5 0 = nI k ∧ ∀ j, j < k → Cq (HA (2 + (n + 6 - k + j) % 6)) (HF (2 + (n + 6 - k + j) % 6)) (fun i => M 3 (296 * j + i)) (MF 4 (2 * j)) (MF 4 (2 * j + 1))
def Img (kf : Nat → Int32) (HA : Nat → IA) (HF : Nat → FA) (M : IA) (MF : FA) : Prop := ∀ i, i < 2 → (kf i = 0 ∧ M 8 i = 0) ∨ (kf i = 1 ∧ M 8 i = 1 ∧ Cq (HA (8 + i)) (HF (8 + i)) (fun n => M 6 (296 * i + n)) (MF 7 (2 * i)) (MF 7 (2 * i + 1)))
def Now (HA : Nat → IA) (HF : Nat → FA) (M : IA) (MF : FA) : Prop := Cq (HA 0) (HF 0) (M 1) (MF 2 0) (MF 2 1)
def Rl (x : (Nat → Int32) × Int32 × Int32 × UInt32 × IA × FA × IA × Int32 × Int32 × (Nat → IA) × (Nat → FA)) (M : IA) (MF : FA) : Prop := Now x.2.2.2.2.2.2.2.2.2.1 x.2.2.2.2.2.2.2.2.2.2 M MF ∧ Hist x.2.2.2.2.2.2.2.1 x.2.2.2.2.2.2.2.2.1 x.2.2.2.2.2.2.2.2.2.1 x.2.2.2.2.2.2.2.2.2.2 M MF ∧ Img x.1 x.2.2.2.2.2.2.2.2.2.1 x.2.2.2.2.2.2.2.2.2.2 M MF
theorem hist_same {nx kn : Int32} {HA HA' : Nat → IA} {HF HF' : Nat → FA} {M M' : IA} {MF MF' : FA} (h : Hist nx kn HA HF M MF) (hA : ∀ k, 2 ≤ k → k < 8 → HA' k = HA k ∧ HF' k = HF k) (h3 : M' 3 = M 3) (h5 : M' 5 = M 5) (h4 : MF' 4 = MF 4) : Hist nx kn HA' HF' M' MF' := by
  obtain ⟨n, k, a, b, c, d, e, f⟩ := h
  refine ⟨n, k, a, b, c, d, by rw [h5]; exact e, fun j hj => ?_⟩
  have q := hA (2 + (n + 6 - k + j) % 6) (by omega) (by omega)
  rw [q.1, q.2, h3, h4]
  exact f j hj
theorem img_same {kf : Nat → Int32} {HA HA' : Nat → IA} {HF HF' : Nat → FA} {M M' : IA} {MF MF' : FA} (h : Img kf HA HF M MF) (hA : ∀ k, 8 ≤ k → k < 10 → HA' k = HA k ∧ HF' k = HF k) (h6 : M' 6 = M 6) (h8 : M' 8 = M 8) (h7 : MF' 7 = MF 7) : Img kf HA' HF' M' MF' := by
  intro i hi
  have q := hA (8 + i) (by omega) (by omega)
  rw [q.1, q.2, h6, h7, h8]
  exact h i hi
theorem push_eq {n k : Nat} (hn : n < 6) (hk : k ≤ 6) {HA : Nat → IA} {HF : Nat → FA} {S : Nat → Int32} {f0 f1 : UInt32} (hc : Cq (HA 0) (HF 0) S f0 f1) : ∃ B G, sX2_push (nI n) (nI k) HA HF = some (nI ((n + 1) % 6), nI (min (k + 1) 6), upH HA (2 + n) B, upF HF (2 + n) G) ∧ Cq B G S f0 f1 := by
  have ex : (nI n + 1) - (nI n + 1) / 6 * 6 = nI ((n + 1) % 6) := by
    rw [nI_1]
    exact pk_rem (d := 6) (by omega) (by omega) (by omega)
  have ek : (if 6 < nI k + 1 then 6 else nI k + 1) = nI (min (k + 1) 6) := by
    rw [nI_1]
    by_cases h : 6 < k + 1
    · rw [if_pos (show (6 : Int32) < nI (k + 1) from nI_lt (a := 6) h (by omega)), show min (k + 1) 6 = 6 by omega]; rfl
    · rw [if_neg (show ¬ (6 : Int32) < nI (k + 1) from nI_nlt (a := 6) (by omega) (by omega)), show min (k + 1) 6 = k + 1 by omega]
  unfold sX2_push
  rw [ck_nI hn (by omega), ex, ek]
  obtain ⟨B, G, e, h⟩ := hc.like (HA (2 + n)) (HF (2 + n))
  refine ⟨B, G, ?_, h⟩
  rcases (show n = 0 ∨ n = 1 ∨ n = 2 ∨ n = 3 ∨ n = 4 ∨ n = 5 by omega) with q | q | q | q | q | q
  all_goals subst q
  · rw [if_pos (by decide), show sX1_becomeLike (HA 2) (HF 2) (HA 0) (HF 0) = some (B, G) from e]; rfl
  · rw [if_neg (by decide), if_pos (by decide), show sX1_becomeLike (HA 3) (HF 3) (HA 0) (HF 0) = some (B, G) from e]; rfl
  · rw [if_neg (by decide), if_neg (by decide), if_pos (by decide), show sX1_becomeLike (HA 4) (HF 4) (HA 0) (HF 0) = some (B, G) from e]; rfl
  · rw [if_neg (by decide), if_neg (by decide), if_neg (by decide), if_pos (by decide), show sX1_becomeLike (HA 5) (HF 5) (HA 0) (HF 0) = some (B, G) from e]; rfl
  · rw [if_neg (by decide), if_neg (by decide), if_neg (by decide), if_neg (by decide), if_pos (by decide), show sX1_becomeLike (HA 6) (HF 6) (HA 0) (HF 0) = some (B, G) from e]; rfl
  · rw [if_neg (by decide), if_neg (by decide), if_neg (by decide), if_neg (by decide), if_neg (by decide), if_pos (by decide), show sX1_becomeLike (HA 7) (HF 7) (HA 0) (HF 0) = some (B, G) from e]; rfl
theorem pop_eq {n k : Nat} (hn : n < 6) (hk : k < 6) {HA : Nat → IA} {HF : Nat → FA} {S : Nat → Int32} {f0 f1 : UInt32} (hc : Cq (HA (2 + (n + 5) % 6)) (HF (2 + (n + 5) % 6)) S f0 f1) : ∃ B G, sX2_pop (nI n) (nI (k + 1)) HA HF = some (nI ((n + 5) % 6), nI k, upH HA 0 B, upF HF 0 G) ∧ Cq B G S f0 f1 := by
  have ex : ((nI n + 6) - 1) - ((nI n + 6) - 1) / 6 * 6 = nI ((n + 5) % 6) := by
    rw [show nI n + (6 : Int32) = nI (n + 6) from nI_add n 6, show nI (n + 6) - 1 = nI (n + 5) from nI_pred (n + 5)]
    exact pk_rem (d := 6) (by omega) (by omega) (by omega)
  obtain ⟨B, G, e, h⟩ := hc.like (HA 0) (HF 0)
  refine ⟨B, G, ?_, h⟩
  unfold sX2_pop
  rw [bd_eq, ex, bd_eq, nI_pred, ck_nI (show (n + 5) % 6 < 6 by omega) (by omega)]
  have hr : (n + 5) % 6 = 0 ∨ (n + 5) % 6 = 1 ∨ (n + 5) % 6 = 2 ∨ (n + 5) % 6 = 3 ∨ (n + 5) % 6 = 4 ∨ (n + 5) % 6 = 5 := by omega
  generalize (n + 5) % 6 = r at e hr ⊢
  rcases hr with q | q | q | q | q | q
  · subst q; rw [if_pos (by decide), show sX1_becomeLike (HA 0) (HF 0) (HA 2) (HF 2) = some (B, G) from e]; rfl
  · subst q; rw [if_neg (by decide), if_pos (by decide), show sX1_becomeLike (HA 0) (HF 0) (HA 3) (HF 3) = some (B, G) from e]; rfl
  · subst q; rw [if_neg (by decide), if_neg (by decide), if_pos (by decide), show sX1_becomeLike (HA 0) (HF 0) (HA 4) (HF 4) = some (B, G) from e]; rfl
  · subst q; rw [if_neg (by decide), if_neg (by decide), if_neg (by decide), if_pos (by decide), show sX1_becomeLike (HA 0) (HF 0) (HA 5) (HF 5) = some (B, G) from e]; rfl
  · subst q; rw [if_neg (by decide), if_neg (by decide), if_neg (by decide), if_neg (by decide), if_pos (by decide), show sX1_becomeLike (HA 0) (HF 0) (HA 6) (HF 6) = some (B, G) from e]; rfl
  · subst q; rw [if_neg (by decide), if_neg (by decide), if_neg (by decide), if_neg (by decide), if_neg (by decide), if_pos (by decide), show sX1_becomeLike (HA 0) (HF 0) (HA 7) (HF 7) = some (B, G) from e]; rfl
/-! the reference's notes -/
theorem setRF_ne (A : FA) {k a : Nat} (f : Nat → UInt32) (h : a ≠ k) : setRF A k f a = A a := by
  unfold setRF
  rw [show Nat.beq a k = false from by
    cases hb : Nat.beq a k with
    | false => rfl
    | true => exact absurd (Nat.eq_of_beq_eq_true hb) h]
  rfl
theorem wrF_at (A : FA) (k j : Nat) (v : UInt32) (i : Nat) : wrF A k j v k i = if i = j then v else A k i := by
  unfold wrF setRF
  rw [show Nat.beq k k = true from Nat.beq_refl k]
  show vf_upd (A k) j v i = _
  unfold vf_upd
  rfl
theorem wrF_ne (A : FA) {k a : Nat} (j : Nat) (v : UInt32) (h : a ≠ k) : wrF A k j v a = A a := by unfold wrF; exact setRF_ne _ _ h
theorem copy_loop {step : Int32 × IA → Option ((Int32 × IA) ⊕ IA)} {src dst u off : Nat} (hsd : src ≠ dst) (N0 : IA) (hs : ∀ i N, i < 296 → (∀ k, k ≠ dst → N k = N0 k) → step (nI i, N) = some (.inl (nI (i + 1), wr N dst (u + i) (N src (off + i))))) (he : ∀ N, step (nI 296, N) = some (.inr N)) : ∃ N, loopN step 2000 (0, N0) = some N ∧ (∀ k, k ≠ dst → N k = N0 k) ∧ (∀ i, i < 296 → N dst (u + i) = N0 src (off + i)) ∧ ∀ n, (n < u ∨ u + 296 ≤ n) → N dst n = N0 dst n := by
  refine loop_inv 296 (fun i a => ∃ N : IA, a = (nI i, N) ∧ (∀ k, k ≠ dst → N k = N0 k) ∧ (∀ j, j < i → N dst (u + j) = N0 src (off + j)) ∧ ∀ n, (n < u ∨ u + i ≤ n) → N dst n = N0 dst n) (fun N : IA => (∀ k, k ≠ dst → N k = N0 k) ∧ (∀ i, i < 296 → N dst (u + i) = N0 src (off + i)) ∧ ∀ n, (n < u ∨ u + 296 ≤ n) → N dst n = N0 dst n) ?_ 2000 0 _ (Nat.zero_le _) (by omega) ⟨N0, by rw [nI_0], fun _ _ => rfl, fun j hj => absurd hj (Nat.not_lt_zero j), fun _ _ => rfl⟩
  rintro i a hi ⟨N, rfl, h1, h2, h3⟩
  by_cases hlt : i < 296
  · left
    refine ⟨_, hlt, hs i N hlt h1, _, rfl, fun k hk => by rw [wr_row_ne _ _ _ hk, h1 k hk], fun j hj => ?_, fun n hn => ?_⟩
    · rw [wr_at]
      by_cases e : j = i
      · rw [if_pos ⟨rfl, by rw [e]⟩, e, h1 src hsd]
      · rw [if_neg (by omega)]; exact h2 j (by omega)
    · rw [wr_at, if_neg (by omega)]; exact h3 n (by omega)
  · right
    have hi2 : i = 296 := by omega
    subst hi2
    exact ⟨N, he N, h1, h2, h3⟩
theorem notes_tail {M : IA} {F : FA} {u : Nat} (hu : u < 6) (h5 : M 5 0 = nI u) (step : Int32 × IA → Option ((Int32 × IA) ⊕ IA)) (est : step = sX7_notes_L80) : ∃ N G, ((loopN step 2000 (0, M)).bind fun q2 => ck (2 * (q2 5 0)) 12 (bd (wrF F 4 ((2 * (q2 5 0)).toNatClampNeg) (F 2 (Int32.toNatClampNeg 0))) fun F1c => ck ((2 * (q2 5 0)) + 1) 12 (bd (wrF F1c 4 (((2 * (q2 5 0)) + 1).toNatClampNeg) (F1c 2 (Int32.toNatClampNeg 1))) fun F2c => bd (sc q2 5 ((q2 5 0) + 1)) fun A2 => some (A2, F2c)))) = some (N, G) ∧ N 5 0 = nI (u + 1) ∧ (∀ k, k ≠ 3 → k ≠ 5 → N k = M k) ∧ (∀ k, k ≠ 4 → G k = F k) ∧ (∀ i, i < 296 → N 3 (296 * u + i) = M 1 i) ∧ (∀ n, n < 296 * u → N 3 n = M 3 n) ∧ G 4 (2 * u) = F 2 0 ∧ G 4 (2 * u + 1) = F 2 1 ∧ ∀ n, n < 2 * u → G 4 n = F 4 n := by
  subst est
  obtain ⟨N, e, h1, h2, h3⟩ := copy_loop (step := sX7_notes_L80) (src := 1) (dst := 3) (u := 296 * u) (off := 0) (by decide) M (fun i N hi hN => by
    unfold sX7_notes_L80
    dsimp +instances only
    rw [if_neg (show ¬ (296 : Int32) ≤ nI i from nI_ge (b := 296) hi (by omega)), ck_nI hi (by omega), hN 5 (by decide), h5, show (296 : Int32) * nI u + nI i = nI (296 * u + i) from by rw [show (296 : Int32) = nI 296 from rfl, pk_mul, nI_add], ck_nI (by omega) (by omega), nI_clamp (by omega), nI_clamp (by omega), nI_1, Nat.zero_add]
    rfl) (fun N => by
    unfold sX7_notes_L80
    dsimp +instances only
    rw [if_pos (show (296 : Int32) ≤ nI 296 by decide)])
  rw [e, bind_s, h1 5 (by decide), h5, mul2n, ck_nI (by omega) (by omega), nI_clamp (by omega), bd_eq, nI_1, ck_nI (by omega) (by omega), nI_clamp (by omega), bd_eq, bd_eq, nI_1]
  refine ⟨_, _, rfl, sc_same _ _ _ _, fun k a b => by rw [sc_row_ne _ _ b, h1 k a], fun k a => by rw [wrF_ne _ _ _ a, wrF_ne _ _ _ a], fun i hi => ?_, fun n hn => ?_, ?_, ?_, fun n hn => ?_⟩
  · rw [sc_row_ne _ _ (by decide), h2 i hi, Nat.zero_add]
  · rw [sc_row_ne _ _ (by decide), h3 n (Or.inl hn)]
  · rw [wrF_at, if_neg (by omega), wrF_at, if_pos rfl]; rfl
  · rw [wrF_at, if_pos rfl, wrF_ne _ _ _ (by decide)]; rfl
  · rw [wrF_at, if_neg (by omega), wrF_at, if_neg (by omega)]
theorem notes_eq {M : IA} {F : FA} {u : Nat} (hu : u ≤ 6) (h5 : M 5 0 = nI u) : ∃ N G, sX7_notes M F = some (N, G) ∧ N 5 0 = nI (min (u + 1) 6) ∧ (∀ k, k ≠ 3 → k ≠ 5 → N k = M k) ∧ (∀ k, k ≠ 4 → G k = F k) ∧ (∀ i, i < 296 → N 3 (296 * (min (u + 1) 6 - 1) + i) = M 1 i) ∧ G 4 (2 * (min (u + 1) 6 - 1)) = F 2 0 ∧ G 4 (2 * (min (u + 1) 6 - 1) + 1) = F 2 1 ∧ ∀ j, j < min (u + 1) 6 - 1 → (∀ i, i < 296 → N 3 (296 * j + i) = M 3 (296 * (j + (u - 5)) + i)) ∧ G 4 (2 * j) = F 4 (2 * (j + (u - 5))) ∧ G 4 (2 * j + 1) = F 4 (2 * (j + (u - 5)) + 1) := by
  unfold sX7_notes
  by_cases h6 : u = 6
  · subst h6
    rw [if_pos (show M 5 0 = 6 by rw [h5]; rfl)]
    have k1 : ∃ N, loopN sX7_notes_L11 2000 (0, M) = some N ∧ (∀ k, k ≠ 3 → N k = M k) ∧ ∀ n, n < 1480 → N 3 n = M 3 (n + 296) := by
      refine loop_inv 1480 (fun i a => ∃ N : IA, a = (nI i, N) ∧ (∀ k, k ≠ 3 → N k = M k) ∧ (∀ n, n < i → N 3 n = M 3 (n + 296)) ∧ ∀ n, i ≤ n → N 3 n = M 3 n) (fun N : IA => (∀ k, k ≠ 3 → N k = M k) ∧ ∀ n, n < 1480 → N 3 n = M 3 (n + 296)) ?_ 2000 0 _ (Nat.zero_le _) (by omega) ⟨M, by rw [nI_0], fun _ _ => rfl, fun n hn => absurd hn (Nat.not_lt_zero n), fun _ _ => rfl⟩
      rintro i a hi ⟨N, rfl, g1, g2, g3⟩
      unfold sX7_notes_L11
      dsimp +instances only
      by_cases hlt : i < 1480
      · left
        rw [if_neg (show ¬ (1480 : Int32) ≤ nI i from nI_ge (b := 1480) hlt (by omega)), show nI i + (296 : Int32) = nI (i + 296) from nI_add i 296, ck_nI (by omega) (by omega), ck_nI (by omega) (by omega), nI_clamp (by omega), nI_clamp (by omega), bd_eq, nI_1]
        refine ⟨_, hlt, rfl, _, rfl, fun k hk => by rw [wr_row_ne _ _ _ hk, g1 k hk], fun n hn => ?_, fun n hn => ?_⟩
        · rw [wr_at]
          by_cases e : n = i
          · rw [if_pos ⟨rfl, e⟩, e, g3 _ (by omega)]
          · rw [if_neg (fun q => e q.2)]; exact g2 n (by omega)
        · rw [wr_at, if_neg (by omega)]; exact g3 n (by omega)
      · right
        have hi2 : i = 1480 := by omega
        subst hi2
        rw [if_pos (by decide)]
        exact ⟨N, rfl, g1, g2⟩
    obtain ⟨N1, e1, f1, c1⟩ := k1
    have k2 : ∃ b : IA × FA, loopN sX7_notes_L42 2000 (0, N1, F) = some b ∧ b.1 = N1 ∧ (∀ k, k ≠ 4 → b.2 k = F k) ∧ ∀ n, n < 10 → b.2 4 n = F 4 (n + 2) := by
      refine loop_inv 10 (fun i a => ∃ G : FA, a = (nI i, N1, G) ∧ (∀ k, k ≠ 4 → G k = F k) ∧ (∀ n, n < i → G 4 n = F 4 (n + 2)) ∧ ∀ n, i ≤ n → G 4 n = F 4 n) (fun b : IA × FA => b.1 = N1 ∧ (∀ k, k ≠ 4 → b.2 k = F k) ∧ ∀ n, n < 10 → b.2 4 n = F 4 (n + 2)) ?_ 2000 0 _ (Nat.zero_le _) (by omega) ⟨F, by rw [nI_0], fun _ _ => rfl, fun n hn => absurd hn (Nat.not_lt_zero n), fun _ _ => rfl⟩
      rintro i a hi ⟨G, rfl, g1, g2, g3⟩
      unfold sX7_notes_L42
      dsimp +instances only
      by_cases hlt : i < 10
      · left
        rw [if_neg (show ¬ (10 : Int32) ≤ nI i from nI_ge (b := 10) hlt (by omega)), show nI i + (2 : Int32) = nI (i + 2) from nI_add i 2, ck_nI (by omega) (by omega), ck_nI (by omega) (by omega), nI_clamp (by omega), nI_clamp (by omega), bd_eq, nI_1]
        refine ⟨_, hlt, rfl, _, rfl, fun k hk => by rw [wrF_ne _ _ _ hk, g1 k hk], fun n hn => ?_, fun n hn => ?_⟩
        · rw [wrF_at]
          by_cases e : n = i
          · rw [if_pos e, e, g3 _ (by omega)]
          · rw [if_neg e]; exact g2 n (by omega)
        · rw [wrF_at, if_neg (by omega)]; exact g3 n (by omega)
      · right
        have hi2 : i = 10 := by omega
        subst hi2
        rw [if_pos (by decide)]
        exact ⟨(N1, G), rfl, rfl, g1, g2⟩
    obtain ⟨⟨N2, G1⟩, e2, rfl, f2, c2⟩ := k2
    dsimp only at e1 f1 c1 e2 f2 c2
    have h55 : sc N2 5 (N2 5 0 - 1) 5 0 = nI 5 := by rw [sc_same, f1 5 (by decide), h5]; exact nI_pred 5
    obtain ⟨N, G, e3, t1, t2, t3, t4, t5, t6, t7, t8⟩ := notes_tail (M := sc N2 5 (N2 5 0 - 1)) (F := G1) (u := 5) (by omega) h55 sX7_notes_L80a rfl
    refine ⟨N, G, ?_, t1, fun k a b => by rw [t2 k a b, sc_row_ne _ _ b, f1 k a], fun k a => by rw [t3 k a]; exact f2 k a, fun i hi => ?_, ?_, ?_, fun j hj => ⟨fun i hi => ?_, ?_, ?_⟩⟩
    · rw [e1, bind_s, e2, bind_s, bd_eq]; exact e3
    · show N 3 (296 * 5 + i) = M 1 i
      rw [t4 i hi, sc_row_ne _ _ (by decide), f1 1 (by decide)]
    · show G 4 (2 * 5) = F 2 0
      rw [t6]
      exact congrFun (f2 2 (by decide)) 0
    · show G 4 (2 * 5 + 1) = F 2 1
      rw [t7]
      exact congrFun (f2 2 (by decide)) 1
    · have hj5 : j < 5 := hj
      show N 3 (296 * j + i) = M 3 (296 * (j + 1) + i)
      rw [t5 _ (by omega), sc_row_ne _ _ (by decide), c1 _ (by omega)]
      exact congrArg (M 3) (by omega)
    · have hj5 : j < 5 := hj
      show G 4 (2 * j) = F 4 (2 * (j + 1))
      rw [t8 _ (by omega)]
      exact (c2 _ (by omega)).trans (congrArg (F 4) (by omega))
    · have hj5 : j < 5 := hj
      show G 4 (2 * j + 1) = F 4 (2 * (j + 1) + 1)
      rw [t8 _ (by omega)]
      exact (c2 _ (by omega)).trans (congrArg (F 4) (by omega))
  · rw [if_neg (show ¬ M 5 0 = 6 by rw [h5]; exact fun q => h6 ((nI_eq (b := 6) (by omega) (by omega)).mp q))]
    obtain ⟨N, G, e3, t1, t2, t3, t4, t5, t6, t7, t8⟩ := notes_tail (M := M) (F := F) (u := u) (by omega) h5 sX7_notes_L80 rfl
    have em : min (u + 1) 6 = u + 1 := by omega
    have e0 : u - 5 = 0 := by omega
    rw [em, e0, Nat.add_sub_cancel]
    exact ⟨N, G, e3, t1, t2, t3, t4, t6, t7, fun j hj => ⟨fun i hi => t5 _ (by omega), t8 _ (by omega), t8 _ (by omega)⟩⟩
