/-! ===== 82 measured ===== -/
theorem blevm_back {h : IA} {g j a : Nat} (ha : a < 32) (hl : blevm h g (j + 1) a) : ∃ f b, f < 2 ∧ b < 32 ∧ h 7 (2 * a + f) = nI b ∧ blevm h g j b := by
  obtain ⟨⟨f, b, hf, hb', e, lb⟩, hm⟩ := hl
  exact ⟨f, b, hf, hb', e, lb, fun i hi li => hm (i + 1) (by omega) ⟨f, b, hf, hb', e, li⟩⟩
theorem blevm_one {h : IA} {g i j t : Nat} (h1 : blevm h g i t) (h2 : blevm h g j t) : i = j := by
  rcases Nat.lt_trichotomy i j with z | z | z
  · exact absurd h1.1 (h2.2 i z)
  · exact z
  · exact absurd h2.1 (h1.2 j z)
theorem blevm_list {h : IA} {g : Nat} : ∀ (j t : Nat), t < 32 → blevm h g j t → ∃ L : List Int32, L.length = j + 1 ∧ L.Nodup ∧ ∀ x, x ∈ L → ∃ u i, u < 32 ∧ x = nI u ∧ i ≤ j ∧ blevm h g i u := by
  intro j
  induction j with
  | zero => intro t ht hl; exact ⟨[nI t], rfl, List.pairwise_singleton _ _, fun x hx => ⟨t, 0, ht, List.mem_singleton.mp hx, Nat.le_refl _, hl⟩⟩
  | succ j ih =>
    intro t ht hl
    obtain ⟨f, b, hf, hb', e, lb⟩ := blevm_back ht hl
    obtain ⟨L, hL, hn, hx⟩ := ih b hb' lb
    refine ⟨L ++ [nI t], by rw [List.length_append, hL]; rfl, nodup_push hn (fun q => ?_), fun x q => ?_⟩
    · obtain ⟨u, i, hu, eu, hi, lu⟩ := hx _ q
      have : t = u := (nI_eq (by omega) (by omega)).mp eu
      subst this
      have := blevm_one lu hl
      omega
    · rcases List.mem_append.mp q with q | q
      · obtain ⟨u, i, hu, eu, hi, lu⟩ := hx x q
        exact ⟨u, i, hu, eu, by omega, lu⟩
      · exact ⟨t, j + 1, ht, List.mem_singleton.mp q, Nat.le_refl _, hl⟩
theorem blevm_lt {h : IA} {g j t : Nat} (ht : t < 32) (hl : blevm h g j t) : j < 32 := by
  obtain ⟨L, hL, hn, hx⟩ := blevm_list j t ht hl
  have := nodup_len 32 L hn (fun x q => by
    obtain ⟨u, i, hu, eu, _⟩ := hx x q
    exact ⟨u, hu, eu⟩) (by omega)
  omega
theorem blev_least {h : IA} {g j t : Nat} (hl : blev h g j t) : ∃ i, i ≤ j ∧ blevm h g i t := by
  obtain ⟨k, hk, hm⟩ := pk_least (fun k => blev h g k t) ⟨j, hl⟩
  refine ⟨k, ?_, hk, hm⟩
  rcases Nat.lt_or_ge j k with z | z
  · exact absurd hl (hm j z)
  · exact z
/-- a level that is empty leaves the later ones empty -/
theorem blevm_none {s : HS} (hI : Inv s) {g i : Nat} (h : ∀ a, a < 32 → lv s.1 a → ¬ blevm s.1 g i a) : ∀ k a, a < 32 → lv s.1 a → ¬ blevm s.1 g (i + k) a := by
  intro k
  induction k with
  | zero => exact h
  | succ k ih =>
    intro a ha hl hb'
    obtain ⟨f, b, hf, hbb, e, lb⟩ := blevm_back (j := i + k) ha hb'
    have h5 : s.1 7 (2 * a + f) ≠ -5 := fun q => nI_pos (n := b) (by omega) (by rw [← e, q]; decide)
    have := (hI.1.2.2.2.2.1.1 (2 * a + f) (by omega)).resolve_left h5
    rw [e, nI_clamp (show b < 2 ^ 31 by omega)] at this
    exact ih b hbb this lb
/-- row 1 tells how far each thing that is there is from g -/
def FbA (h : IA) (g : Nat) (F : Nat → Int32) : Prop := ∀ a, a < 32 → lv h a → (F a = 0 ∧ ∀ j, ¬ blev h g j a) ∨ ∃ j, j < 32 ∧ F a = nI (j + 1) ∧ blevm h g j a
theorem fb_all {s : HS} {g n : Nat} {F : Nat → Int32} (h : Fb s.1 g n F) (hn : ∀ a j, a < 32 → lv s.1 a → n ≤ j → ¬ blevm s.1 g j a) : FbA s.1 g F := fun a ha hl => by
  rcases h a ha hl with ⟨z, nl⟩ | ⟨j, hj, ej, lj⟩
  · refine Or.inl ⟨z, fun j lj => ?_⟩
    obtain ⟨i, _, li⟩ := blev_least lj
    rcases Nat.lt_or_ge i n with q | q
    · exact nl i q li.1
    · exact hn a i ha hl q li
  · exact Or.inr ⟨j, blevm_lt ha lj, ej, lj⟩
theorem c_measure {A : IA} {s : HS} (h : CR A s) (hI : Inv s) {g : Nat} (hg : g < 32) (Q : IA) : ∃ N, sX4_measureTo Q A (nI g) = some N ∧ FbA s.1 g (N 1) := by
  obtain ⟨Q0, eQ0⟩ : ∃ Q0, Q0 = wr (setR Q 1 (fun j => if j < 32 then 0 else Q 1 j)) 1 g 1 := ⟨_, rfl⟩
  have fb1 : Fb s.1 g 1 (Q0 1) := fun a ha hl => by
    rw [eQ0, wr_at, setR_same]
    by_cases e : a = g
    · rw [if_pos ⟨rfl, e⟩]
      exact Or.inr ⟨0, by omega, rfl, e, fun i hi => absurd hi (Nat.not_lt_zero i)⟩
    · rw [if_neg (fun q => e q.2), if_pos ha]
      refine Or.inl ⟨rfl, fun j hj => ?_⟩
      have : j = 0 := by omega
      subst this
      exact e
  have key : ∃ N, loopN (sX4_measureTo_L20 A) 2000 (1, 1, Q0) = some N ∧ FbA s.1 g (N 1) := by
    refine loop_inv 31 (fun i a => ∃ (gw : Int32) (N : IA), a = (gw, nI (i + 1), N) ∧ Fb s.1 g (i + 1) (N 1) ∧ (gw = 0 → ∀ a, a < 32 → lv s.1 a → ¬ blevm s.1 g i a)) (fun N : IA => FbA s.1 g (N 1)) ?_ 2000 0 _ (Nat.zero_le _) (by omega) ⟨1, Q0, rfl, fb1, fun q => absurd q (by decide)⟩
    rintro i a hi ⟨gw, N, rfl, h1, h2⟩
    unfold sX4_measureTo_L20
    dsimp +instances only
    by_cases hlt : i < 31
    · rw [if_neg (show ¬ (32 : Int32) ≤ nI (i + 1) from nI_ge (b := 32) (by omega) (by omega))]
      by_cases hg0 : gw = 0
      · right
        rw [if_pos hg0]
        refine ⟨N, rfl, fb_all h1 (fun a j ha hl hj => ?_)⟩
        have := blevm_none hI (h2 hg0) (j - i) a ha hl
        rw [show i + (j - i) = j by omega] at this
        exact this
      · left
        rw [if_neg hg0]
        obtain ⟨gw2, N2, e2, fb2, hg2, hs2⟩ := c_round h hI (M := N) (n := i) (by omega) h1 (gw, nI (i + 1), N) rfl
        rw [e2, bind_s, nI_1]
        refine ⟨_, hlt, rfl, gw2, N2, rfl, fb2, fun q a ha hl hb' => ?_⟩
        -- nothing new at this level
        rcases h1 a ha hl with ⟨z, _⟩ | ⟨j, hj, ej, lj⟩
        · rcases fb2 a ha hl with ⟨_, nl⟩ | ⟨j, hj, ej, lj⟩
          · exact nl (i + 1) (by omega) hb'.1
          · rw [hs2 q a ha, z] at ej
            exact absurd ej.symm (nI_ne0 (by omega) (by omega))
        · have := blevm_one lj hb'
          omega
    · right
      have hi2 : i = 31 := by omega
      subst hi2
      rw [if_pos (by decide)]
      exact ⟨N, rfl, fb_all h1 (fun a j ha hl hj lj => by have := blevm_lt ha lj; omega)⟩
  obtain ⟨N, e, hN⟩ := key
  refine ⟨N, ?_, hN⟩
  unfold sX4_measureTo
  rw [fill_eq 32 (by omega), bind_s, bd_eq, ck_nI hg (by omega), nI_clamp (by omega), bd_eq, ← eQ0, e]
  rfl
