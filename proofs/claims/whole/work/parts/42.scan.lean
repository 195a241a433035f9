/-! ===== 42 roots, grey things, cards: what is found first ===== -/
def fdl (h : IA) (m : Int32) (G : List Int32) (X : List Int32) : List Int32 := G.foldl (fun X v => fd h m v X) X
theorem fdl_next (h : IA) (m : Int32) (G X : List Int32) {i : Nat} (hi : i < G.length) : fdl h m (G.take (i + 1)) X = fd h m (G.getD i 0) (fdl h m (G.take i) X) := by
  unfold fdl
  rw [take_next hi, List.foldl_append]
  rfl
def xr (h : IA) (m : Int32) : List Int32 := it (fun r X => fd h m (h 9 r) X) 6 []
def tatF (h : IA) (r c : Nat) : Nat → Nat → Option Nat
  | 0, _ => none
  | n + 1, t => if h 4 t ≤ 0 then tatF h r c n (t + 1) else if h 5 t = nI r then (if h 6 t = nI c then some t else tatF h r c n (t + 1)) else tatF h r c n (t + 1)
def tat (h : IA) (r c : Nat) : Option Nat := tatF h r c 32 0
def tc (h : IA) (r c t : Nat) : Prop := ¬ h 4 t ≤ 0 ∧ h 5 t = nI r ∧ h 6 t = nI c
theorem tatF_some (h : IA) (r c : Nat) : ∀ n t u, tatF h r c n t = some u → t ≤ u ∧ u < t + n ∧ tc h r c u := by
  intro n
  induction n with
  | zero => intro t u q; have q2 : (none : Option Nat) = some u := q; cases q2
  | succ n ih =>
    intro t u q
    unfold tatF at q
    by_cases h1 : h 4 t ≤ 0
    · rw [if_pos h1] at q
      have := ih _ _ q
      exact ⟨by omega, by omega, this.2.2⟩
    · rw [if_neg h1] at q
      by_cases h2 : h 5 t = nI r
      · rw [if_pos h2] at q
        by_cases h3 : h 6 t = nI c
        · rw [if_pos h3] at q
          have e : t = u := Option.some.inj q
          subst e
          exact ⟨Nat.le_refl _, by omega, h1, h2, h3⟩
        · rw [if_neg h3] at q
          have := ih _ _ q
          exact ⟨by omega, by omega, this.2.2⟩
      · rw [if_neg h2] at q
        have := ih _ _ q
        exact ⟨by omega, by omega, this.2.2⟩
theorem tatF_none (h : IA) (r c : Nat) : ∀ n t, tatF h r c n t = none → ∀ u, t ≤ u → u < t + n → ¬ tc h r c u := by
  intro n
  induction n with
  | zero => intro t _ u h1 h2; omega
  | succ n ih =>
    intro t q u hu1 hu2 hc
    unfold tatF at q
    by_cases e : u = t
    · subst e
      rw [if_neg hc.1, if_pos hc.2.1, if_pos hc.2.2] at q
      cases q
    · have q2 : tatF h r c n (t + 1) = none := by
        by_cases h1 : h 4 t ≤ 0
        · rw [if_pos h1] at q; exact q
        · rw [if_neg h1] at q
          by_cases h2 : h 5 t = nI r
          · rw [if_pos h2] at q
            by_cases h3 : h 6 t = nI c
            · rw [if_pos h3] at q; cases q
            · rw [if_neg h3] at q; exact q
          · rw [if_neg h2] at q; exact q
      exact ih _ q2 u (by omega) (by omega) hc
def encT : Option Nat → Int32
  | none => -9
  | some t => nI t
theorem c_tatF {A : IA} {s : HS} (h : CR A s) (r c : Nat) : ∀ n t k, t + n = 32 → n < k → loopN (sX1_thingAt_L2 A (nI r) (nI c)) k (nI t) = some (encT (tatF s.1 r c n t)) := by
  intro n
  induction n with
  | zero =>
    intro t k ht hk
    obtain ⟨j, rfl⟩ : ∃ j, k = j + 1 := ⟨k - 1, by omega⟩
    have ht2 : t = 32 := by omega
    subst ht2
    exact loopN_inr (by unfold sX1_thingAt_L2; rw [if_pos (by decide)]; rfl)
  | succ n ih =>
    intro t k ht hk
    obtain ⟨j, rfl⟩ : ∃ j, k = j + 1 := ⟨k - 1, by omega⟩
    have hlt : t < 32 := by omega
    have hst : sX1_thingAt_L2 A (nI r) (nI c) (nI t) = if s.1 4 t ≤ 0 then some (.inl (nI (t + 1))) else if s.1 5 t = nI r then (if s.1 6 t = nI c then some (.inr (nI t)) else some (.inl (nI (t + 1)))) else some (.inl (nI (t + 1))) := by
      unfold sX1_thingAt_L2
      rw [if_neg (show ¬ (32 : Int32) ≤ nI t from nI_ge (b := 32) hlt (by omega)), c_in h hlt, bind_s, nI_1, ck_nI hlt (by omega), nI_clamp (by omega), h.1 6 t (w_th hlt (by omega) (by omega) (by omega))]
      by_cases h1 : s.1 4 t ≤ 0
      · rw [if_pos h1, if_pos h1, if_pos rfl]
      · rw [if_neg h1, if_neg h1, ite10]
    unfold tatF
    by_cases h1 : s.1 4 t ≤ 0
    · rw [if_pos h1] at hst ⊢
      rw [loopN_inl hst]
      exact ih (t + 1) j (by omega) (by omega)
    · rw [if_neg h1] at hst ⊢
      by_cases h2 : s.1 5 t = nI r
      · rw [if_pos h2] at hst ⊢
        by_cases h3 : s.1 6 t = nI c
        · rw [if_pos h3] at hst ⊢
          exact loopN_inr hst
        · rw [if_neg h3] at hst ⊢
          rw [loopN_inl hst]
          exact ih (t + 1) j (by omega) (by omega)
      · rw [if_neg h2] at hst ⊢
        rw [loopN_inl hst]
        exact ih (t + 1) j (by omega) (by omega)
theorem c_tat {A : IA} {s : HS} (h : CR A s) (r c : Nat) : sX1_thingAt A (nI r) (nI c) = some (encT (tat s.1 r c)) := by
  have := c_tatF h r c 32 0 2000 rfl (by omega)
  rw [nI_0] at this
  exact this
/-- the fields of what lies there -/
def mt (h : IA) (m : Int32) (r c : Nat) (X : List Int32) : List Int32 :=
  match tat h r c with
  | none => X
  | some t => ff h m t X
def sc1 (h : IA) (m : Int32) (card : Nat) (X : List Int32) : List Int32 := it (fun c X => mt h m (card / 2) (4 * (card % 2) + c) X) 4 X
def scA (h : IA) (m scd : Int32) (X : List Int32) : List Int32 := it (fun card X => if bt scd card = true then sc1 h m card X else X) 20 X
theorem fx_ff {s : HS} (w : Wf s) {m : Int32} {t : Nat} (ht : t < 32) {X : List Int32} (hx : FX X) : FX (ff s.1 m t X) := fx_fd (fx_fd hx (w.2.1 _ (by omega))) (w.2.1 _ (by omega))
theorem fx_mt {s : HS} (w : Wf s) {m : Int32} {r c : Nat} {X : List Int32} (hx : FX X) : FX (mt s.1 m r c X) := by
  unfold mt
  split
  · exact hx
  · next t e =>
    have := tatF_some s.1 r c 32 0 t e
    exact fx_ff w (by omega) hx
theorem fx_sc1 {s : HS} (w : Wf s) {m : Int32} {card : Nat} {X : List Int32} (hx : FX X) : FX (sc1 s.1 m card X) := it_inv (fun _ X => FX X) 4 hx (fun _ _ _ h => fx_mt w h)
theorem c_mt {A : IA} {s : HS} (h : CR A s) (w : Wf s) {Q : IA} {m : Int32} {X : List Int32} (hq : PQ Q s.1 m X) (hx : FX X) (r c : Nat) : ∃ Q', (sX1_thingAt A (nI r) (nI c)).bind (fun x3 => if x3 = -9 then some Q else sX3_findFields Q A x3) = some Q' ∧ PQ Q' s.1 m (mt s.1 m r c X) ∧ FQ Q Q' := by
  rw [c_tat h r c, bind_s]
  unfold mt
  cases e : tat s.1 r c with
  | none =>
    exact ⟨Q, by show (if (-9 : Int32) = -9 then some Q else _) = _; rw [if_pos rfl], hq, FQ.refl Q⟩
  | some t =>
    have ht := tatF_some s.1 r c 32 0 t e
    obtain ⟨Q', e', h1, h2, _⟩ := c_ff h w hq hx (Cp.refl s m X) (show t < 32 by omega)
    refine ⟨Q', ?_, h1, h2⟩
    show (if nI t = -9 then some Q else sX3_findFields Q A (nI t)) = _
    rw [if_neg (fun q => nI_pos (n := t) (by omega) (by rw [q]; decide)), e']
theorem c_sc1 {A : IA} {s : HS} (h : CR A s) (w : Wf s) {Q : IA} {m : Int32} {X : List Int32} (hq : PQ Q s.1 m X) (hx : FX X) {card : Nat} (hc : card < 20) : ∃ Q', sX3_scanCard Q A (nI card) = some Q' ∧ PQ Q' s.1 m (sc1 s.1 m card X) ∧ FQ Q Q' := by
  have ex : (nI card - nI card / 2 * 2) * (4 : Int32) = nI (4 * (card % 2)) := by
    rw [show nI card - nI card / (2 : Int32) * 2 = nI (card % 2) from pk_rem (d := 2) (by omega) (by omega) (by omega), show (4 : Int32) = nI 4 from rfl, pk_mul, Nat.mul_comm]
  have key : ∃ b, loopN (sX3_scanCard_L9 A (nI card) (nI (4 * (card % 2)))) 2000 (nI (4 * (card % 2)), Q) = some b ∧ (PQ b s.1 m (sc1 s.1 m card X) ∧ FQ Q b) := by
    refine loop_inv 4 (fun i a => ∃ Q', a = (nI (4 * (card % 2) + i), Q') ∧ PQ Q' s.1 m (it (fun c X => mt s.1 m (card / 2) (4 * (card % 2) + c) X) i X) ∧ FX (it (fun c X => mt s.1 m (card / 2) (4 * (card % 2) + c) X) i X) ∧ FQ Q Q') (fun b => PQ b s.1 m (sc1 s.1 m card X) ∧ FQ Q b) ?_ 2000 0 _ (Nat.zero_le _) (by omega) ⟨Q, rfl, hq, hx, FQ.refl Q⟩
    rintro i a hi ⟨Q', rfl, h1, h2, h3⟩
    unfold sX3_scanCard_L9 sX6_regionOfCard
    dsimp +instances only
    rw [show nI (4 * (card % 2)) + (4 : Int32) = nI (4 * (card % 2) + 4) from nI_add _ 4]
    by_cases hlt : i < 4
    · left
      rw [if_neg (nI_ge (by omega) (by omega)), bind_s, show nI card / (2 : Int32) = nI (card / 2) from pk_div (d := 2) (by omega) (by omega) (by omega), nI_1]
      obtain ⟨Q2, e2, g1, g2⟩ := c_mt h w h1 h2 (card / 2) (4 * (card % 2) + i)
      refine ⟨(nI (4 * (card % 2) + i + 1), Q2), hlt, ?_, Q2, rfl, g1, fx_mt w h2, h3.trans g2⟩
      rw [c_tat h] at e2 ⊢
      rw [bind_s] at e2 ⊢
      by_cases h9 : encT (tat s.1 (card / 2) (4 * (card % 2) + i)) = -9
      · rw [if_pos h9] at e2 ⊢
        rw [Option.some.inj e2]
      · rw [if_neg h9] at e2 ⊢
        rw [e2]
        rfl
    · right
      have hi2 : i = 4 := by omega
      subst hi2
      rw [if_pos (nI_le (Nat.le_refl _) (by omega))]
      exact ⟨Q', rfl, h1, h3⟩
  obtain ⟨b, e, h1, h2⟩ := key
  refine ⟨b, ?_, h1, h2⟩
  unfold sX3_scanCard
  rw [bd_eq, ex, e]
  rfl
/-! masks -/
def orm (h : IA) (m : Int32) : Nat → Int32
  | 0 => 0
  | r + 1 => if bt m r = true then orm h m r ||| h 3 r else orm h m r
def clr (m v : Int32) : Nat → Int32
  | 0 => v
  | r + 1 => if bt m r = true then clr m v r &&& m3 r else clr m v r
def scd (h : IA) (m : Int32) : Int32 := clr m (orm h m 10) 10
theorem bt_m3 {r i : Nat} (hr : r < 10) (hi : i < 32) : bt (m3 r) i = !decide (i / 2 = r) := by
  unfold m3
  rw [bt_not _ hi, bt_three r hr i hi]
theorem bt_clr (m v : Int32) : ∀ n, n ≤ 10 → ∀ i, i < 32 → bt (clr m v n) i = (bt v i && !(decide (i / 2 < n) && bt m (i / 2))) := by
  intro n
  induction n with
  | zero =>
    intro _ i _
    show bt v i = _
    rw [decide_eq_false (by omega)]
    simp
  | succ n ih =>
    intro hn i hi
    have ih2 := ih (by omega) i hi
    show bt (if bt m n = true then clr m v n &&& m3 n else clr m v n) i = _
    by_cases hb : bt m n = true
    · rw [if_pos hb, bt_and, ih2, bt_m3 (by omega) hi]
      by_cases e : i / 2 = n
      · rw [e, hb]
        simp
      · have e2 : decide (i / 2 < n + 1) = decide (i / 2 < n) := by
          by_cases q : i / 2 < n
          · rw [decide_eq_true q, decide_eq_true (by omega)]
          · rw [decide_eq_false q, decide_eq_false (by omega)]
        rw [e2, decide_eq_false e]
        simp
    · rw [if_neg hb, ih2]
      by_cases e : i / 2 = n
      · rw [e, Bool.eq_false_iff.mpr hb]
        simp
      · have e2 : decide (i / 2 < n + 1) = decide (i / 2 < n) := by
          by_cases q : i / 2 < n
          · rw [decide_eq_true q, decide_eq_true (by omega)]
          · rw [decide_eq_false q, decide_eq_false (by omega)]
        rw [e2]
theorem m20_orm {h : IA} (hm : ∀ r, r < 10 → M20 (h 3 r)) (m : Int32) : ∀ n, n ≤ 10 → M20 (orm h m n) := by
  intro n
  induction n with
  | zero => intro _; exact M20.zero
  | succ n ih =>
    intro hn
    show M20 (if bt m n = true then orm h m n ||| h 3 n else orm h m n)
    split
    · exact (ih (by omega)).or (hm n (by omega))
    · exact ih (by omega)
theorem bt_orm (h : IA) (m : Int32) : ∀ n i, bt (orm h m n) i = true → i < 32 → ∃ r, r < n ∧ bt m r = true ∧ bt (h 3 r) i = true := by
  intro n
  induction n with
  | zero =>
    intro i q hi
    rw [show orm h m 0 = 0 from rfl, bt_0 i hi] at q
    exact Bool.noConfusion q
  | succ n ih =>
    intro i q hi
    have q2 : bt (if bt m n = true then orm h m n ||| h 3 n else orm h m n) i = true := q
    by_cases hb : bt m n = true
    · rw [if_pos hb, bt_or, Bool.or_eq_true] at q2
      rcases q2 with q3 | q3
      · obtain ⟨r, a, b⟩ := ih i q3 hi
        exact ⟨r, by omega, b⟩
      · exact ⟨n, by omega, hb, q3⟩
    · rw [if_neg hb] at q2
      obtain ⟨r, a, b⟩ := ih i q2 hi
      exact ⟨r, by omega, b⟩
theorem bt_orm_of (h : IA) (m : Int32) {r i : Nat} (hb : bt m r = true) (hi : bt (h 3 r) i = true) : ∀ n, r < n → bt (orm h m n) i = true := by
  intro n
  induction n with
  | zero => intro q; omega
  | succ n ih =>
    intro q
    show bt (if bt m n = true then orm h m n ||| h 3 n else orm h m n) i = true
    by_cases e : r = n
    · subst e
      rw [if_pos hb, bt_or, hi, Bool.or_true]
    · have := ih (by omega)
      split
      · rw [bt_or, this, Bool.true_or]
      · exact this
theorem c_orm {A : IA} {s : HS} (h : CR A s) {Q : IA} {m : Int32} (hm : Q 10 0 = m) (h4 : Q 4 0 = 0) : ∃ Q', loopN (sX3_scanCards_L2 A) 2000 (0, Q) = some Q' ∧ Q' 4 0 = orm s.1 m 10 ∧ ∀ k, k ≠ 4 → Q' k = Q k := by
  refine loop_inv 10 (fun i a => ∃ Q' : IA, a = (nI i, Q') ∧ Q' 4 0 = orm s.1 m i ∧ ∀ k, k ≠ 4 → Q' k = Q k) (fun Q' : IA => Q' 4 0 = orm s.1 m 10 ∧ ∀ k, k ≠ 4 → Q' k = Q k) ?_ 2000 0 _ (Nat.zero_le _) (by omega) ⟨Q, by rw [nI_0], h4, fun _ _ => rfl⟩
  rintro i a hi ⟨Q', rfl, h1, h2⟩
  unfold sX3_scanCards_L2
  dsimp +instances only
  by_cases hlt : i < 10
  · left
    have e : orm s.1 m (i + 1) = if bt m i = true then orm s.1 m i ||| s.1 3 i else orm s.1 m i := rfl
    rw [if_neg (show ¬ (10 : Int32) ≤ nI i from nI_ge (b := 10) hlt (by omega)), h2 10 (by decide), hm, hasBit_eq m (by omega), bind_s, ite10, nI_1, ck_nI hlt (by omega), nI_clamp (by omega), h.1 3 i (w_rg hlt (by omega)), h1, bd_eq, e]
    by_cases hb : bt m i = true
    · rw [if_pos hb, if_pos hb]
      exact ⟨_, hlt, rfl, _, rfl, by rw [sc_same], fun k hk => by rw [sc_row_ne _ _ hk, h2 k hk]⟩
    · rw [if_neg hb, if_neg hb]
      exact ⟨_, hlt, rfl, _, rfl, h1, h2⟩
  · right
    have hi2 : i = 10 := by omega
    subst hi2
    rw [if_pos (by decide)]
    exact ⟨_, rfl, h1, h2⟩
theorem or_0 (x : Int32) : x ||| 0 = x := bt_ext (fun i hi => by rw [bt_or, bt_0 i hi, Bool.or_false])
theorem and_m1 (x : Int32) : x &&& (-1) = x := bt_ext (fun i hi => by rw [bt_and, bt_m1 i hi, Bool.and_true])
theorem m_rem {M : IA} {s : HS} (h : MR (M 1) s) {m : Int32} (hm : M 11 0 = m) : sX7_remembered M = some (scd s.1 m) := by
  have k1 : ∃ b, loopN (sX7_remembered_L4 M) 2000 (0, 0) = some b ∧ b = orm s.1 m 10 := by
    refine loop_inv 10 (fun i a => a = (orm s.1 m i, nI i)) (fun b => b = orm s.1 m 10) ?_ 2000 0 _ (Nat.zero_le _) (by omega) (by rw [nI_0]; rfl)
    rintro i a hi rfl
    unfold sX7_remembered_L4
    dsimp +instances only
    by_cases hlt : i < 10
    · left
      have e : orm s.1 m (i + 1) = if bt m i = true then orm s.1 m i ||| s.1 3 i else orm s.1 m i := rfl
      rw [if_neg (show ¬ (10 : Int32) ≤ nI i from nI_ge (b := 10) hlt (by omega)), hm, hb_val m (by omega), m_mm h hlt, bind_s, bd_eq, bd_eq, nI_1, or_0, e]
      by_cases hb : bt m i = true
      · rw [if_pos hb, if_pos hb, if_pos rfl]
        exact ⟨_, hlt, rfl, rfl⟩
      · rw [if_neg hb, if_neg hb, if_neg (by decide)]
        exact ⟨_, hlt, rfl, rfl⟩
    · right
      have hi2 : i = 10 := by omega
      subst hi2
      rw [if_pos (by decide)]
      exact ⟨_, rfl, rfl⟩
  obtain ⟨b1, e1, rfl⟩ := k1
  have k2 : ∃ b, loopN (sX7_remembered_L43 M) 2000 (orm s.1 m 10, 0) = some b ∧ b = scd s.1 m := by
    refine loop_inv 10 (fun i a => a = (clr m (orm s.1 m 10) i, nI i)) (fun b => b = scd s.1 m) ?_ 2000 0 _ (Nat.zero_le _) (by omega) (by rw [nI_0]; rfl)
    rintro i a hi rfl
    unfold sX7_remembered_L43
    dsimp +instances only
    by_cases hlt : i < 10
    · left
      have e : clr m (orm s.1 m 10) (i + 1) = if bt m i = true then clr m (orm s.1 m 10) i &&& m3 i else clr m (orm s.1 m 10) i := rfl
      rw [if_neg (show ¬ (10 : Int32) ≤ nI i from nI_ge (b := 10) hlt (by omega)), hm, hb_val m (by omega), bd_eq, bd_eq, nI_1, and_m1, e]
      by_cases hb : bt m i = true
      · rw [if_pos hb, if_pos hb, if_pos rfl]
        exact ⟨_, hlt, rfl, rfl⟩
      · rw [if_neg hb, if_neg hb, if_neg (by decide)]
        exact ⟨_, hlt, rfl, rfl⟩
    · right
      have hi2 : i = 10 := by omega
      subst hi2
      rw [if_pos (by decide)]
      exact ⟨_, rfl, rfl⟩
  obtain ⟨b2, e2, rfl⟩ := k2
  unfold sX7_remembered
  rw [e1, bind_s, e2]
  rfl
