/-! ===== 49 cards become dirty; chosen regions are swept ===== -/
def addD (c : Nat) (D : List Int32) : List Int32 := if nI c ∈ D then D else D ++ [nI c]
theorem mem_addD {c : Nat} {D : List Int32} {x : Int32} : x ∈ addD c D ↔ x ∈ D ∨ x = nI c := by
  unfold addD
  split
  · next h => exact ⟨Or.inl, fun q => q.elim id (fun w => by rw [w]; exact h)⟩
  · rw [List.mem_append, List.mem_singleton]
theorem wf_addD {s : HS} (w : Wf s) {c : Nat} (hc : c < 20) : Wf (s.1, addD c s.2.1, s.2.2) := by
  refine ⟨w.1, w.2.1, w.2.2.1, fun x hx => ?_, ?_, w.2.2.2.2.2⟩
  · rcases mem_addD.mp hx with q | q
    · exact w.2.2.2.1 x q
    · exact ⟨c, hc, q⟩
  · show (addD c s.2.1).Nodup
    unfold addD
    split
    · exact w.2.2.2.2.1
    · next h => exact nodup_push w.2.2.2.2.1 h
theorem wf_roomD {s : HS} (w : Wf s) {c : Nat} (hc : c < 20) (h : ¬ nI c ∈ s.2.1) : s.2.1.length < 20 := nodup_room w.2.2.2.2.1 w.2.2.2.1 h ⟨c, hc, rfl⟩ (by omega)
theorem c_app {A : IA} {s : HS} (h : CR A s) (w : Wf s) {c : Nat} (hc : c < 20) : ∃ z, sX5_append (A 10) (A 18 0) (nI c) = some z ∧ CR (sc (setR A 10 z.2.1) 18 z.2.2) (s.1, addD c s.2.1, s.2.2) ∧ z.1 = if nI c ∈ s.2.1 then 0 else 1 := by
  by_cases hm : nI c ∈ s.2.1
  · obtain ⟨f, e, hf⟩ := append_spec h.2.1 (nI c) (Or.inl hm)
    rw [if_pos hm, if_pos hm] at e hf
    refine ⟨_, e, ?_, by rw [if_pos hm]⟩
    have e2 : addD c s.2.1 = s.2.1 := by unfold addD; rw [if_pos hm]
    rw [e2]
    exact cr_dirty h hf
  · obtain ⟨f, e, hf⟩ := append_spec h.2.1 (nI c) (Or.inr (by have := wf_roomD w hc hm; omega))
    rw [if_neg hm, if_neg hm] at e hf
    refine ⟨_, e, ?_, by rw [if_neg hm]⟩
    have e2 : addD c s.2.1 = s.2.1 ++ [nI c] := by unfold addD; rw [if_neg hm]
    rw [e2]
    exact cr_dirty h hf
theorem m_app {M : IA} {s : HS} (h : MR (M 1) s) (w : Wf s) {c : Nat} (hc : c < 20) : ∃ N, sX7_becomesDirty M (nI c) = some N ∧ MR (N 1) (s.1, addD c s.2.1, s.2.2) ∧ Fr M N := by
  have hr : nI c ∈ s.2.1 ∨ s.2.1.length < 20 := by
    by_cases hm : nI c ∈ s.2.1
    · exact Or.inl hm
    · exact Or.inr (wf_roomD w hc hm)
  obtain ⟨N, e, h1, h2, h3⟩ := becomesDirty_spec h.2.1.1 h.2.1.2 (nI c) hr
  refine ⟨N, e, mr_dirty h h1 ?_ h3, h2⟩
  have := (wf_addD w hc)
  exact nodup_len 20 _ this.2.2.2.2.1 this.2.2.2.1 (by omega)
def dX (X : List Int32) (s : HS) : HS := (s.1, X.foldl (fun D x => addD (cdo s.1 x.toNatClampNeg) D) s.2.1, s.2.2)
def dC1 (v : Int32) (c : Nat) (s : HS) : HS := if bt v c = true then (s.1, addD c s.2.1, s.2.2) else s
def dC (v : Int32) (s : HS) : HS := it (dC1 v) 20 s
theorem dX_next (X : List Int32) (s : HS) {i : Nat} (hi : i < X.length) : dX (X.take (i + 1)) s = (s.1, addD (cdo s.1 (X.getD i 0).toNatClampNeg) (dX (X.take i) s).2.1, s.2.2) := by
  unfold dX
  rw [take_next hi, List.foldl_append]
  rfl
theorem wf_dXt {X : List Int32} (hx : FX X) {s : HS} (w : Wf s) : ∀ i, i ≤ X.length → Wf (dX (X.take i) s) := by
  intro i
  induction i with
  | zero => intro _; rw [List.take_zero]; exact w
  | succ i ih =>
    intro hi
    obtain ⟨t, ht, et, ec⟩ := fx_item hx (show i < X.length by omega)
    rw [dX_next X s (by omega), ec]
    have hw : Wf (dX (X.take i) s) := ih (by omega)
    exact wf_addD (s := dX (X.take i) s) hw (cdo_lt w ht)
theorem wf_dC {s : HS} (w : Wf s) (v : Int32) : Wf (dC v s) := it_inv (fun _ s => Wf s) 20 w (fun i s hi h => by
  unfold dC1
  split
  · exact wf_addD h hi
  · exact h)
theorem c_dirtied {A : IA} {s : HS} (h : CR A s) (w : Wf s) {X : List Int32} (hx : FX X) {Q : IA} (hq : RowR (Q 1) (Q 9 0) X) {v : Int32} (h4 : Q 4 0 = v) : ∃ B, sX3_dirtyMoved Q A = some B ∧ CR B (dC v (dX X s)) := by
  have h32 := hx.len
  have k1 : ∃ b, loopN (sX3_dirtyMoved_L2 Q) 2000 (0, A) = some b ∧ CR b (dX X s) := by
    refine loop_inv X.length (fun i a => ∃ b, a = (nI i, b) ∧ CR b (dX (X.take i) s)) (fun b => CR b (dX X s)) ?_ 2000 0 _ (Nat.zero_le _) (by omega) ⟨A, by rw [nI_0], by rw [List.take_zero]; exact h⟩
    rintro i a hi ⟨b, rfl, g1⟩
    unfold sX3_dirtyMoved_L2
    dsimp +instances only
    by_cases hlt : i < X.length
    · left
      obtain ⟨t, ht, et, ec⟩ := fx_item hx hlt
      have hw := wf_dXt hx w i (by omega)
      obtain ⟨z, ez, hz, _⟩ := c_app g1 hw (cdo_lt hw ht)
      rw [if_neg (show ¬ (32 : Int32) ≤ nI i from nI_ge (b := 32) (by omega) (by omega)), if_neg (by rw [hq.1]; exact nI_ge hlt (by omega)), itemAt_spec hq hlt, bind_s, et, c_card g1 hw ht, bind_s, ez, bind_s, bd_eq, nI_1]
      refine ⟨_, hlt, rfl, _, rfl, ?_⟩
      rw [dX_next X s hlt, ec]
      exact hz
    · right
      have hi2 : i = X.length := by omega
      subst hi2
      rw [List.take_length] at g1
      by_cases h9 : (32 : Int32) ≤ nI X.length
      · rw [if_pos h9]
        exact ⟨b, rfl, g1⟩
      · rw [if_neg h9, if_pos (by rw [hq.1]; exact nI_le (Nat.le_refl _) (by omega))]
        exact ⟨b, rfl, g1⟩
  obtain ⟨b, e1, hb⟩ := k1
  have hw : Wf (dX X s) := by
    have := wf_dXt hx w X.length (Nat.le_refl _)
    rw [List.take_length] at this
    exact this
  obtain ⟨B, e, hB, _⟩ := for_rel (step := sX3_dirtyMoved_L47 Q) (dC1 v) (fun s x => CR x s) (fun _ s => Wf s) 20 (by omega)
    (fun i s x hi ws hx => by
      unfold sX3_dirtyMoved_L47 dC1
      dsimp +instances only
      rw [if_neg (show ¬ (20 : Int32) ≤ nI i from nI_ge (b := 20) hi (by omega)), h4, hasBit_eq v (by omega), bind_s, ite10, nI_1]
      by_cases hb : bt v i = true
      · rw [if_pos hb, if_pos hb]
        obtain ⟨z, ez, hz, _⟩ := c_app hx ws hi
        rw [ez, bind_s, bd_eq]
        exact ⟨_, rfl, hz, wf_addD ws hi⟩
      · rw [if_neg hb, if_neg hb]
        exact ⟨x, rfl, hx, ws⟩)
    (fun s x _ _ => by
      unfold sX3_dirtyMoved_L47
      dsimp +instances only
      rw [if_pos (show (20 : Int32) ≤ nI 20 by decide)]) (s := dX X s) hw hb
  refine ⟨B, ?_, hB⟩
  unfold sX3_dirtyMoved
  rw [e1, bind_s, e]
  rfl
theorem m_dirtied {M : IA} {s : HS} (h : MR (M 1) s) (w : Wf s) {X : List Int32} (hx : FX X) (h14 : M 14 0 = nI X.length) (h15 : ∀ i, i < X.length → M 15 i = X.getD i 0) {v : Int32} (h18 : M 18 0 = v) : ∃ N, (loopN sX7_pause_L151 2000 (0, M)).bind (fun q => loopN sX7_pause_L181 2000 (0, q)) = some N ∧ MR (N 1) (dC v (dX X s)) ∧ Fr M N := by
  have h32 := hx.len
  have k1 : ∃ b, loopN sX7_pause_L151 2000 (0, M) = some b ∧ (MR (b 1) (dX X s) ∧ Fr M b) := by
    refine loop_inv X.length (fun i a => ∃ b : IA, a = (nI i, b) ∧ MR (b 1) (dX (X.take i) s) ∧ Fr M b) (fun b : IA => MR (b 1) (dX X s) ∧ Fr M b) ?_ 2000 0 _ (Nat.zero_le _) (by omega) ⟨M, by rw [nI_0], by rw [List.take_zero]; exact h, Fr.refl M⟩
    rintro i a hi ⟨b, rfl, g1, g2⟩
    unfold sX7_pause_L151
    dsimp +instances only
    rw [g2 14 (by decide), h14]
    by_cases hlt : i < X.length
    · left
      obtain ⟨t, ht, et, ec⟩ := fx_item hx hlt
      have hw := wf_dXt hx w i (by omega)
      obtain ⟨N, eN, hN, fN⟩ := m_app g1 hw (cdo_lt hw ht)
      rw [if_neg (nI_ge hlt (by omega)), ck_nI (show i < 32 by omega) (by omega), nI_clamp (by omega), g2 15 (by decide), h15 i hlt, et, m_card g1 hw ht, bind_s, eN, bind_s, nI_1]
      refine ⟨_, hlt, rfl, N, rfl, ?_, g2.trans fN⟩
      rw [dX_next X s hlt, ec]
      exact hN
    · right
      have hi2 : i = X.length := by omega
      subst hi2
      rw [List.take_length] at g1
      rw [if_pos (nI_le (Nat.le_refl _) (by omega))]
      exact ⟨b, rfl, g1, g2⟩
  obtain ⟨b, e1, hb, fb⟩ := k1
  have hw : Wf (dX X s) := by
    have := wf_dXt hx w X.length (Nat.le_refl _)
    rw [List.take_length] at this
    exact this
  obtain ⟨B, e, hB, _⟩ := for_rel (step := sX7_pause_L181) (dC1 v) (fun s x => MR (x 1) s ∧ Fr M x) (fun _ s => Wf s) 20 (by omega)
    (fun i s x hi ws hx => by
      unfold sX7_pause_L181 dC1
      dsimp +instances only
      rw [if_neg (show ¬ (20 : Int32) ≤ nI i from nI_ge (b := 20) hi (by omega)), hx.2 18 (by decide), h18, hb_val v (by omega), nI_1]
      by_cases hb : bt v i = true
      · rw [if_pos hb, if_pos hb, if_pos rfl]
        obtain ⟨N, eN, hN, fN⟩ := m_app hx.1 ws hi
        rw [eN, bind_s]
        exact ⟨N, rfl, ⟨hN, hx.2.trans fN⟩, wf_addD ws hi⟩
      · rw [if_neg hb, if_neg hb, if_neg (by decide)]
        exact ⟨x, rfl, hx, ws⟩)
    (fun s x _ _ => by
      unfold sX7_pause_L181
      dsimp +instances only
      rw [if_pos (show (20 : Int32) ≤ nI 20 by decide)]) (s := dX X s) hw ⟨hb, fb⟩
  exact ⟨B, by rw [e1, bind_s, e], hB.1, hB.2⟩
/-! what is emptied, place by place -/
theorem em1_eq (r : Nat) (st : Nat → Bool) (t : Nat) (s : HS) : em1 r st t s = if s.1 4 t ≤ 0 then s else if s.1 5 t = nI r then (if st t = true then s else en1 t s) else s := rfl
def dd (s : HS) (r : Nat) (st : Nat → Bool) (t : Nat) : Prop := lv s.1 t ∧ s.1 5 t = nI r ∧ st t = false
theorem em_n (r : Nat) (st : Nat → Bool) (s : HS) : ∀ n, n ≤ 32 → (it (em1 r st) n s).2 = s.2 ∧ (∀ k, k ≠ 4 → k ≠ 7 → (it (em1 r st) n s).1 k = s.1 k) ∧ (∀ t, (t < n ∧ dd s r st t → (it (em1 r st) n s).1 4 t = 0) ∧ (¬ (t < n ∧ dd s r st t) → (it (em1 r st) n s).1 4 t = s.1 4 t)) ∧ ∀ i, i < 64 → ((∃ u, u < n ∧ dd s r st u ∧ s.1 7 i = nI u) → (it (em1 r st) n s).1 7 i = -5) ∧ ((¬ ∃ u, u < n ∧ dd s r st u ∧ s.1 7 i = nI u) → (it (em1 r st) n s).1 7 i = s.1 7 i) := by
  intro n
  induction n with
  | zero => exact fun _ => ⟨rfl, fun _ _ _ => rfl, fun t => ⟨fun q => absurd q.1 (Nat.not_lt_zero t), fun _ => rfl⟩, fun i _ => ⟨fun ⟨u, hu, _⟩ => absurd hu (Nat.not_lt_zero u), fun _ => rfl⟩⟩
  | succ n ih =>
    intro hn
    obtain ⟨i1, i2, i3, i4⟩ := ih (by omega)
    have e4 : (it (em1 r st) n s).1 4 n = s.1 4 n := (i3 n).2 (fun q => Nat.lt_irrefl n q.1)
    have e5 : (it (em1 r st) n s).1 5 = s.1 5 := i2 5 (by decide) (by decide)
    by_cases hd : dd s r st n
    · have es : it (em1 r st) (n + 1) s = en1 n (it (em1 r st) n s) := by
        show em1 r st n (it (em1 r st) n s) = _
        rw [em1_eq, e4, if_neg hd.1, e5, if_pos hd.2.1, if_neg (by rw [hd.2.2]; decide)]
      rw [es]
      refine ⟨by rw [en1_2]; exact i1, fun k h4 h7 => ?_, fun t => ⟨fun q => ?_, fun q => ?_⟩, fun i hi => ⟨fun q => ?_, fun q => ?_⟩⟩
      · funext i
        rw [en1_at, if_neg (fun w => h7 w.1), if_neg (fun w => h4 w.1), i2 k h4 h7]
      · rw [en1_at, if_neg (by omega)]
        by_cases e : t = n
        · rw [if_pos ⟨rfl, e⟩]
        · rw [if_neg (fun w => e w.2)]; exact (i3 t).1 ⟨by omega, q.2⟩
      · have e : t ≠ n := fun w => q ⟨by omega, by rw [w]; exact hd⟩
        rw [en1_at, if_neg (by omega), if_neg (fun w => e w.2)]
        exact (i3 t).2 (fun w => q ⟨by omega, w.2⟩)
      · rw [en1_at, if_pos ⟨rfl, hi⟩]
        obtain ⟨u, hu, hdu, eu⟩ := q
        unfold nil_if
        by_cases w : ∃ u, u < n ∧ dd s r st u ∧ s.1 7 i = nI u
        · rw [(i4 i hi).1 w]
          split
          · rfl
          · rfl
        · rw [(i4 i hi).2 w]
          by_cases e : u = n
          · rw [if_pos (by rw [eu, e])]
          · exact absurd ⟨u, by omega, hdu, eu⟩ w
      · rw [en1_at, if_pos ⟨rfl, hi⟩, (i4 i hi).2 (fun ⟨u, hu, w⟩ => q ⟨u, by omega, w⟩)]
        unfold nil_if
        rw [if_neg (fun w => q ⟨n, by omega, hd, w⟩)]
    · have es : it (em1 r st) (n + 1) s = it (em1 r st) n s := by
        show em1 r st n (it (em1 r st) n s) = _
        rw [em1_eq, e4, e5]
        by_cases h1 : s.1 4 n ≤ 0
        · rw [if_pos h1]
        · rw [if_neg h1]
          by_cases h2 : s.1 5 n = nI r
          · rw [if_pos h2]
            by_cases h3 : st n = true
            · rw [if_pos h3]
            · exact absurd ⟨h1, h2, Bool.eq_false_iff.mpr h3⟩ hd
          · rw [if_neg h2]
      rw [es]
      refine ⟨i1, i2, fun t => ⟨fun q => ?_, fun q => ?_⟩, fun i hi => ⟨fun ⟨u, hu, hdu, eu⟩ => ?_, fun q => ?_⟩⟩
      · by_cases e : t = n
        · rw [e] at q; exact absurd q.2 hd
        · exact (i3 t).1 ⟨by omega, q.2⟩
      · exact (i3 t).2 (fun w => q ⟨by omega, w.2⟩)
      · by_cases e : u = n
        · rw [e] at hdu; exact absurd hdu hd
        · exact (i4 i hi).1 ⟨u, by omega, hdu, eu⟩
      · exact (i4 i hi).2 (fun ⟨u, hu, w⟩ => q ⟨u, by omega, w⟩)
