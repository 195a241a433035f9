/-! ===== 62 copies; the relation between the two sides ===== -/
def Cq (A : IA) (F : FA) (S : Nat → Int32) (f0 f1 : UInt32) : Prop := ∃ s : HS, CR A s ∧ MR S s ∧ Inv s ∧ F 14 0 = f0 ∧ F 15 0 = f1
theorem mr_copy {S S' : Nat → Int32} {s : HS} (h : MR S s) (e : ∀ n, n < 296 → S' n = S n) : MR S' s := by
  refine ⟨fun k j hj hl => by rw [e _ (lc_back hj).1]; exact h.1 k j hj hl, ⟨⟨?_, fun i hi => ?_⟩, h.2.1.2⟩, ⟨⟨?_, fun i hi => ?_⟩, h.2.2.2⟩⟩
  · rw [e _ (by omega)]; exact h.2.1.1.1
  · have := h.2.1.2
    rw [e _ (by omega)]; exact h.2.1.1.2 i hi
  · rw [e _ (by omega)]; exact h.2.2.1.1
  · have := h.2.2.2
    rw [e _ (by omega)]; exact h.2.2.1.2 i hi
theorem Cq.copy {A : IA} {F : FA} {S S' : Nat → Int32} {f0 f1 : UInt32} (h : Cq A F S f0 f1) (e : ∀ n, n < 296 → S' n = S n) : Cq A F S' f0 f1 := by
  obtain ⟨s, a, b, c⟩ := h
  exact ⟨s, a, mr_copy b e, c⟩
theorem cpy_at (f g : Nat → Int32) {n j : Nat} (h : j < n) : va_cpy f g 0 0 n j = f j := by
  rw [pk_cpy_in (by omega) (by omega)]
  congr 1
  omega
theorem becomeLike_eq (A Ah : IA) (F Fh : FA) (hb' : Ah 12 0 = 0 ∨ Ah 12 0 = 1) : ∃ B G, sX1_becomeLike A F Ah Fh = some (B, G) ∧ (∀ k j, j < wid k → B k j = Ah k j) ∧ (∀ j, j < 32 → B 10 j = Ah 10 j ∧ B 11 j = Ah 11 j) ∧ B 18 0 = Ah 18 0 ∧ B 19 0 = Ah 19 0 ∧ G 14 0 = Fh 14 0 ∧ G 15 0 = Fh 15 0 := by
  unfold sX1_becomeLike sX5_becomeLike
  have hck : ∀ {α : Type} (k : Option α), ckb (Ah 12 0) k = k := by
    intro α k
    rcases hb' with e | e
    · rw [e]; rfl
    · rw [e]; rfl
  rw [bd_eq, bd_eq, bd_eq, bd_eq, bd_eq, bd_eq, bd_eq, bd_eq, bd_eq, bd_eq, bd_eq, bd_eq, bind_s, bd_eq, bd_eq, bd_eq, bind_s, bd_eq, hck, bd_eq, bd_eq, bd_eq, bd_eq, bd_eq, bd_eq]
  refine ⟨_, _, rfl, fun k j hj => ?_, fun j hj => ⟨cpy_at (Ah 10) _ hj, cpy_at (Ah 11) _ hj⟩, rfl, rfl, rfl, rfl⟩
  have hk := wid_lt hj
  have hne := wid_ne hj
  rcases (show k = 0 ∨ k = 1 ∨ k = 2 ∨ k = 3 ∨ k = 4 ∨ k = 5 ∨ k = 6 ∨ k = 7 ∨ k = 8 ∨ k = 9 ∨ k = 12 ∨ k = 13 ∨ k = 14 ∨ k = 15 ∨ k = 16 ∨ k = 17 by omega) with e | e | e | e | e | e | e | e | e | e | e | e | e | e | e | e
  all_goals subst e
  · exact cpy_at (Ah 0) _ hj
  · exact cpy_at (Ah 1) _ hj
  · exact cpy_at (Ah 2) _ hj
  · exact cpy_at (Ah 3) _ hj
  · exact cpy_at (Ah 4) _ hj
  · exact cpy_at (Ah 5) _ hj
  · exact cpy_at (Ah 6) _ hj
  · exact cpy_at (Ah 7) _ hj
  · exact cpy_at (Ah 8) _ hj
  · exact cpy_at (Ah 9) _ hj
  · have : j = 0 := by have h1 : j < 1 := hj; omega
    subst this; rfl
  · have : j = 0 := by have h1 : j < 1 := hj; omega
    subst this; rfl
  · exact absurd hj (Nat.not_lt_zero j)
  · exact absurd hj (Nat.not_lt_zero j)
  · have : j = 0 := by have h1 : j < 1 := hj; omega
    subst this; rfl
  · have : j = 0 := by have h1 : j < 1 := hj; omega
    subst this; rfl
theorem rowR_same {f g : Nat → Int32} {n : Int32} {L : List Int32} (h : RowR f n L) (e : ∀ j, j < 32 → g j = f j) : RowR g n L := ⟨h.1, h.2.1, fun i hi => by rw [e i (by have := h.2.1; omega)]; exact h.2.2 i hi⟩
theorem Cq.like {Ah : IA} {Fh : FA} {S : Nat → Int32} {f0 f1 : UInt32} (h : Cq Ah Fh S f0 f1) (A : IA) (F : FA) : ∃ B G, sX1_becomeLike A F Ah Fh = some (B, G) ∧ Cq B G S f0 f1 := by
  obtain ⟨s, a, b, c, d, e⟩ := h
  have hb' : Ah 12 0 = 0 ∨ Ah 12 0 = 1 := by
    rw [a.1 12 0 (by decide)]
    exact c.1.2.2.2.2.2.1.elim (fun q => Or.inl q.1) (fun q => Or.inr q.1)
  obtain ⟨B, G, e1, h1, h2, h3, h4, h5, h6⟩ := becomeLike_eq A Ah F Fh hb'
  refine ⟨B, G, e1, s, ⟨fun k j hj => by rw [h1 k j hj]; exact a.1 k j hj, ?_, ?_⟩, b, c, by rw [h5]; exact d, by rw [h6]; exact e⟩
  · rw [h3]; exact rowR_same a.2.1 (fun j hj => (h2 j hj).1)
  · rw [h4]; exact rowR_same a.2.2 (fun j hj => (h2 j hj).2)
