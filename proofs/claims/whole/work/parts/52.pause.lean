/-! ===== 52 the cost; a pause from end to end ===== -/
def rtn (rate : UInt32) (work cells : Int32) : UInt32 := if cells ≤ 0 then rate else FP.fadd (FP.fmul 1061158912 rate) (FP.fmul 1048576000 (FP.fdiv (FP.i2f work) (FP.i2f cells)))
theorem c_cost {A : IA} {s : HS} (h : CR A s) {Q : IA} {F Fh : FA} {x y : Int32} (hx : sJ6_bitCount_0f7a4 (Q 4 0) = some x) (hy : sJ6_bitCount_0f7a4 (Q 8 0) = some y) : ∃ B F', sX3_tellCost Q F A Fh = some (10 + (Q 7 0 + 2 * x + 5 * y), B, F') ∧ CR B (wr (wr s.1 16 0 (s.1 16 0 + 1)) 17 0 (10 + (Q 7 0 + 2 * x + 5 * y)), s.2) ∧ F' 14 0 = rtn (Fh 14 0) (Q 7 0 + 2 * x + 5 * y) (Q 5 0) ∧ F' 15 0 = rtn (Fh 15 0) (Q 6 0) (Q 11 0) := by
  have hB : CR (sc (sc A 16 (A 16 0 + 1)) 17 (10 + (Q 7 0 + 2 * x + 5 * y))) (wr (wr s.1 16 0 (s.1 16 0 + 1)) 17 0 (10 + (Q 7 0 + 2 * x + 5 * y)), s.2) := by
    rw [h.1 16 0 (by decide)]
    exact cr_sc (cr_sc h (k := 16) (by decide) _) (k := 17) (by decide) _
  unfold sX3_tellCost rtn
  rw [hx, bind_s, hy, bind_s, bd_eq]
  by_cases h5 : Q 5 0 ≤ 0
  · rw [if_pos h5, if_pos h5]
    by_cases h11 : Q 11 0 ≤ 0
    · rw [if_pos h11, if_pos h11, bd_eq, bd_eq]
      exact ⟨_, _, rfl, hB, rfl, rfl⟩
    · rw [if_neg h11, if_neg h11, bd_eq, bd_eq, bd_eq]
      exact ⟨_, _, rfl, hB, rfl, rfl⟩
  · rw [if_neg h5, if_neg h5, bd_eq]
    by_cases h11 : Q 11 0 ≤ 0
    · rw [if_pos h11, if_pos h11, bd_eq, bd_eq]
      exact ⟨_, _, rfl, hB, rfl, rfl⟩
    · rw [if_neg h11, if_neg h11, bd_eq, bd_eq, bd_eq]
      exact ⟨_, _, rfl, hB, rfl, rfl⟩
theorem smL_take (f : Int32 → Int32) {X : List Int32} {i : Nat} (hi : i < X.length) : smL f (X.take (i + 1)) = smL f (X.take i) + f (X.getD i 0) := by rw [take_next hi, smL_push]
theorem m_learns {M : IA} {s : HS} (h : MR (M 1) s) {h0 : IA} (hp : ∀ t, t < 32 → h0 5 t = nI (pP h0 t) ∧ pP h0 t < 10) {X : List Int32} (hx : FX X) (h14 : M 14 0 = nI X.length) (h15 : ∀ i, i < X.length → M 15 i = X.getD i 0) (h17 : ∀ t, t < 32 → M 17 t = h0 5 t) {ym : Int32} (h23 : M 23 0 = ym) (hy : ∀ r, r < 10 → (bt ym r = true ↔ h0 0 r = 1)) (hsz : ∀ x, x ∈ X → s.1 4 x.toNatClampNeg = h0 4 x.toNatClampNeg) (F : FA) (c : Int32) : ∃ F', sX7_learns M F c = some (M, F') ∧ F' 2 0 = rtn (F 2 0) (c - 10) (smL (szf h0) X) ∧ F' 2 1 = rtn (F 2 1) (smL (yof h0) X) (M 13 0) ∧ ∀ k, k ≠ 2 → F' k = F k := by
  have h32 := hx.len
  have key : ∃ b, loopN (sX7_learns_L7 M) 2000 (0, 0, 0) = some b ∧ b = (smL (szf h0) X, smL (yof h0) X) := by
    refine loop_inv X.length (fun i a => a = (smL (szf h0) (X.take i), smL (yof h0) (X.take i), nI i)) (fun b => b = (smL (szf h0) X, smL (yof h0) X)) ?_ 2000 0 _ (Nat.zero_le _) (by omega) (by rw [nI_0]; rfl)
    rintro i a hi rfl
    unfold sX7_learns_L7
    dsimp +instances only
    rw [h14]
    by_cases hlt : i < X.length
    · left
      obtain ⟨t, ht, et, ec⟩ := fx_item hx hlt
      have hst := hsz _ (getD_mem hlt)
      rw [ec] at hst
      have e1 : smL (szf h0) (X.take (i + 1)) = smL (szf h0) (X.take i) + h0 4 t := by rw [smL_take _ hlt]; unfold szf; rw [ec]
      have e2 : smL (yof h0) (X.take (i + 1)) = smL (yof h0) (X.take i) + if h0 0 (pP h0 t) = 1 then h0 4 t else 0 := by rw [smL_take _ hlt]; unfold yof; rw [ec]
      have hi32 : i < 32 := by omega
      have hpt := hp t ht
      rw [if_neg (nI_ge hlt (by omega)), ck_nI hi32 (by omega), nI_clamp (by omega), h15 i hlt, et, m_sz h ht, bind_s, bd_eq, ck_nI hi32 (by omega), ck_nI ht (by omega), nI_clamp (show t < 2 ^ 31 by omega), h23, h17 t ht, hpt.1, hb_val ym (by omega), hst, bd_eq, bd_eq, nI_1, e1, e2, Int32.add_zero]
      by_cases hb : bt ym (pP h0 t) = true
      · rw [if_pos hb, if_pos rfl, if_pos ((hy _ hpt.2).mp hb)]
        exact ⟨_, hlt, rfl, rfl⟩
      · rw [if_neg hb, if_neg (by decide), if_neg (fun w => hb ((hy _ hpt.2).mpr w)), Int32.add_zero]
        exact ⟨_, hlt, rfl, rfl⟩
    · right
      have hi2 : i = X.length := by omega
      subst hi2
      rw [List.take_length, if_pos (nI_le (Nat.le_refl _) (by omega))]
      exact ⟨_, rfl, rfl⟩
  obtain ⟨b, e, rfl⟩ := key
  unfold sX7_learns rtn
  rw [e, bind_s]
  dsimp +instances only
  have fo : ∀ (G : FA) (j : Nat) (v : UInt32) (k : Nat), k ≠ 2 → wrF G 2 j v k = G k := by
    intro G j v k q
    unfold wrF setRF
    rw [show Nat.beq k 2 = false from by
      cases hb : Nat.beq k 2 with
      | false => rfl
      | true => exact absurd (Nat.eq_of_beq_eq_true hb) q]
    rfl
  by_cases h5 : smL (szf h0) X ≤ 0
  · rw [if_pos h5, if_pos h5]
    by_cases h11 : M 13 0 ≤ 0
    · rw [if_pos h11, if_pos h11]
      exact ⟨_, rfl, rfl, rfl, fun _ _ => rfl⟩
    · rw [if_neg h11, if_neg h11, bd_eq]
      exact ⟨_, rfl, rfl, rfl, fun k hk => fo _ _ _ k hk⟩
  · rw [if_neg h5, if_neg h5, bd_eq]
    by_cases h11 : M 13 0 ≤ 0
    · rw [if_pos h11, if_pos h11]
      exact ⟨_, rfl, rfl, rfl, fun k hk => fo _ _ _ k hk⟩
    · rw [if_neg h11, if_neg h11, bd_eq]
      exact ⟨_, rfl, rfl, rfl, fun k hk => by rw [fo _ _ _ k hk, fo _ _ _ k hk]⟩
theorem fl_nil (h : IA) (m : Int32) : FL h m [] := fun _ q => absurd q List.not_mem_nil
theorem fl_x1 {s : HS} (hS : St s) {m : Int32} (hm : Chm s.1 m) : FL s.1 m (x1st s m) := by
  have h1 : FL s.1 m (xr s.1 m) := it_inv (fun _ X => FL s.1 m X) 6 (fl_nil _ _) (fun i _ hi h => fl_fd hS hm h (st_root hS hi))
  have h2 : ∀ i, i ≤ s.2.2.length → FL s.1 m (fdl s.1 m (s.2.2.take i) (xr s.1 m)) := by
    intro i
    induction i with
    | zero => intro _; rw [List.take_zero]; exact h1
    | succ i ih =>
      intro hi
      rw [fdl_next _ _ _ _ (by omega)]
      have hmem := getD_mem (L := s.2.2) (i := i) (by omega)
      exact fl_fd hS hm (ih (by omega)) (Or.inr ⟨hS.1.2.2.2.2.2.1 _ hmem, hS.2.2.2.2.1.2.2 _ hmem⟩)
  have := h2 s.2.2.length (Nat.le_refl _)
  rw [List.take_length] at this
  exact this
theorem fl_mt {s : HS} (hS : St s) {m : Int32} (hm : Chm s.1 m) {r c : Nat} {X : List Int32} (hx : FL s.1 m X) : FL s.1 m (mt s.1 m r c X) := by
  unfold mt
  split
  · exact hx
  · next t e =>
    have := tatF_some s.1 r c 32 0 t e
    exact fl_ff hS hm hx (by omega)
theorem fl_scA {s : HS} (hS : St s) {m : Int32} (hm : Chm s.1 m) {v : Int32} {X : List Int32} (hx : FL s.1 m X) : FL s.1 m (scA s.1 m v X) := it_inv (fun _ X => FL s.1 m X) 20 hx (fun i X _ h => by
  split
  · exact it_inv (fun _ X => FL s.1 m X) 4 h (fun _ _ _ h => fl_mt hS hm h)
  · exact h)
theorem fx_scA {s : HS} (w : Wf s) {m v : Int32} {X : List Int32} (hx : FX X) : FX (scA s.1 m v X) := it_inv (fun _ X => FX X) 20 hx (fun i X _ h => by
  split
  · exact fx_sc1 w h
  · exact h)
theorem mi_init {s : HS} (hS : St s) {m : Int32} {X : List Int32} (hx : FX X) (hl : FL s.1 m X) : MI s m (s, -9, 0, 0, 0) X 0 :=
  ⟨hS, Or.inl rfl, ⟨hx, hl⟩, fun _ _ _ _ _ => rfl, rfl, fun _ _ _ => ⟨rfl, rfl⟩, fun t _ q => by rw [List.take_zero] at q; exact absurd q List.not_mem_nil, fun t ht q => by
    have q2 : bt 0 t = true := q
    rw [bt_0 t ht] at q2
    exact Bool.noConfusion q2, fun _ _ => Or.inl rfl⟩
theorem m20_scd {h : IA} (hm : ∀ r, r < 10 → M20 (h 3 r)) (m : Int32) : M20 (scd h m) := fun i h1 h2 => by
  rw [bt_scd hm h2, m20_orm hm m 10 (Nat.le_refl _) i h1 h2, Bool.false_and]
