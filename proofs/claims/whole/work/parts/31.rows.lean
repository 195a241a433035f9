/-! ===== 31 ROWS OF NUMBERS: the class's Row, and the two rows inside the reference's s, as lists ===== -/
/-- the first n places of a row are the list -/
def RowR (f : Nat → Int32) (n : Int32) (L : List Int32) : Prop := n = nI L.length ∧ L.length ≤ 32 ∧ ∀ i, i < L.length → f i = L.getD i 0
theorem RowR.mem {f : Nat → Int32} {n : Int32} {L : List Int32} (h : RowR f n L) {x : Int32} : x ∈ L ↔ ∃ i, i < L.length ∧ f i = x := by
  constructor
  · intro hx
    obtain ⟨i, hi, e⟩ := List.mem_iff_getElem.mp hx
    refine ⟨i, hi, ?_⟩
    rw [h.2.2 i hi, List.getD_eq_getElem?_getD, List.getElem?_eq_getElem hi]
    exact e
  · rintro ⟨i, hi, e⟩
    rw [h.2.2 i hi, List.getD_eq_getElem?_getD, List.getElem?_eq_getElem hi] at e
    exact List.mem_iff_getElem.mpr ⟨i, hi, e⟩
theorem getD_app {L : List Int32} {x : Int32} {i : Nat} (h : i < L.length) : (L ++ [x]).getD i 0 = L.getD i 0 := by
  rw [List.getD_eq_getElem?_getD, List.getD_eq_getElem?_getD, List.getElem?_append_left h]
theorem getD_last {L : List Int32} {x : Int32} : (L ++ [x]).getD L.length 0 = x := by
  rw [List.getD_eq_getElem?_getD, List.getElem?_append_right (Nat.le_refl _)]
  simp
theorem RowR.push {f : Nat → Int32} {n : Int32} {L : List Int32} (h : RowR f n L) (x : Int32) (hl : L.length < 32) : RowR (upd f L.length x) (n + 1) (L ++ [x]) := by
  refine ⟨?_, ?_, fun i hi => ?_⟩
  · rw [h.1, nI_1, List.length_append]; rfl
  · rw [List.length_append]; show L.length + 1 ≤ 32; omega
  · rw [List.length_append] at hi
    have hi2 : i < L.length + 1 := hi
    unfold upd
    by_cases e : i = L.length
    · rw [if_pos e, e, getD_last]
    · rw [if_neg e, getD_app (by omega)]
      exact h.2.2 i (by omega)
/-- Row.append: a number that is there already stays alone -/
theorem append_spec {f : Nat → Int32} {n : Int32} {L : List Int32} (h : RowR f n L) (x : Int32) (hl : x ∈ L ∨ L.length < 32) : ∃ f', sX5_append f n x = some (if x ∈ L then 0 else 1, f', if x ∈ L then n else n + 1) ∧ RowR f' (if x ∈ L then n else n + 1) (if x ∈ L then L else L ++ [x]) := by
  have key : ∃ b, loopN (sX5_append_L2 f n x) 2000 0 = some b ∧ ∃ f', b = (if x ∈ L then 0 else 1, f', if x ∈ L then n else n + 1) ∧ RowR f' (if x ∈ L then n else n + 1) (if x ∈ L then L else L ++ [x]) := by
    refine loop_inv L.length (fun i a => a = nI i ∧ ∀ j, j < i → f j ≠ x) (fun b => ∃ f', b = (if x ∈ L then 0 else 1, f', if x ∈ L then n else n + 1) ∧ RowR f' (if x ∈ L then n else n + 1) (if x ∈ L then L else L ++ [x])) ?_ 2000 0 0 (Nat.zero_le _) (by have := h.2.1; omega) ⟨nI_0.symm, fun j hj => by omega⟩
    rintro i a hi ⟨rfl, hno⟩
    have h32 := h.2.1
    unfold sX5_append_L2
    by_cases hlt : i < L.length
    · have hn : ¬ n ≤ nI i := by rw [h.1]; exact nI_ge hlt (by omega)
      rw [if_neg hn, ck_nI (show i < 32 by omega) (by omega), nI_clamp (show i < 2 ^ 31 by omega)]
      by_cases hx : f i = x
      · right
        have hm : x ∈ L := h.mem.mpr ⟨i, hlt, hx⟩
        refine ⟨_, by rw [if_pos hx], f, ?_, ?_⟩
        · rw [if_pos hm, if_pos hm]
        · rw [if_pos hm, if_pos hm]; exact h
      · left
        refine ⟨nI i + 1, hlt, by rw [if_neg hx], nI_1 i, fun j hj => ?_⟩
        by_cases e : j = i
        · rw [e]; exact hx
        · exact hno j (by omega)
    · have hi2 : i = L.length := by omega
      have hn : n ≤ nI i := by rw [h.1, hi2]; exact nI_le (Nat.le_refl _) (by omega)
      rw [if_pos hn]
      have hm : ¬ x ∈ L := fun q => by
        obtain ⟨j, hj, e⟩ := h.mem.mp q
        exact hno j (by omega) e
      have hl2 : L.length < 32 := hl.resolve_left hm
      have hn2 : n < 32 := by rw [h.1]; exact nI_lt (b := 32) hl2 (by omega)
      right
      rw [if_pos hn2, show ck n 32 (bd (upd f n.toNatClampNeg x) fun f1 => bd (n + 1) fun n1 => some (Sum.inr (1, f1, n1))) = (bd (upd f n.toNatClampNeg x) fun f1 => bd (n + 1) fun n1 => some (Sum.inr ((1 : Int32), f1, n1)) : Option (Int32 ⊕ (Int32 × (Nat → Int32) × Int32))) from by rw [h.1]; exact ck_nI hl2 (by omega)]
      refine ⟨(1, upd f n.toNatClampNeg x, n + 1), rfl, upd f n.toNatClampNeg x, ?_, ?_⟩
      · rw [if_neg hm, if_neg hm]
      · rw [if_neg hm, if_neg hm, show n.toNatClampNeg = L.length from by rw [h.1]; exact nI_clamp (by omega)]
        exact h.push x hl2
  obtain ⟨b, e, f', rfl, hr⟩ := key
  exact ⟨f', e, hr⟩
theorem itemAt_spec {f : Nat → Int32} {n : Int32} {L : List Int32} (h : RowR f n L) {i : Nat} (hi : i < L.length) : sX5_itemAt f n (nI i) = some (L.getD i 0) := by
  have h32 := h.2.1
  unfold sX5_itemAt
  rw [if_neg (nI_pos (by omega)), if_neg (by rw [h.1]; exact nI_ge hi (by omega)), ck_nI (by omega) (by omega), nI_clamp (by omega), h.2.2 i hi]
theorem itemAt_none {f : Nat → Int32} {n : Int32} {L : List Int32} (h : RowR f n L) {x : Int32} (hx : x < 0 ∨ nI L.length ≤ x) : sX5_itemAt f n x = some (-9) := by
  unfold sX5_itemAt
  rcases hx with hx | hx
  · rw [if_pos hx]
  · by_cases h0 : x < 0
    · rw [if_pos h0]
    · rw [if_neg h0, if_pos (by rw [h.1]; exact hx)]
/-- what is left of a list when a number goes -/
def dropL (x : Int32) (L : List Int32) : List Int32 := L.filter (fun y => decide (y ≠ x))
theorem dropL_app (x : Int32) (L M : List Int32) : dropL x (L ++ M) = dropL x L ++ dropL x M := List.filter_append L M
theorem dropL_len (x : Int32) (L : List Int32) : (dropL x L).length ≤ L.length := List.length_filter_le _ _
theorem dropL_one (x y : Int32) : dropL x [y] = if y = x then [] else [y] := by
  unfold dropL
  by_cases h : y = x
  · rw [if_pos h, List.filter_cons_of_neg (by simp [h])]; rfl
  · rw [if_neg h, List.filter_cons_of_pos (by simp [h])]; rfl
theorem take_next {L : List Int32} {i : Nat} (h : i < L.length) : L.take (i + 1) = L.take i ++ [L.getD i 0] := by
  rw [List.take_succ, List.getElem?_eq_getElem h, List.getD_eq_getElem?_getD, List.getElem?_eq_getElem h]
  rfl
/-- Row.drop -/
theorem drop_spec {f : Nat → Int32} {n : Int32} {L : List Int32} (h : RowR f n L) (x : Int32) : ∃ f', sX5_drop f n x = some (f', nI (dropL x L).length) ∧ RowR f' (nI (dropL x L).length) (dropL x L) := by
  have h32 := h.2.1
  have key : ∃ b, loopN (sX5_drop_L4 x) 2000 (0, 0, f, n) = some b ∧ ∃ g, b = (nI (dropL x L).length, g, n) ∧ ∀ j, j < (dropL x L).length → g j = (dropL x L).getD j 0 := by
    refine loop_inv L.length (fun i a => ∃ g : Nat → Int32, a = (nI (dropL x (L.take i)).length, nI i, g, n) ∧ (∀ j, j < (dropL x (L.take i)).length → g j = (dropL x (L.take i)).getD j 0) ∧ ∀ j, i ≤ j → j < L.length → g j = L.getD j 0) (fun b => ∃ g : Nat → Int32, b = (nI (dropL x L).length, g, n) ∧ ∀ j, j < (dropL x L).length → g j = (dropL x L).getD j 0) ?_ 2000 0 _ (Nat.zero_le _) (by omega) ⟨f, by rw [List.take_zero]; rfl, fun j hj => by rw [List.take_zero] at hj; exact absurd hj (Nat.not_lt_zero j), fun j _ hj => h.2.2 j hj⟩
    rintro i a hi ⟨g, rfl, hg1, hg2⟩
    have hT : (dropL x (L.take i)).length ≤ i := Nat.le_trans (dropL_len x _) (by rw [List.length_take]; omega)
    unfold sX5_drop_L4
    by_cases hlt : i < L.length
    · have hn : ¬ n ≤ nI i := by rw [h.1]; exact nI_ge hlt (by omega)
      have hc : (nI i).toNatClampNeg = i := nI_clamp (by omega)
      have hgi : g i = L.getD i 0 := hg2 i (Nat.le_refl i) hlt
      left
      dsimp +instances only
      rw [if_neg hn, ck_nI (show i < 32 by omega) (by omega), hc]
      by_cases hx : g i = x
      · rw [if_pos hx]
        have hT2 : dropL x (L.take (i + 1)) = dropL x (L.take i) := by rw [take_next hlt, dropL_app, dropL_one, if_pos (by rw [← hgi]; exact hx), List.append_nil]
        exact ⟨_, hlt, rfl, g, by rw [hT2, nI_1], by rw [hT2]; exact hg1, fun j h1 h2 => hg2 j (by omega) h2⟩
      · rw [if_neg hx, ck_nI (show i < 32 by omega) (by omega), ck_nI (show (dropL x (L.take i)).length < 32 by omega) (by omega)]
        have hT2 : dropL x (L.take (i + 1)) = dropL x (L.take i) ++ [L.getD i 0] := by rw [take_next hlt, dropL_app, dropL_one, if_neg (by rw [← hgi]; exact hx)]
        have hcl : (nI (dropL x (L.take i)).length).toNatClampNeg = (dropL x (L.take i)).length := nI_clamp (by omega)
        refine ⟨_, hlt, rfl, upd g (dropL x (L.take i)).length (g i), ?_, ?_, ?_⟩
        · rw [hT2, List.length_append, hcl, nI_1, nI_1]; rfl
        · intro j hj
          rw [hT2] at hj ⊢
          rw [List.length_append] at hj
          have hj2 : j < (dropL x (L.take i)).length + 1 := hj
          unfold upd
          by_cases e : j = (dropL x (L.take i)).length
          · rw [if_pos e, e, getD_last, hgi]
          · rw [if_neg e, getD_app (by omega)]; exact hg1 j (by omega)
        · intro j h1 h2
          unfold upd
          rw [if_neg (by omega)]
          exact hg2 j (by omega) h2
    · have hi2 : i = L.length := by omega
      subst hi2
      right
      dsimp +instances only
      rw [if_pos (show n ≤ nI L.length by rw [h.1]; exact nI_le (Nat.le_refl _) (by omega))]
      rw [List.take_length] at hg1 ⊢
      exact ⟨_, rfl, g, rfl, hg1⟩
  obtain ⟨b, e, g, rfl, hg⟩ := key
  refine ⟨g, ?_, rfl, ?_, hg⟩
  · unfold sX5_drop
    rw [e]
    rfl
  · exact Nat.le_trans (dropL_len x L) h32
/-- a row inside the reference's s: from a place on, how many at another place -/
def RowS (S : Nat → Int32) (base cnt : Nat) (L : List Int32) : Prop := S cnt = nI L.length ∧ ∀ i, i < L.length → S (base + i) = L.getD i 0
theorem mem_take_next {L : List Int32} {x : Int32} {i : Nat} (h : i < L.length) : x ∈ L.take (i + 1) ↔ x ∈ L.take i ∨ L.getD i 0 = x := by
  rw [take_next h, List.mem_append, List.mem_singleton]
  constructor
  · rintro (h | h)
    · exact Or.inl h
    · exact Or.inr h.symm
  · rintro (h | h)
    · exact Or.inl h
    · exact Or.inr h.symm
theorem isDirty_spec {M : IA} {L : List Int32} (h : RowS (M 1) 238 258 L) (hl : L.length ≤ 20) (x : Int32) : sX7_isDirty M x = some (if x ∈ L then 1 else 0) := by
  have key : ∃ b, loopN (sX7_isDirty_L4 M x) 2000 (0, 0) = some b ∧ b = if x ∈ L then 1 else 0 := by
    refine loop_inv L.length (fun i a => a = (if x ∈ L.take i then 1 else 0, nI i)) (fun b => b = if x ∈ L then 1 else 0) ?_ 2000 0 _ (Nat.zero_le _) (by omega) (by rw [List.take_zero, if_neg List.not_mem_nil]; rfl)
    rintro i a hi rfl
    unfold sX7_isDirty_L4
    dsimp +instances only
    rw [show M 1 (Int32.toNatClampNeg 258) = nI L.length from h.1]
    by_cases hlt : i < L.length
    · left
      rw [if_neg (nI_ge hlt (by omega)), show (238 : Int32) + nI i = nI (238 + i) from nI_add 238 i, ck_nI (show 238 + i < 296 by omega) (by omega), nI_clamp (show 238 + i < 2 ^ 31 by omega), h.2 i hlt]
      by_cases hm : x ∈ L.take i
      · rw [if_pos hm, if_neg (show ¬ (1 : Int32) = 0 by decide)]
        exact ⟨_, hlt, rfl, by rw [if_pos ((mem_take_next hlt).mpr (Or.inl hm)), nI_1]⟩
      · rw [if_neg hm, if_pos rfl]
        by_cases hx : L.getD i 0 = x
        · rw [if_pos hx]
          exact ⟨_, hlt, rfl, by rw [if_pos ((mem_take_next hlt).mpr (Or.inr hx)), nI_1]⟩
        · rw [if_neg hx]
          exact ⟨_, hlt, rfl, by rw [if_neg (fun q => ((mem_take_next hlt).mp q).elim hm hx), nI_1]⟩
    · have hi2 : i = L.length := by omega
      subst hi2
      right
      rw [if_pos (nI_le (Nat.le_refl _) (by omega)), List.take_length]
      exact ⟨_, rfl, rfl⟩
  obtain ⟨b, e, rfl⟩ := key
  unfold sX7_isDirty
  rw [e]
  by_cases hm : x ∈ L
  · rw [if_pos hm]; rfl
  · rw [if_neg hm]; rfl
theorem becomesDirty_spec {M : IA} {L : List Int32} (h : RowS (M 1) 238 258 L) (hl : L.length ≤ 20) (x : Int32) (hx : x ∈ L ∨ L.length < 20) : ∃ M', sX7_becomesDirty M x = some M' ∧ RowS (M' 1) 238 258 (if x ∈ L then L else L ++ [x]) ∧ (∀ k, k ≠ 1 → M' k = M k) ∧ ∀ n, n ≠ 258 → (n < 238 ∨ 258 < n) → M' 1 n = M 1 n := by
  unfold sX7_becomesDirty
  rw [isDirty_spec h hl x]
  by_cases hm : x ∈ L
  · refine ⟨M, ?_, ?_, fun _ _ => rfl, fun _ _ _ => rfl⟩
    · rw [if_pos hm]; rfl
    · rw [if_pos hm]; exact h
  · have hl2 : L.length < 20 := hx.resolve_left hm
    rw [if_neg hm, if_neg hm]
    have hc : M 1 (Int32.toNatClampNeg 258) = nI L.length := h.1
    have e1 : (238 : Int32) + M 1 (Int32.toNatClampNeg 258) = nI (238 + L.length) := by rw [hc]; exact nI_add 238 L.length
    refine ⟨wr (wr M 1 (238 + L.length) x) 1 258 (nI (L.length + 1)), ?_, ?_, ?_, ?_⟩
    · rw [bind_s, if_pos rfl, e1, ck_nI (show 238 + L.length < 296 by omega) (by omega), nI_clamp (show 238 + L.length < 2 ^ 31 by omega)]
      show some (wr (wr M 1 (238 + L.length) x) 1 258 (wr M 1 (238 + L.length) x 1 258 + 1)) = _
      rw [wr_at M, if_neg (by omega), show M 1 258 = nI L.length from h.1, nI_1]
    · refine ⟨?_, fun i hi => ?_⟩
      · rw [wr_at, if_pos ⟨rfl, rfl⟩, List.length_append]; rfl
      · rw [List.length_append] at hi
        have hi2 : i < L.length + 1 := hi
        rw [wr_at, if_neg (by omega), wr_at]
        by_cases e : i = L.length
        · rw [if_pos ⟨rfl, by rw [e]⟩, e, getD_last]
        · rw [if_neg (by omega), getD_app (by omega)]; exact h.2 i (by omega)
    · intro k hk
      funext n
      rw [wr_at, if_neg (fun q => hk q.1), wr_at, if_neg (fun q => hk q.1)]
    · intro n h1 h2
      rw [wr_at, if_neg (fun q => h1 q.2), wr_at, if_neg (fun q => by have := q.2; omega)]
theorem getD_erase {L : List Int32} {k i : Nat} : (L.eraseIdx k).getD i 0 = if i < k then L.getD i 0 else L.getD (i + 1) 0 := by
  rw [List.getD_eq_getElem?_getD, List.getElem?_eraseIdx, List.getD_eq_getElem?_getD, List.getD_eq_getElem?_getD]
  by_cases h : i < k
  · rw [if_pos h, if_pos h]
  · rw [if_neg h, if_neg h]
/-- one place of a row goes: base .. base + |L| - 1, the count elsewhere -/
theorem leaves_spec {M : IA} {base cnt : Nat} {L : List Int32} (h : RowS (M 1) base cnt L) (hb : base + L.length ≤ 296) (hc : cnt < 296) (hout : cnt < base ∨ base + L.length ≤ cnt) {k : Nat} (hk : k < L.length) : ∃ M', sX7_leaves M (nI base) (nI cnt) (nI k) = some M' ∧ RowS (M' 1) base cnt (L.eraseIdx k) ∧ (∀ j, j ≠ 1 → M' j = M j) ∧ ∀ n, n ≠ cnt → (n < base ∨ base + L.length ≤ n) → M' 1 n = M 1 n := by
  have hlen : (L.eraseIdx k).length = L.length - 1 := by rw [List.length_eraseIdx, if_pos hk]
  have key : ∃ b : IA, loopN (sX7_leaves_L13 (nI base) (nI cnt)) 2000 (nI k, wr M 1 cnt (nI (L.length - 1))) = some b ∧ (b 1 cnt = nI (L.length - 1) ∧ (∀ j, j < L.length - 1 → b 1 (base + j) = (L.eraseIdx k).getD j 0) ∧ (∀ j, j ≠ 1 → b j = M j) ∧ ∀ n, n ≠ cnt → (n < base ∨ base + L.length ≤ n) → b 1 n = M 1 n) := by
    refine loop_inv (L.length - 1) (fun i (a : Int32 × IA) => k ≤ i ∧ ∃ B : IA, a = (nI i, B) ∧ B 1 cnt = nI (L.length - 1) ∧ (∀ j, j < i → B 1 (base + j) = (L.eraseIdx k).getD j 0) ∧ (∀ j, i ≤ j → j < L.length → B 1 (base + j) = L.getD j 0) ∧ (∀ j, j ≠ 1 → B j = M j) ∧ ∀ n, n ≠ cnt → (n < base ∨ base + L.length ≤ n) → B 1 n = M 1 n) (fun b : IA => b 1 cnt = nI (L.length - 1) ∧ (∀ j, j < L.length - 1 → b 1 (base + j) = (L.eraseIdx k).getD j 0) ∧ (∀ j, j ≠ 1 → b j = M j) ∧ ∀ n, n ≠ cnt → (n < base ∨ base + L.length ≤ n) → b 1 n = M 1 n) ?_ 2000 k _ (by omega) (by omega) ⟨Nat.le_refl k, wr M 1 cnt (nI (L.length - 1)), rfl, ?_, ?_, ?_, ?_, ?_⟩
    · rintro i a hi ⟨hki, B, rfl, h1, h2, h3, h4, h5⟩
      unfold sX7_leaves_L13
      dsimp +instances only
      rw [ck_nI hc (by omega), nI_clamp (show cnt < 2 ^ 31 by omega), h1]
      by_cases hlt : i < L.length - 1
      · left
        have e1 : nI base + nI i = nI (base + i) := nI_add base i
        have e2 : nI base + nI i + 1 = nI (base + i + 1) := by rw [e1, nI_1]
        rw [if_neg (nI_ge hlt (by omega)), e2, e1, ck_nI (show base + i + 1 < 296 by omega) (by omega), ck_nI (show base + i < 296 by omega) (by omega), nI_clamp (show base + i + 1 < 2 ^ 31 by omega), nI_clamp (show base + i < 2 ^ 31 by omega)]
        refine ⟨_, hlt, rfl, by omega, wr B 1 (base + i) (B 1 (base + i + 1)), by rw [nI_1], ?_, ?_, ?_, ?_, ?_⟩
        · rw [wr_at, if_neg (by omega), h1]
        · intro j hj
          rw [wr_at]
          by_cases e : j = i
          · rw [if_pos ⟨rfl, by rw [e]⟩, e, getD_erase, if_neg (by omega)]
            exact h3 (i + 1) (by omega) (by omega)
          · rw [if_neg (by omega)]; exact h2 j (by omega)
        · intro j hj1 hj2
          rw [wr_at, if_neg (by omega)]; exact h3 j (by omega) hj2
        · intro j hj
          funext n
          rw [wr_at, if_neg (fun q => hj q.1), h4 j hj]
        · intro n hn1 hn2
          rw [wr_at, if_neg (by omega)]; exact h5 n hn1 hn2
      · right
        have hi2 : i = L.length - 1 := by omega
        subst hi2
        rw [if_pos (nI_le (Nat.le_refl _) (by omega))]
        exact ⟨_, rfl, h1, h2, h4, h5⟩
    · rw [wr_at, if_pos ⟨rfl, rfl⟩]
    · intro j hj
      rw [wr_at, if_neg (by omega), h.2 j (by omega), getD_erase, if_pos hj]
    · intro j hj1 hj2
      rw [wr_at, if_neg (by omega), h.2 j hj2]
    · intro j hj
      funext n
      rw [wr_at, if_neg (fun q => hj q.1)]
    · intro n hn1 hn2
      rw [wr_at, if_neg (fun q => hn1 q.2)]
  obtain ⟨b, e, h1, h2, h3, h4⟩ := key
  refine ⟨b, ?_, ⟨by rw [h1, hlen], fun i hi => h2 i (by omega)⟩, h3, h4⟩
  unfold sX7_leaves
  rw [ck_nI hc (by omega), ck_nI hc (by omega), nI_clamp (show cnt < 2 ^ 31 by omega), h.1]
  show (loopN (sX7_leaves_L13 (nI base) (nI cnt)) 2000 (nI k, wr M 1 cnt (nI L.length - 1))).bind (fun q2 => some q2) = _
  rw [show nI L.length - 1 = nI (L.length - 1) from by
    obtain ⟨n, hn⟩ : ∃ n, L.length = n + 1 := ⟨L.length - 1, by omega⟩
    rw [hn]; exact nI_pred n, e]
  rfl
theorem drop_cons {L : List Int32} {m : Nat} (h : m < L.length) : L.drop m = L.getD m 0 :: L.drop (m + 1) := by
  rw [List.drop_eq_getElem_cons h, List.getD_eq_getElem?_getD, List.getElem?_eq_getElem h]
  rfl
theorem dropL_cons (x y : Int32) (L : List Int32) : dropL x (y :: L) = if y = x then dropL x L else y :: dropL x L := by
  unfold dropL
  by_cases h : y = x
  · rw [if_pos h, List.filter_cons_of_neg (by simp [h])]
  · rw [if_neg h, List.filter_cons_of_pos (by simp [h])]
theorem erase_mid {A B : List Int32} {y : Int32} {m : Nat} (h : A.length = m) : (A ++ y :: B).eraseIdx m = A ++ B := by
  subst h
  rw [List.eraseIdx_append_of_length_le (Nat.le_refl _), Nat.sub_self]
  rfl
theorem becomesClean_spec {M : IA} {L : List Int32} (h : RowS (M 1) 238 258 L) (hl : L.length ≤ 20) (x : Int32) : ∃ M', sX7_becomesClean M x = some M' ∧ RowS (M' 1) 238 258 (dropL x L) ∧ (∀ k, k ≠ 1 → M' k = M k) ∧ ∀ n, n ≠ 258 → (n < 238 ∨ 258 < n) → M' 1 n = M 1 n := by
  have key : ∃ b : IA, loopN (sX7_becomesClean_L11 x) 2000 (nI L.length - 1, M) = some b ∧ (RowS (b 1) 238 258 (dropL x L) ∧ (∀ k, k ≠ 1 → b k = M k) ∧ ∀ n, n ≠ 258 → (n < 238 ∨ 258 < n) → b 1 n = M 1 n) := by
    refine loop_inv L.length (fun i (a : Int32 × IA) => ∃ B : IA, a = (nI (L.length - i) - 1, B) ∧ RowS (B 1) 238 258 (L.take (L.length - i) ++ dropL x (L.drop (L.length - i))) ∧ (∀ k, k ≠ 1 → B k = M k) ∧ ∀ n, n ≠ 258 → (n < 238 ∨ 258 < n) → B 1 n = M 1 n) (fun b : IA => RowS (b 1) 238 258 (dropL x L) ∧ (∀ k, k ≠ 1 → b k = M k) ∧ ∀ n, n ≠ 258 → (n < 238 ∨ 258 < n) → b 1 n = M 1 n) ?_ 2000 0 _ (Nat.zero_le _) (by omega) ⟨M, by rw [Nat.sub_zero], ?_, fun _ _ => rfl, fun _ _ _ => rfl⟩
    · rintro i a hi ⟨B, rfl, h1, h2, h3⟩
      unfold sX7_becomesClean_L11
      dsimp +instances only
      by_cases hlt : i < L.length
      · left
        obtain ⟨m, hm⟩ : ∃ m, L.length - i = m + 1 := ⟨L.length - i - 1, by omega⟩
        have hm2 : L.length - (i + 1) = m := by omega
        have hml : m < L.length := by omega
        rw [hm] at h1 ⊢
        rw [hm2, nI_pred, if_neg (nI_pos (show m < 2 ^ 31 by omega)), show (238 : Int32) + nI m = nI (238 + m) from nI_add 238 m, ck_nI (show 238 + m < 296 by omega) (by omega), nI_clamp (show 238 + m < 2 ^ 31 by omega)]
        have hlen : (L.take m).length = m := by rw [List.length_take]; omega
        have e0 : L.take (m + 1) ++ dropL x (L.drop (m + 1)) = L.take m ++ L.getD m 0 :: dropL x (L.drop (m + 1)) := by rw [take_next hml, List.append_assoc]; rfl
        rw [e0] at h1
        have hD : (dropL x (L.drop (m + 1))).length ≤ L.length - (m + 1) := Nat.le_trans (dropL_len x _) (by rw [List.length_drop]; omega)
        have hwl : (L.take m ++ L.getD m 0 :: dropL x (L.drop (m + 1))).length ≤ 20 := by rw [List.length_append, hlen, List.length_cons]; omega
        have hmw : m < (L.take m ++ L.getD m 0 :: dropL x (L.drop (m + 1))).length := by rw [List.length_append, hlen, List.length_cons]; omega
        have hB : B 1 (238 + m) = L.getD m 0 := by
          rw [h1.2 m hmw, List.getD_eq_getElem?_getD, List.getElem?_append_right (by omega), hlen, Nat.sub_self]
          rfl
        rw [hB]
        by_cases hx : L.getD m 0 = x
        · rw [if_pos hx]
          obtain ⟨M', e, g1, g2, g3⟩ := leaves_spec h1 (by omega) (by omega) (by omega) hmw
          rw [show sX7_leaves B 238 258 (nI m) = some M' from e]
          refine ⟨_, hlt, rfl, M', by rw [Int32.sub_eq_add_neg], ?_, fun k hk => by rw [g2 k hk, h2 k hk], fun n q1 q2 => by rw [g3 n q1 (by omega), h3 n q1 q2]⟩
          rw [erase_mid hlen] at g1
          rw [drop_cons hml, dropL_cons, if_pos hx]
          exact g1
        · rw [if_neg hx]
          refine ⟨_, hlt, rfl, B, by rw [Int32.sub_eq_add_neg], ?_, h2, h3⟩
          rw [drop_cons hml, dropL_cons, if_neg hx]
          exact h1
      · right
        have hi2 : L.length - i = 0 := by omega
        rw [hi2] at h1 ⊢
        rw [if_pos (by decide)]
        exact ⟨_, rfl, h1, h2, h3⟩
    · rw [Nat.sub_zero, List.take_length, List.drop_length]
      show RowS (M 1) 238 258 (L ++ [])
      rw [List.append_nil]; exact h
  obtain ⟨b, e, hb⟩ := key
  refine ⟨b, ?_, hb⟩
  unfold sX7_becomesClean
  rw [show M 1 (Int32.toNatClampNeg 258) = nI L.length from h.1]
  show (loopN (sX7_becomesClean_L11 x) 2000 (nI L.length - 1, M)).bind (fun q2 => some q2) = _
  rw [e]
  rfl
