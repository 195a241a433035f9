/-! ===== 33 BITS; lists without doubles ===== -/
def bt (v : Int32) (i : Nat) : Bool := v.toBitVec.getLsbD i
abbrev hb (v : Int32) (i : Nat) : Prop := (v >>> (nI i &&& 31)) &&& 1 = 1
theorem and1 (x : Int32) : x &&& 1 = nI (x.toBitVec.toNat % 2) := pk_and x 1 rfl
theorem and1_1 (x : Int32) : x &&& 1 = 1 ↔ bt x 0 = true := by
  rw [and1, show (1 : Int32) = nI 1 from rfl, nI_eq (by omega) (by omega)]
  unfold bt
  rw [BitVec.getLsbD, Nat.testBit_zero, decide_eq_true_eq]
theorem and1_0 (x : Int32) : x &&& 1 = 0 ↔ ¬ (x &&& 1 = 1) := by
  rw [and1, show (1 : Int32) = nI 1 from rfl, show (0 : Int32) = nI 0 from rfl, nI_eq (by omega) (by omega), nI_eq (by omega) (by omega)]
  omega
theorem sh_amt : ∀ i, i < 32 → ((nI i &&& 31 : Int32).toBitVec.smod 32).toNat = i := by decide +kernel
theorem bt_shr (v : Int32) {i : Nat} (hi : i < 32) : bt (v >>> (nI i &&& 31)) 0 = bt v i := by
  unfold bt
  rw [Int32.toBitVec_shiftRight, BitVec.sshiftRight_eq', sh_amt i hi, BitVec.getLsbD_sshiftRight]
  simp [hi]
theorem hb_bt (v : Int32) {i : Nat} (hi : i < 32) : hb v i ↔ bt v i = true := by
  unfold hb
  rw [and1_1, bt_shr v hi]
theorem hb_val (v : Int32) {i : Nat} (hi : i < 32) : (v >>> (nI i &&& 31)) &&& 1 = if bt v i = true then 1 else 0 := by
  by_cases h : bt v i = true
  · rw [if_pos h]; exact (hb_bt v hi).mpr h
  · rw [if_neg h]; exact (and1_0 _).mpr (fun q => h ((hb_bt v hi).mp q))
theorem hasBit_eq (v : Int32) {i : Nat} (hi : i < 32) : sX6_hasBit v (nI i) = some (if bt v i = true then 1 else 0) := by
  unfold sX6_hasBit
  by_cases h : bt v i = true
  · rw [if_pos h, if_pos ((hb_bt v hi).mpr h)]
  · rw [if_neg h, if_neg (fun q => h ((hb_bt v hi).mp q))]
theorem bt_or (a b : Int32) (i : Nat) : bt (a ||| b) i = (bt a i || bt b i) := by
  unfold bt
  rw [Int32.toBitVec_or, BitVec.getLsbD_or]
theorem bt_and (a b : Int32) (i : Nat) : bt (a &&& b) i = (bt a i && bt b i) := by
  unfold bt
  rw [Int32.toBitVec_and, BitVec.getLsbD_and]
theorem bt_m1 : ∀ i, i < 32 → bt (-1) i = true := by decide +kernel
theorem bt_not (a : Int32) {i : Nat} (hi : i < 32) : bt (a ^^^ (-1)) i = !bt a i := by
  have h := bt_m1 i hi
  unfold bt at h ⊢
  rw [Int32.toBitVec_xor, BitVec.getLsbD_xor, h, Bool.xor_true]
theorem bt_0 : ∀ i, i < 32 → bt 0 i = false := by decide +kernel
theorem bt_one : ∀ c, c < 32 → ∀ i, i < 32 → bt (1 <<< (nI c &&& 31)) i = decide (i = c) := by decide +kernel
theorem bt_three : ∀ r, r < 10 → ∀ i, i < 32 → bt (3 <<< ((2 * nI r) &&& 31)) i = decide (i / 2 = r) := by decide +kernel
theorem bt_ext {a b : Int32} (h : ∀ i, i < 32 → bt a i = bt b i) : a = b := by
  apply Int32.toBitVec_inj.mp
  apply BitVec.eq_of_getLsbD_eq
  intro i hi
  exact h i hi
/-- a mask of CARDS has no bit beyond them -/
def M20 (v : Int32) : Prop := ∀ i, 20 ≤ i → i < 32 → bt v i = false
theorem M20.zero : M20 0 := fun i _ h => bt_0 i h
theorem M20.or {a b : Int32} (h : M20 a) (h2 : M20 b) : M20 (a ||| b) := fun i h3 h4 => by rw [bt_or, h i h3 h4, h2 i h3 h4]; rfl
theorem M20.and {a : Int32} (h : M20 a) (b : Int32) : M20 (a &&& b) := fun i h3 h4 => by rw [bt_and, h i h3 h4]; rfl
theorem M20.one {c : Nat} (hc : c < 20) : M20 (1 <<< (nI c &&& 31)) := fun i h3 h4 => by rw [bt_one c (by omega) i h4, decide_eq_false (by omega)]
/-! lists -/
theorem mem_dropL {x y : Int32} {L : List Int32} : y ∈ dropL x L ↔ y ∈ L ∧ y ≠ x := by
  unfold dropL
  rw [List.mem_filter, decide_eq_true_eq]
theorem dropL_nodup {x : Int32} {L : List Int32} (h : L.Nodup) : (dropL x L).Nodup := List.Pairwise.filter _ h
theorem dropL_not {x : Int32} {L : List Int32} (h : ¬ x ∈ L) : dropL x L = L := by
  induction L with
  | nil => rfl
  | cons y L ih =>
    rw [dropL_cons, if_neg (fun q => h (by rw [q]; exact List.mem_cons_self)), ih (fun q => h (List.mem_cons_of_mem _ q))]
theorem dropL_head {x : Int32} {L : List Int32} (h : (x :: L).Nodup) : dropL x (x :: L) = L := by
  rw [dropL_cons, if_pos rfl, dropL_not (List.nodup_cons.mp h).1]
theorem dropL_len1 {x : Int32} {L : List Int32} (h : L.Nodup) : L.length ≤ (dropL x L).length + 1 := by
  induction L with
  | nil => exact Nat.zero_le _
  | cons y L ih =>
    have h2 := List.nodup_cons.mp h
    rw [dropL_cons]
    by_cases e : y = x
    · rw [if_pos e, dropL_not (by rw [← e]; exact h2.1)]; exact Nat.le_refl _
    · rw [if_neg e, List.length_cons, List.length_cons]
      have := ih h2.2
      omega
theorem nodup_len (n : Nat) : ∀ L : List Int32, L.Nodup → (∀ x, x ∈ L → Rg n x) → n < 2 ^ 31 → L.length ≤ n := by
  induction n with
  | zero =>
    intro L _ h _
    cases L with
    | nil => exact Nat.le_refl _
    | cons y L =>
      obtain ⟨j, hj, _⟩ := h y List.mem_cons_self
      omega
  | succ n ih =>
    intro L hn h hb
    have h1 := ih (dropL (nI n) L) (dropL_nodup hn) (fun x hx => by
      obtain ⟨j, hj, e⟩ := h x (mem_dropL.mp hx).1
      refine ⟨j, ?_, e⟩
      by_cases e2 : j = n
      · exact absurd (by rw [e, e2]) (mem_dropL.mp hx).2
      · omega) (by omega)
    have h2 := dropL_len1 (x := nI n) hn
    omega
theorem nodup_push {L : List Int32} {x : Int32} (h : L.Nodup) (hx : ¬ x ∈ L) : (L ++ [x]).Nodup := by
  rw [List.nodup_append]
  refine ⟨h, List.pairwise_singleton _ x, fun a ha b hb' e => ?_⟩
  rw [List.mem_singleton] at hb'
  exact hx (by rw [← hb', ← e]; exact ha)
/-- room for one more -/
theorem nodup_room {n : Nat} {L : List Int32} {x : Int32} (h : L.Nodup) (hr : ∀ y, y ∈ L → Rg n y) (hx : ¬ x ∈ L) (hx2 : Rg n x) (hn : n < 2 ^ 31) : L.length < n := by
  have := nodup_len n (L ++ [x]) (nodup_push h hx) (fun y hy => by
    rw [List.mem_append, List.mem_singleton] at hy
    exact hy.elim (hr y) (fun q => by rw [q]; exact hx2)) hn
  rw [List.length_append] at this
  exact this
/-! a row written place by place -/
theorem it_wr (k : Nat) (g : Int32 → Int32) (n : Nat) (s : HS) : (it (fun i (s : HS) => ((wr s.1 k i (g (s.1 k i)), s.2) : HS)) n s).2 = s.2 ∧ ∀ a b, (it (fun i (s : HS) => ((wr s.1 k i (g (s.1 k i)), s.2) : HS)) n s).1 a b = if a = k ∧ b < n then g (s.1 k b) else s.1 a b := by
  induction n with
  | zero => exact ⟨rfl, fun a b => by rw [if_neg (by omega)]; rfl⟩
  | succ n ih =>
    refine ⟨ih.1, fun a b => ?_⟩
    show wr _ k n _ a b = _
    rw [wr_at, ih.2 k n, if_neg (show ¬ (k = k ∧ n < n) by omega), ih.2 a b]
    by_cases e : a = k ∧ b = n
    · rw [if_pos e, if_pos (by omega), e.2]
    · rw [if_neg e]
      by_cases e2 : a = k ∧ b < n
      · rw [if_pos e2, if_pos (by omega)]
      · rw [if_neg e2, if_neg (by omega)]
theorem wr_self (h : IA) (k i : Nat) : wr h k i (h k i) = h := by
  funext a b
  rw [wr_at]
  by_cases e : a = k ∧ b = i
  · rw [if_pos e, e.1, e.2]
  · rw [if_neg e]
