/-! ===== 50b how many of all 32 bits are set; what stays is counted by its bits ===== -/
theorem pz_h1 : ∀ a, a < 256 → ∀ j, j < 2 → (a / 2 + 128 * j) &&& 85 = a / 2 &&& 85 := by decide +kernel
theorem pz_h2 : ∀ a, a < 256 → ∀ j, j < 4 → (a / 4 + 64 * j) &&& 51 = a / 4 &&& 51 := by decide +kernel
theorem pz_s1 (a N M : Nat) (ha : a < 256) : (a + 256 * N) / 2 &&& (85 + 256 * M) = (a / 2 &&& 85) + 256 * (N / 2 &&& M) := by
  have e : (a + 256 * N) / 2 = (a / 2 + 128 * (N % 2)) + 256 * (N / 2) := by omega
  have h : ((a / 2 + 128 * (N % 2)) + 256 * (N / 2)) &&& (85 + 256 * M) = ((a / 2 + 128 * (N % 2)) &&& 85) + 256 * (N / 2 &&& M) := land_split 8 (a / 2 + 128 * (N % 2)) 85 (N / 2) M (show a / 2 + 128 * (N % 2) < 256 by omega) (by decide)
  rw [e, h, pz_h1 a ha (N % 2) (by omega)]
theorem pz_s2 (a N M : Nat) (ha : a < 256) : (a + 256 * N) &&& (51 + 256 * M) = (a &&& 51) + 256 * (N &&& M) := land_split 8 a 51 N M ha (by decide)
theorem pz_s4 (a N M : Nat) (ha : a < 256) : (a + 256 * N) / 4 &&& (51 + 256 * M) = (a / 4 &&& 51) + 256 * (N / 4 &&& M) := by
  have e : (a + 256 * N) / 4 = (a / 4 + 64 * (N % 4)) + 256 * (N / 4) := by omega
  have h : ((a / 4 + 64 * (N % 4)) + 256 * (N / 4)) &&& (51 + 256 * M) = ((a / 4 + 64 * (N % 4)) &&& 51) + 256 * (N / 4 &&& M) := land_split 8 (a / 4 + 64 * (N % 4)) 51 (N / 4) M (show a / 4 + 64 * (N % 4) < 256 by omega) (by decide)
  rw [e, h, pz_h2 a ha (N % 4) (by omega)]
theorem pz_s3 (y N M : Nat) (hy : y < 80) (hN : N % 16 < 5) : ((y + 256 * N) + (y + 256 * N) / 16) &&& (15 + 256 * M) = ((y + y / 16) &&& 15) + 256 * ((N + N / 16) &&& M) := by
  have e : (y + 256 * N) + (y + 256 * N) / 16 = (y + y / 16 + 16 * (N % 16)) + 256 * (N + N / 16) := by omega
  have h : ((y + y / 16 + 16 * (N % 16)) + 256 * (N + N / 16)) &&& (15 + 256 * M) = ((y + y / 16 + 16 * (N % 16)) &&& 15) + 256 * ((N + N / 16) &&& M) := land_split 8 (y + y / 16 + 16 * (N % 16)) 15 (N + N / 16) M (show y + y / 16 + 16 * (N % 16) < 256 by omega) (by decide)
  have h1 : (y + y / 16 + 16 * (N % 16)) % 16 = (y + y / 16) % 16 := by omega
  rw [e, h, and_15s (y + y / 16 + 16 * (N % 16)) (by omega), and_15s (y + y / 16) (by omega), h1]
def pz_1 (a : Nat) : Nat := a - (a / 2 &&& 85)
def pz_2 (y : Nat) : Nat := (y &&& 51) + (y / 4 &&& 51)
def pz_3 (y : Nat) : Nat := (y + y / 16) &&& 15
theorem pz_b : ∀ a, a < 256 → (a / 2 &&& 85) ≤ a ∧ pz_1 a < 256 ∧ pz_2 (pz_1 a) < 80 ∧ pz_2 (pz_1 a) % 16 < 5 ∧ pz_3 (pz_2 (pz_1 a)) = pc a 8 ∧ pc a 8 < 9 := by decide +kernel
theorem pz_sub {a b c d e f g h : Nat} (h0 : e ≤ a) (h1 : f ≤ b) (h2 : g ≤ c) (h3 : h ≤ d) : (a + 256 * (b + 256 * (c + 256 * d))) - (e + 256 * (f + 256 * (g + 256 * h))) = (a - e) + 256 * ((b - f) + 256 * ((c - g) + 256 * (d - h))) := by omega
theorem pz_le {a b c d e f g h : Nat} (h0 : e ≤ a) (h1 : f ≤ b) (h2 : g ≤ c) (h3 : h ≤ d) : e + 256 * (f + 256 * (g + 256 * h)) ≤ a + 256 * (b + 256 * (c + 256 * d)) := by omega
theorem pz_add (a b c d e f g h : Nat) : (a + 256 * (b + 256 * (c + 256 * d))) + (e + 256 * (f + 256 * (g + 256 * h))) = (a + e) + 256 * ((b + f) + 256 * ((c + g) + 256 * (d + h))) := by omega
theorem pz_m16 {p : Nat} (q : Nat) (h : p % 16 < 5) : (p + 256 * q) % 16 < 5 := by omega
theorem pz_fin (a b c d : Nat) (ha : a < 9) (hb' : b < 9) (hc : c < 9) (hd : d < 9) : (a + 256 * (b + 256 * (c + 256 * d)) + (a + 256 * (b + 256 * (c + 256 * d))) / 256 + (a + 256 * (b + 256 * (c + 256 * d)) + (a + 256 * (b + 256 * (c + 256 * d))) / 256) / 65536) % 64 = a + (b + (c + d)) := by
  have e1 : (a + 256 * (b + 256 * (c + 256 * d))) / 256 = b + 256 * (c + 256 * d) := by omega
  rw [e1]
  have e2 : (a + 256 * (b + 256 * (c + 256 * d)) + (b + 256 * (c + 256 * d))) / 65536 = (c + d) + 256 * d := by omega
  rw [e2]
  omega
/-- the machine's words, over numbers below 2 ^ 32 -/
theorem bits_run32 {n n1 n2 n3 : Nat} (hn : n < 4294967296) (e1 : n - (n / 2 &&& 1431655765) = n1) (e2 : (n1 &&& 858993459) + (n1 / 4 &&& 858993459) = n2) (e3 : (n2 + n2 / 16) &&& 252645135 = n3) : sJ6_bitCount_0f7a4 (nI n) = some (nI ((n3 + n3 / 256 + (n3 + n3 / 256) / 65536) % 64)) := by
  have hn1 : n1 ≤ n := by rw [← e1]; exact Nat.sub_le _ _
  have hn2 : n2 ≤ 858993459 + 858993459 := by rw [← e2]; exact Nat.add_le_add Nat.and_le_right Nat.and_le_right
  have hn3 : n3 ≤ 252645135 := by rw [← e3]; exact Nat.and_le_right
  unfold sJ6_bitCount_0f7a4
  rw [bd_eq, pk_ushrN (by omega) 1 1 rfl, show (1431655765 : Int32) = nI 1431655765 from rfl, nI_and, Nat.pow_one, nI_sub (Nat.le_trans Nat.and_le_left (Nat.div_le_self n 2)), e1, bd_eq, show (858993459 : Int32) = nI 858993459 from rfl, nI_and, pk_ushrN (by omega) 2 2 rfl, nI_and, nI_add, show n1 / 2 ^ 2 = n1 / 4 from rfl, e2, bd_eq, pk_ushrN (by omega) 4 4 rfl, nI_add, show (252645135 : Int32) = nI 252645135 from rfl, nI_and, show n2 / 2 ^ 4 = n2 / 16 from rfl, e3, bd_eq, pk_ushrN (by omega) 8 8 rfl, nI_add, show n3 / 2 ^ 8 = n3 / 256 from rfl, bd_eq, pk_ushrN (by omega) 16 16 rfl, nI_add, show (n3 + n3 / 256) / 2 ^ 16 = (n3 + n3 / 256) / 65536 from rfl, pk_andN (by omega) 6 rfl]
theorem pc_byte (a N : Nat) (ha : a < 256) : ∀ k, pc (a + 256 * N) (k + 8) = pc a 8 + pc N k := by
  intro k
  induction k with
  | zero =>
    have t0 : (a + 256 * N) / 1 % 2 = a / 1 % 2 := by omega
    have t1 : (a + 256 * N) / 2 % 2 = a / 2 % 2 := by omega
    have t2 : (a + 256 * N) / 4 % 2 = a / 4 % 2 := by omega
    have t3 : (a + 256 * N) / 8 % 2 = a / 8 % 2 := by omega
    have t4 : (a + 256 * N) / 16 % 2 = a / 16 % 2 := by omega
    have t5 : (a + 256 * N) / 32 % 2 = a / 32 % 2 := by omega
    have t6 : (a + 256 * N) / 64 % 2 = a / 64 % 2 := by omega
    have t7 : (a + 256 * N) / 128 % 2 = a / 128 % 2 := by omega
    show 0 + (a + 256 * N) / 1 % 2 + (a + 256 * N) / 2 % 2 + (a + 256 * N) / 4 % 2 + (a + 256 * N) / 8 % 2 + (a + 256 * N) / 16 % 2 + (a + 256 * N) / 32 % 2 + (a + 256 * N) / 64 % 2 + (a + 256 * N) / 128 % 2 = (0 + a / 1 % 2 + a / 2 % 2 + a / 4 % 2 + a / 8 % 2 + a / 16 % 2 + a / 32 % 2 + a / 64 % 2 + a / 128 % 2) + 0
    rw [t0, t1, t2, t3, t4, t5, t6, t7, Nat.add_zero]
  | succ k ih =>
    have hp : (2 : Nat) ^ (k + 8) = 256 * 2 ^ k := by
      rw [Nat.pow_succ, Nat.pow_succ, Nat.pow_succ, Nat.pow_succ, Nat.pow_succ, Nat.pow_succ, Nat.pow_succ, Nat.pow_succ]
      omega
    have hq : (a + 256 * N) / 256 = N := by omega
    show pc (a + 256 * N) (k + 8) + (a + 256 * N) / 2 ^ (k + 8) % 2 = pc a 8 + (pc N k + N / 2 ^ k % 2)
    rw [ih, hp, ← Nat.div_div_eq_div_mul, hq, Nat.add_assoc]
theorem c_bits32 {n : Nat} (hn : n < 4294967296) : sJ6_bitCount_0f7a4 (nI n) = some (nI (pc n 32)) := by
  obtain ⟨a, b, c, d, ha, hb', hc, hd, e⟩ : ∃ a b c d : Nat, a < 256 ∧ b < 256 ∧ c < 256 ∧ d < 256 ∧ n = a + 256 * (b + 256 * (c + 256 * d)) :=
    ⟨n % 256, n / 256 % 256, n / 65536 % 256, n / 16777216, by omega, by omega, by omega, by omega, by omega⟩
  have hpc : pc n 32 = pc a 8 + (pc b 8 + (pc c 8 + pc d 8)) := by
    rw [e, pc_byte a _ ha 24, pc_byte b _ hb' 16, pc_byte c _ hc 8]
  obtain ⟨a1, a2, a3, a4, a5, a6⟩ := pz_b a ha
  obtain ⟨b1, b2, b3, b4, b5, b6⟩ := pz_b b hb'
  obtain ⟨c1, c2, c3, c4, c5, c6⟩ := pz_b c hc
  obtain ⟨d1, d2, d3, d4, d5, d6⟩ := pz_b d hd
  have x1 : n - (n / 2 &&& 1431655765) = pz_1 a + 256 * (pz_1 b + 256 * (pz_1 c + 256 * pz_1 d)) := by
    rw [e, show (1431655765 : Nat) = 85 + 256 * (85 + 256 * (85 + 256 * 85)) from rfl, pz_s1 a _ _ ha, pz_s1 b _ _ hb', pz_s1 c _ _ hc, pz_sub a1 b1 c1 d1]
    rfl
  have x2 : ((pz_1 a + 256 * (pz_1 b + 256 * (pz_1 c + 256 * pz_1 d))) &&& 858993459) + ((pz_1 a + 256 * (pz_1 b + 256 * (pz_1 c + 256 * pz_1 d))) / 4 &&& 858993459) = pz_2 (pz_1 a) + 256 * (pz_2 (pz_1 b) + 256 * (pz_2 (pz_1 c) + 256 * pz_2 (pz_1 d))) := by
    rw [show (858993459 : Nat) = 51 + 256 * (51 + 256 * (51 + 256 * 51)) from rfl, pz_s2 _ _ _ a2, pz_s2 _ _ _ b2, pz_s2 _ _ _ c2, pz_s4 _ _ _ a2, pz_s4 _ _ _ b2, pz_s4 _ _ _ c2, pz_add]
    rfl
  have x3 : ((pz_2 (pz_1 a) + 256 * (pz_2 (pz_1 b) + 256 * (pz_2 (pz_1 c) + 256 * pz_2 (pz_1 d)))) + (pz_2 (pz_1 a) + 256 * (pz_2 (pz_1 b) + 256 * (pz_2 (pz_1 c) + 256 * pz_2 (pz_1 d)))) / 16) &&& 252645135 = pc a 8 + 256 * (pc b 8 + 256 * (pc c 8 + 256 * pc d 8)) := by
    rw [show (252645135 : Nat) = 15 + 256 * (15 + 256 * (15 + 256 * 15)) from rfl, pz_s3 _ _ _ a3 (pz_m16 _ b4), pz_s3 _ _ _ b3 (pz_m16 _ c4), pz_s3 _ _ _ c3 d4, ← a5, ← b5, ← c5, ← d5]
    rfl
  rw [bits_run32 hn x1 x2 x3, pz_fin _ _ _ _ a6 b6 c6 d6, hpc]
/-- the bits of v below k, counted -/
def cb (v : Int32) : Nat → Nat
  | 0 => 0
  | k + 1 => cb v k + (bt v k).toNat
theorem cb_pc {n : Nat} : ∀ k, k ≤ 32 → cb (nI n) k = pc n k := by
  intro k
  induction k with
  | zero => intro _; rfl
  | succ k ih =>
    intro hk
    show cb (nI n) k + (bt (nI n) k).toNat = pc n k + n / 2 ^ k % 2
    rw [ih (by omega), bt_nI (show k < 32 by omega)]
    by_cases h1 : n / 2 ^ k % 2 = 1
    · rw [decide_eq_true h1, h1]
      rfl
    · rw [decide_eq_false h1, show n / 2 ^ k % 2 = 0 by omega]
      rfl
theorem bits32 (v : Int32) : sJ6_bitCount_0f7a4 v = some (nI (cb v 32)) := by
  obtain ⟨n, hn, rfl⟩ : ∃ n, n < 4294967296 ∧ v = nI n := by
    refine ⟨v.toBitVec.toNat, v.toBitVec.isLt, ?_⟩
    apply Int32.toBitVec_inj.mp
    show v.toBitVec = BitVec.ofNat 32 v.toBitVec.toNat
    rw [BitVec.ofNat_toNat, BitVec.setWidth_eq]
  rw [cb_pc 32 (Nat.le_refl _)]
  exact c_bits32 hn
theorem cb_0 : ∀ k, k ≤ 32 → cb 0 k = 0 := by
  intro k
  induction k with
  | zero => intro _; rfl
  | succ k ih =>
    intro hk
    show cb 0 k + (bt 0 k).toNat = 0
    rw [ih (by omega), bt_0 k (by omega)]
    rfl
theorem cb_or {v : Int32} {t : Nat} (ht : t < 32) (h : bt v t = false) : ∀ k, k ≤ 32 → cb (v ||| (1 <<< (nI t &&& 31))) k = cb v k + (decide (t < k)).toNat := by
  intro k
  induction k with
  | zero =>
    intro _
    rw [decide_eq_false (Nat.not_lt_zero t)]
    rfl
  | succ k ih =>
    intro hk
    show cb (v ||| (1 <<< (nI t &&& 31))) k + (bt (v ||| (1 <<< (nI t &&& 31))) k).toNat = cb v k + (bt v k).toNat + (decide (t < k + 1)).toNat
    rw [ih (by omega), bt_or, bt_one t ht k (by omega)]
    by_cases e : k = t
    · subst e
      have q1 : decide (k < k) = false := decide_eq_false (Nat.lt_irrefl k)
      have q2 : decide (k < k + 1) = true := decide_eq_true (Nat.lt_succ_self k)
      have q3 : decide (k = k) = true := decide_eq_true rfl
      rw [q1, q2, q3, h, Bool.false_or]
    · have q1 : decide (k = t) = false := decide_eq_false e
      have q2 : decide (t < k + 1) = decide (t < k) := decide_eq_decide.mpr (by omega)
      rw [q1, q2, Bool.or_false]
      generalize (decide (t < k)).toNat = x
      generalize (bt v k).toNat = y
      omega
/-- as many stay as bits say -/
def Cn (z : MS) : Prop := z.2.2.2.2 = nI (cb z.2.2.1 32)
theorem cn_mv {z : MS} (h : Cn z) {t : Nat} (ht : t < 32) (hb' : bt z.2.2.1 t = false) : Cn (mv t z) := by
  have h1 : z.2.2.2.2 = nI (cb z.2.2.1 32) := h
  unfold mv
  by_cases hc : z.2.1 = -9 ∨ 8 < z.1.1 1 z.2.1.toNatClampNeg + z.1.1 4 t
  · rw [if_pos hc]
    by_cases h9 : lf z.1.1 = -9
    · rw [if_pos h9]
      show z.2.2.2.2 + (1 : Int32) = nI (cb (z.2.2.1 ||| (1 <<< (nI t &&& 31))) 32)
      rw [cb_or ht hb' 32 (Nat.le_refl _), h1, decide_eq_true ht]
      exact nI_add _ 1
    · rw [if_neg h9]
      exact h1
  · rw [if_neg hc]
    exact h1
theorem cn_mvl {s : HS} (hS : St s) {m : Int32} (hm : Chm s.1 m) : ∀ (n i : Nat) (z : MS) (X : List Int32), MI s m z X i → Cn z → Cn (mvl s.1 m n i (z, X)).1 := by
  intro n
  induction n with
  | zero => intro i z X h hc; exact hc
  | succ n ih =>
    intro i z X h hc
    unfold mvl
    by_cases hi : i < X.length
    · rw [if_pos hi]
      obtain ⟨t, ht, et, ec⟩ := fx_item h.2.2.1.1 hi
      show Cn (mvl s.1 m n (i + 1) (mv (X.getD i 0).toNatClampNeg z, ff s.1 m (X.getD i 0).toNatClampNeg X)).1
      rw [ec]
      have hnot : ¬ nI t ∈ X.take i := fun w => by
        have hn := h.2.2.1.1.2
        rw [← List.take_append_drop i X, List.nodup_append] at hn
        exact hn.2.2 (nI t) w (nI t) (by rw [drop_cons hi, et]; exact List.mem_cons_self) rfl
      exact ih (i + 1) _ _ (mi_mv hS hm h hi ht et) (cn_mv hc ht (Bool.eq_false_iff.mpr (fun w => hnot (h.2.2.2.2.2.2.2.1 t ht w))))
    · rw [if_neg hi]
      exact hc
theorem cn_0 (s : HS) (v : Int32) : Cn (s, v, 0, 0, 0) := by
  show (0 : Int32) = nI (cb 0 32)
  rw [cb_0 32 (Nat.le_refl _)]
  rfl
