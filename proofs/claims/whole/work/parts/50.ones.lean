/-! ===== 50 how many bits are set: two ways of counting ===== -/
theorem land_split (k a b x y : Nat) (ha : a < 2 ^ k) (hb' : b < 2 ^ k) : (a + 2 ^ k * x) &&& (b + 2 ^ k * y) = (a &&& b) + 2 ^ k * (x &&& y) := by
  have h1 : ((a + 2 ^ k * x) &&& (b + 2 ^ k * y)) % 2 ^ k = a &&& b := by
    rw [Nat.and_mod_two_pow, Nat.add_mul_mod_self_left, Nat.add_mul_mod_self_left, Nat.mod_eq_of_lt ha, Nat.mod_eq_of_lt hb']
  have h2 : ((a + 2 ^ k * x) &&& (b + 2 ^ k * y)) / 2 ^ k = x &&& y := by
    rw [← Nat.shiftRight_eq_div_pow, Nat.shiftRight_and_distrib, Nat.shiftRight_eq_div_pow, Nat.shiftRight_eq_div_pow, Nat.add_mul_div_left _ _ (Nat.two_pow_pos k), Nat.add_mul_div_left _ _ (Nat.two_pow_pos k), Nat.div_eq_of_lt ha, Nat.div_eq_of_lt hb', Nat.zero_add, Nat.zero_add]
  have h3 := Nat.mod_add_div ((a + 2 ^ k * x) &&& (b + 2 ^ k * y)) (2 ^ k)
  rw [h1, h2] at h3
  exact h3.symm
theorem and_1s : ∀ a, a < 4 → a &&& 1 = a % 2 := by decide
theorem and_3s : ∀ a, a < 16 → a &&& 3 = a % 4 := by decide
theorem and_15s : ∀ a, a < 256 → a &&& 15 = a % 16 := by decide +kernel
theorem s55 (d N M : Nat) (hd : d < 4) : (d + 4 * N) / 2 &&& (1 + 4 * M) = d / 2 + 4 * (N / 2 &&& M) := by
  have e : (d + 4 * N) / 2 = (d / 2 + 2 * (N % 2)) + 2 ^ 2 * (N / 2) := by omega
  rw [e, show 1 + 4 * M = 1 + 2 ^ 2 * M by omega, land_split 2 _ _ _ _ (by omega) (by omega), and_1s _ (by omega)]
  omega
theorem s33 (p q N M : Nat) (hp : p < 4) (hq : q < 4) : (p + 4 * (q + 4 * N)) &&& (3 + 16 * M) = p + 16 * (N &&& M) := by
  rw [show p + 4 * (q + 4 * N) = (p + 4 * q) + 2 ^ 4 * N by omega, show 3 + 16 * M = 3 + 2 ^ 4 * M by omega, land_split 4 _ _ _ _ (by omega) (by omega), and_3s _ (by omega)]
  omega
theorem s0f (u w N M : Nat) (hu : u < 16) (hw : w < 16) : (u + 16 * (w + 16 * N)) &&& (15 + 256 * M) = u + 256 * (N &&& M) := by
  rw [show u + 16 * (w + 16 * N) = (u + 16 * w) + 2 ^ 8 * N by omega, show 15 + 256 * M = 15 + 2 ^ 8 * M by omega, land_split 8 _ _ _ _ (by omega) (by omega), and_15s _ (by omega)]
  omega
theorem zero_land (m : Nat) : 0 &&& m = 0 := Nat.zero_and m
theorem nI_and (a b : Nat) : nI a &&& nI b = nI (a &&& b) := by
  apply Int32.toBitVec_inj.mp
  rw [Int32.toBitVec_and]
  show BitVec.ofNat 32 a &&& BitVec.ofNat 32 b = BitVec.ofNat 32 (a &&& b)
  rw [BitVec.ofNat_and]
/-- the ten digits to the base 4 -/
theorem digits {n : Nat} (h : n < 1048576) : ∃ d0 d1 d2 d3 d4 d5 d6 d7 d8 d9 : Nat, d0 < 4 ∧ d1 < 4 ∧ d2 < 4 ∧ d3 < 4 ∧ d4 < 4 ∧ d5 < 4 ∧ d6 < 4 ∧ d7 < 4 ∧ d8 < 4 ∧ d9 < 4 ∧ n = d0 + 4 * (d1 + 4 * (d2 + 4 * (d3 + 4 * (d4 + 4 * (d5 + 4 * (d6 + 4 * (d7 + 4 * (d8 + 4 * (d9 + 4 * 0))))))))) :=
  ⟨n % 4, n / 4 % 4, n / 16 % 4, n / 64 % 4, n / 256 % 4, n / 1024 % 4, n / 4096 % 4, n / 16384 % 4, n / 65536 % 4, n / 262144 % 4, by omega, by omega, by omega, by omega, by omega, by omega, by omega, by omega, by omega, by omega, by omega⟩
def pc (n : Nat) : Nat → Nat
  | 0 => 0
  | k + 1 => pc n k + n / 2 ^ k % 2
theorem bt_nI {n i : Nat} (hi : i < 32) : bt (nI n) i = decide (n / 2 ^ i % 2 = 1) := by
  unfold bt
  show (BitVec.ofNat 32 n).getLsbD i = _
  rw [BitVec.getLsbD_ofNat, decide_eq_true hi, Bool.true_and, Nat.testBit_eq_decide_div_mod_eq]
theorem m_ones {n : Nat} : sX7_ones (nI n) = some (nI (pc n 20)) := by
  have key : ∃ b, loopN (sX7_ones_L4 (nI n)) 2000 (0, 0) = some b ∧ b = nI (pc n 20) := by
    refine loop_inv 20 (fun i a => a = (nI (pc n i), nI i)) (fun b => b = nI (pc n 20)) ?_ 2000 0 _ (Nat.zero_le _) (by omega) (by rw [nI_0]; rfl)
    rintro i a hi rfl
    unfold sX7_ones_L4
    dsimp +instances only
    by_cases hlt : i < 20
    · left
      have e : pc n (i + 1) = pc n i + n / 2 ^ i % 2 := rfl
      rw [if_neg (show ¬ (20 : Int32) ≤ nI i from nI_ge (b := 20) hlt (by omega)), hb_val _ (show i < 32 by omega), bt_nI (by omega), bd_eq, nI_1, e]
      by_cases h1 : n / 2 ^ i % 2 = 1
      · rw [if_pos (decide_eq_true h1), h1]
        exact ⟨_, hlt, rfl, by rw [nI_1]⟩
      · rw [if_neg (by rw [decide_eq_false h1]; decide), show n / 2 ^ i % 2 = 0 by omega, Int32.add_zero]
        exact ⟨_, hlt, rfl, rfl⟩
    · right
      have hi2 : i = 20 := by omega
      subst hi2
      rw [if_pos (by decide)]
      exact ⟨_, rfl, rfl⟩
  obtain ⟨b, e, rfl⟩ := key
  unfold sX7_ones
  rw [e]
  rfl
theorem pc_step (d N : Nat) (hd : d < 4) : ∀ k, pc (d + 4 * N) (k + 2) = (d - d / 2) + pc N k := by
  intro k
  induction k with
  | zero =>
    show 0 + (d + 4 * N) / 2 ^ 0 % 2 + (d + 4 * N) / 2 ^ 1 % 2 = (d - d / 2) + 0
    rw [Nat.pow_zero, Nat.pow_one]
    omega
  | succ k ih =>
    show pc (d + 4 * N) (k + 2) + (d + 4 * N) / 2 ^ (k + 2) % 2 = (d - d / 2) + (pc N k + N / 2 ^ k % 2)
    rw [ih, show (2 : Nat) ^ (k + 2) = 4 * 2 ^ k by rw [Nat.pow_succ, Nat.pow_succ]; omega, ← Nat.div_div_eq_div_mul, show (d + 4 * N) / 4 = N by omega]
    omega
theorem hle4 (d : Nat) {A N : Nat} (h : A ≤ N) : d / 2 + 4 * A ≤ d + 4 * N := by omega
theorem hsb4 (d : Nat) {A N : Nat} (h : A ≤ N) : d + 4 * N - (d / 2 + 4 * A) = (d - d / 2) + 4 * (N - A) := by omega
theorem had16 (p q A B : Nat) : (p + 16 * A) + (q + 16 * B) = (p + q) + 16 * (A + B) := by omega
theorem hsh16 (q w N : Nat) (hq : q < 16) (hw : w < 16) : (q + 16 * (w + 16 * N)) + (q + 16 * (w + 16 * N)) / 16 = (q + w) + 16 * ((w + 16 * N) + (w + 16 * N) / 16) := by omega
theorem hsh0 (q : Nat) (hq : q < 16) : (q + 16 * 0) + (q + 16 * 0) / 16 = q + 16 * (0 + 16 * 0) := by omega
theorem hdiv4 (p N : Nat) (hp : p < 4) : (p + 4 * N) / 4 = N := by omega
theorem hp3 {d : Nat} (h : d < 4) : d - d / 2 < 3 := by omega
theorem hp4 {d : Nat} (h : d < 4) : d - d / 2 < 4 := by omega
theorem hfin (a b c : Nat) (ha : a < 16) (hb' : b < 16) (hc : c < 16) : (a + 256 * (b + 256 * (c + 256 * 0)) + (a + 256 * (b + 256 * (c + 256 * 0))) / 256 + (a + 256 * (b + 256 * (c + 256 * 0)) + (a + 256 * (b + 256 * (c + 256 * 0))) / 256) / 65536) % 64 = a + b + c := by
  have e1 : (a + 256 * (b + 256 * (c + 256 * 0))) / 256 = b + 256 * c := by omega
  rw [e1]
  have e2 : (a + 256 * (b + 256 * (c + 256 * 0)) + (b + 256 * c)) / 65536 = c := by omega
  rw [e2]
  omega
theorem h2l {p q : Nat} (h : p < 3) (h2 : q < 3) : p + q < 5 := by omega
theorem h4l {p q : Nat} (h : p < 5) (h2 : q < 5) : p + q < 16 := by omega
theorem h5l {p : Nat} (h : p < 5) : p < 16 := by omega
theorem msk1 (d0 d1 d2 d3 d4 d5 d6 d7 d8 d9 : Nat) (h0 : d0 < 4) (h1 : d1 < 4) (h2 : d2 < 4) (h3 : d3 < 4) (h4 : d4 < 4) (h5 : d5 < 4) (h6 : d6 < 4) (h7 : d7 < 4) (h8 : d8 < 4) (h9 : d9 < 4) :
    (d0 + 4 * (d1 + 4 * (d2 + 4 * (d3 + 4 * (d4 + 4 * (d5 + 4 * (d6 + 4 * (d7 + 4 * (d8 + 4 * (d9 + 4 * 0)))))))))) / 2 &&& 1431655765 = d0 / 2 + 4 * (d1 / 2 + 4 * (d2 / 2 + 4 * (d3 / 2 + 4 * (d4 / 2 + 4 * (d5 / 2 + 4 * (d6 / 2 + 4 * (d7 / 2 + 4 * (d8 / 2 + 4 * (d9 / 2 + 4 * 0))))))))) := by
  rw [show (1431655765 : Nat) = 1 + 4 * (1 + 4 * (1 + 4 * (1 + 4 * (1 + 4 * (1 + 4 * (1 + 4 * (1 + 4 * (1 + 4 * (1 + 4 * 1365))))))))) from rfl, s55 d0 _ _ h0, s55 d1 _ _ h1, s55 d2 _ _ h2, s55 d3 _ _ h3, s55 d4 _ _ h4, s55 d5 _ _ h5, s55 d6 _ _ h6, s55 d7 _ _ h7, s55 d8 _ _ h8, s55 d9 _ _ h9, show 0 / 2 &&& 1365 = 0 from Nat.zero_and _]
theorem msk2 (p0 p1 p2 p3 p4 p5 p6 p7 p8 p9 : Nat) (h0 : p0 < 4) (h1 : p1 < 4) (h2 : p2 < 4) (h3 : p3 < 4) (h4 : p4 < 4) (h5 : p5 < 4) (h6 : p6 < 4) (h7 : p7 < 4) (h8 : p8 < 4) (h9 : p9 < 4) :
    (p0 + 4 * (p1 + 4 * (p2 + 4 * (p3 + 4 * (p4 + 4 * (p5 + 4 * (p6 + 4 * (p7 + 4 * (p8 + 4 * (p9 + 4 * 0)))))))))) &&& 858993459 = p0 + 16 * (p2 + 16 * (p4 + 16 * (p6 + 16 * (p8 + 16 * 0)))) := by
  rw [show (858993459 : Nat) = 3 + 16 * (3 + 16 * (3 + 16 * (3 + 16 * (3 + 16 * 819)))) from rfl, s33 p0 p1 _ _ h0 h1, s33 p2 p3 _ _ h2 h3, s33 p4 p5 _ _ h4 h5, s33 p6 p7 _ _ h6 h7, s33 p8 p9 _ _ h8 h9, Nat.zero_and]
theorem bits_run {n n1 n2 n3 : Nat} (hn : n < 1048576) (hle : (n / 2 &&& 1431655765) ≤ n) (e1 : n - (n / 2 &&& 1431655765) = n1) (e2 : (n1 &&& 858993459) + (n1 / 4 &&& 858993459) = n2) (e3 : (n2 + n2 / 16) &&& 252645135 = n3) : sJ6_bitCount_0f7a4 (nI n) = some (nI ((n3 + n3 / 256 + (n3 + n3 / 256) / 65536) % 64)) := by
  have hn1 : n1 ≤ n := by rw [← e1]; exact Nat.sub_le _ _
  have hn2 : n2 ≤ n1 + n1 / 4 := by rw [← e2]; exact Nat.add_le_add Nat.and_le_left Nat.and_le_left
  have hn3 : n3 ≤ n2 + n2 / 16 := by rw [← e3]; exact Nat.and_le_left
  clear hle
  unfold sJ6_bitCount_0f7a4
  rw [bd_eq, pk_ushrN (by omega) 1 1 rfl, show (1431655765 : Int32) = nI 1431655765 from rfl, nI_and, Nat.pow_one, nI_sub (Nat.le_trans Nat.and_le_left (Nat.div_le_self n 2)), e1, bd_eq, show (858993459 : Int32) = nI 858993459 from rfl, nI_and, pk_ushrN (by omega) 2 2 rfl, nI_and, nI_add, show n1 / 2 ^ 2 = n1 / 4 from rfl, e2, bd_eq, pk_ushrN (by omega) 4 4 rfl, nI_add, show (252645135 : Int32) = nI 252645135 from rfl, nI_and, show n2 / 2 ^ 4 = n2 / 16 from rfl, e3, bd_eq, pk_ushrN (by omega) 8 8 rfl, nI_add, show n3 / 2 ^ 8 = n3 / 256 from rfl, bd_eq, pk_ushrN (by omega) 16 16 rfl, nI_add, show (n3 + n3 / 256) / 2 ^ 16 = (n3 + n3 / 256) / 65536 from rfl, pk_andN (by omega) 6 rfl]
theorem c_bits {n : Nat} (hn : n < 1048576) : sJ6_bitCount_0f7a4 (nI n) = some (nI (pc n 20)) := by
  obtain ⟨d0, d1, d2, d3, d4, d5, d6, d7, d8, d9, h0, h1, h2, h3, h4, h5, h6, h7, h8, h9, e⟩ := digits hn
  have hpc : pc n 20 = (d0 - d0 / 2) + ((d1 - d1 / 2) + ((d2 - d2 / 2) + ((d3 - d3 / 2) + ((d4 - d4 / 2) + ((d5 - d5 / 2) + ((d6 - d6 / 2) + ((d7 - d7 / 2) + ((d8 - d8 / 2) + ((d9 - d9 / 2) + 0))))))))) := by
    rw [e, pc_step d0 _ h0 18, pc_step d1 _ h1 16, pc_step d2 _ h2 14, pc_step d3 _ h3 12, pc_step d4 _ h4 10, pc_step d5 _ h5 8, pc_step d6 _ h6 6, pc_step d7 _ h7 4, pc_step d8 _ h8 2, pc_step d9 _ h9 0]
    rfl
  have a1 := msk1 d0 d1 d2 d3 d4 d5 d6 d7 d8 d9 h0 h1 h2 h3 h4 h5 h6 h7 h8 h9
  rw [← e] at a1
  have l9 := hle4 d9 (Nat.le_refl 0)
  have l8 := hle4 d8 l9
  have l7 := hle4 d7 l8
  have l6 := hle4 d6 l7
  have l5 := hle4 d5 l6
  have l4 := hle4 d4 l5
  have l3 := hle4 d3 l4
  have l2 := hle4 d2 l3
  have l1 := hle4 d1 l2
  have l0 := hle4 d0 l1
  have hle : (n / 2 &&& 1431655765) ≤ n := by rw [a1, e]; exact l0
  have x1 : n - (n / 2 &&& 1431655765) = (d0 - d0 / 2) + 4 * ((d1 - d1 / 2) + 4 * ((d2 - d2 / 2) + 4 * ((d3 - d3 / 2) + 4 * ((d4 - d4 / 2) + 4 * ((d5 - d5 / 2) + 4 * ((d6 - d6 / 2) + 4 * ((d7 - d7 / 2) + 4 * ((d8 - d8 / 2) + 4 * ((d9 - d9 / 2) + 4 * (0 - 0)))))))))) := by
    rw [a1, e, hsb4 d0 l1, hsb4 d1 l2, hsb4 d2 l3, hsb4 d3 l4, hsb4 d4 l5, hsb4 d5 l6, hsb4 d6 l7, hsb4 d7 l8, hsb4 d8 l9, hsb4 d9 (Nat.le_refl 0)]
  have k0 := hp3 h0
  have k1 := hp3 h1
  have k2 := hp3 h2
  have k3 := hp3 h3
  have k4 := hp3 h4
  have k5 := hp3 h5
  have k6 := hp3 h6
  have k7 := hp3 h7
  have k8 := hp3 h8
  have k9 := hp3 h9
  have a2 := msk2 _ _ _ _ _ _ _ _ _ _ (hp4 h0) (hp4 h1) (hp4 h2) (hp4 h3) (hp4 h4) (hp4 h5) (hp4 h6) (hp4 h7) (hp4 h8) (hp4 h9)
  have a3 := msk2 _ _ _ _ _ _ _ _ _ 0 (hp4 h1) (hp4 h2) (hp4 h3) (hp4 h4) (hp4 h5) (hp4 h6) (hp4 h7) (hp4 h8) (hp4 h9) (by decide)
  generalize d0 - d0 / 2 = p0 at hpc x1 a2 a3 k0
  generalize d1 - d1 / 2 = p1 at hpc x1 a2 a3 k1
  generalize d2 - d2 / 2 = p2 at hpc x1 a2 a3 k2
  generalize d3 - d3 / 2 = p3 at hpc x1 a2 a3 k3
  generalize d4 - d4 / 2 = p4 at hpc x1 a2 a3 k4
  generalize d5 - d5 / 2 = p5 at hpc x1 a2 a3 k5
  generalize d6 - d6 / 2 = p6 at hpc x1 a2 a3 k6
  generalize d7 - d7 / 2 = p7 at hpc x1 a2 a3 k7
  generalize d8 - d8 / 2 = p8 at hpc x1 a2 a3 k8
  generalize d9 - d9 / 2 = p9 at hpc x1 a2 a3 k9
  have x2 : (p0 + 16 * (p2 + 16 * (p4 + 16 * (p6 + 16 * (p8 + 16 * 0))))) + (p1 + 16 * (p3 + 16 * (p5 + 16 * (p7 + 16 * (p9 + 16 * 0))))) = (p0 + p1) + 16 * ((p2 + p3) + 16 * ((p4 + p5) + 16 * ((p6 + p7) + 16 * ((p8 + p9) + 16 * 0)))) := by
    rw [had16, had16, had16, had16, had16]
  have r1 := bits_run hn hle x1 (n2 := (p0 + p1) + 16 * ((p2 + p3) + 16 * ((p4 + p5) + 16 * ((p6 + p7) + 16 * ((p8 + p9) + 16 * 0))))) (by
    rw [hdiv4 p0 _ (Nat.lt_of_lt_of_le k0 (by decide)), ← x2]
    exact congr (congrArg HAdd.hAdd a2) a3) (n3 := (p0 + p1 + (p2 + p3)) + 256 * ((p4 + p5 + (p6 + p7)) + 256 * ((p8 + p9) + 256 * 0))) (by
    rw [hsh16 _ _ _ (h5l (h2l k0 k1)) (h5l (h2l k2 k3)), hsh16 _ _ _ (h5l (h2l k2 k3)) (h5l (h2l k4 k5)), hsh16 _ _ _ (h5l (h2l k4 k5)) (h5l (h2l k6 k7)), hsh16 _ _ _ (h5l (h2l k6 k7)) (h5l (h2l k8 k9)), hsh0 _ (h5l (h2l k8 k9)), show (252645135 : Nat) = 15 + 256 * (15 + 256 * (15 + 256 * 15)) from rfl, s0f _ _ _ _ (h4l (h2l k0 k1) (h2l k2 k3)) (h4l (h2l k2 k3) (h2l k4 k5)), s0f _ _ _ _ (h4l (h2l k4 k5) (h2l k6 k7)) (h4l (h2l k6 k7) (h2l k8 k9)), s0f _ _ _ _ (h5l (h2l k8 k9)) (by decide), Nat.zero_and])
  rw [r1, hfin _ _ _ (h4l (h2l k0 k1) (h2l k2 k3)) (h4l (h2l k4 k5) (h2l k6 k7)) (h5l (h2l k8 k9)), hpc]
  congr 2
  simp only [Nat.add_assoc, Nat.add_zero]
theorem m20_nat {v : Int32} (h : M20 v) : ∃ n, n < 1048576 ∧ v = nI n := by
  refine ⟨v.toBitVec.toNat, ?_, ?_⟩
  · refine Nat.lt_pow_two_of_testBit (n := 20) _ (fun i hi => ?_)
    by_cases h32 : i < 32
    · exact h i hi h32
    · exact Nat.testBit_lt_two_pow (Nat.lt_of_lt_of_le v.toBitVec.isLt (Nat.pow_le_pow_right (by omega) (by omega)))
  · apply Int32.toBitVec_inj.mp
    show v.toBitVec = BitVec.ofNat 32 v.toBitVec.toNat
    rw [BitVec.ofNat_toNat, BitVec.setWidth_eq]
theorem bits_same {v : Int32} (h : M20 v) : ∃ x, sJ6_bitCount_0f7a4 v = some x ∧ sX7_ones v = some x := by
  obtain ⟨n, hn, rfl⟩ := m20_nat h
  exact ⟨_, c_bits hn, m_ones⟩
