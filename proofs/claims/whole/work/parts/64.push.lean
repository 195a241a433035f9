/-! ===== 64 before a change both sides note the heap ===== -/
/-- both sides note: what holds behind it -/
theorem push_both {kf : Nat → Int32} {nx kn : Int32} {HA : Nat → IA} {HF : Nat → FA} {M : IA} {MF : FA} (hN : Now HA HF M MF) (hH : Hist nx kn HA HF M MF) (hI : Img kf HA HF M MF) (M1 : IA) (hM1 : ∀ k, k ≠ 0 → M1 k = M k) :
    ∃ nx' kn' HA' HF' N G, sX2_push nx kn HA HF = some (nx', kn', HA', HF') ∧ sX7_notes M1 MF = some (N, G) ∧ HA' 0 = HA 0 ∧ HF' 0 = HF 0 ∧ N 1 = M 1 ∧ G 2 = MF 2 ∧ Hist nx' kn' HA' HF' N G ∧ Img kf HA' HF' N G := by
  obtain ⟨n, k, a, b, rfl, rfl, e, f⟩ := hH
  obtain ⟨B, C, e1, hc⟩ := push_eq a b hN
  obtain ⟨N, G, e2, n5, nk, gk, nn, g0, g1, old⟩ := notes_eq (M := M1) (F := MF) b (by rw [hM1 5 (by decide)]; exact e)
  refine ⟨_, _, _, _, N, G, e1, e2, by rw [upH_at, if_neg (by omega)], by rw [upF_at, if_neg (by omega)], by rw [nk 1 (by decide) (by decide), hM1 1 (by decide)], gk 2 (by decide), ⟨(n + 1) % 6, min (k + 1) 6, by omega, by omega, rfl, rfl, n5, fun j hj => ?_⟩, ?_⟩
  · by_cases hlast : j = min (k + 1) 6 - 1
    · have es : ((n + 1) % 6 + 6 - min (k + 1) 6 + j) % 6 = n := by omega
      rw [es, upH_at, if_pos rfl, upF_at, if_pos rfl, hlast, g0, g1]
      exact hc.copy (fun i hi => by rw [nn i hi, hM1 1 (by decide)])
    · have ho := old j (by omega)
      have es : ((n + 1) % 6 + 6 - min (k + 1) 6 + j) % 6 = (n + 6 - k + (j + (k - 5))) % 6 := by omega
      have hne : (n + 6 - k + (j + (k - 5))) % 6 ≠ n := by omega
      rw [es, upH_at, if_neg (by omega), upF_at, if_neg (by omega), ho.2.1, ho.2.2]
      exact (f (j + (k - 5)) (by omega)).copy (fun i hi => by rw [ho.1 i hi, hM1 3 (by decide)])
  · exact img_same hI (fun q h1 h2 => ⟨by rw [upH_at, if_neg (by omega)], by rw [upF_at, if_neg (by omega)]⟩) (by rw [nk 6 (by decide) (by decide), hM1 6 (by decide)]) (by rw [nk 8 (by decide) (by decide), hM1 8 (by decide)]) (gk 7 (by decide))
theorem rl_M {x : (Nat → Int32) × Int32 × Int32 × UInt32 × IA × FA × IA × Int32 × Int32 × (Nat → IA) × (Nat → FA)} {M M' : IA} {MF : FA} (h : Rl x M MF) (h1 : M' 1 = M 1) (h3 : M' 3 = M 3) (h5 : M' 5 = M 5) (h6 : M' 6 = M 6) (h8 : M' 8 = M 8) : Rl x M' MF :=
  ⟨by unfold Now; rw [h1]; exact h.1, hist_same h.2.1 (fun _ _ _ => ⟨rfl, rfl⟩) h3 h5 rfl, img_same h.2.2 (fun _ _ _ => ⟨rfl, rfl⟩) h6 h8 rfl⟩
theorem rl_open {kf : Nat → Int32} {rgt yct : Int32} {fctc : UInt32} {Ap : IA} {Fpc : FA} {Ar : IA} {nxi kni : Int32} {HA : Nat → IA} {HFc : Nat → FA} {M : IA} {MFc : FA} (h : Rl (kf, rgt, yct, fctc, Ap, Fpc, Ar, nxi, kni, HA, HFc) M MFc) : Now HA HFc M MFc ∧ Hist nxi kni HA HFc M MFc ∧ Img kf HA HFc M MFc := h
theorem sc0 (M : IA) : ∀ k, k ≠ 0 → sc M 0 0 k = M k := fun _ hk => sc_row_ne _ _ hk
theorem rl_sc {x : (Nat → Int32) × Int32 × Int32 × UInt32 × IA × FA × IA × Int32 × Int32 × (Nat → IA) × (Nat → FA)} {M : IA} {MF : FA} (h : Rl x M MF) : Rl x (sc M 0 0) MF := rl_M h (sc0 M 1 (by decide)) (sc0 M 3 (by decide)) (sc0 M 5 (by decide)) (sc0 M 6 (by decide)) (sc0 M 8 (by decide))
/-- a number within bounds, or not -/
theorem in_cases (x : Int32) (lo hi : Nat) (hlo : lo ≤ hi) (hh : hi < 2147483648) : (sX7_in x (nI lo) (nI hi) = some 0 ∧ sX6_within x (nI lo) (nI hi) = some 0) ∨ ∃ n, lo ≤ n ∧ n ≤ hi ∧ x = nI n ∧ sX7_in x (nI lo) (nI hi) = some 1 ∧ sX6_within x (nI lo) (nI hi) = some 1 := by
  unfold sX7_in sX6_within
  by_cases h1 : x < nI lo
  · left; rw [if_pos h1]; exact ⟨rfl, rfl⟩
  · rw [if_neg h1]
    by_cases h2 : nI hi < x
    · left; rw [if_pos h2]; exact ⟨rfl, rfl⟩
    · right
      rw [if_neg h2]
      have h0 : ¬ x < 0 := fun q => by
        have a : x.toInt < 0 := Int32.lt_iff_toInt_lt.mp q
        have b : ¬ x.toInt < (nI lo).toInt := fun w => h1 (Int32.lt_iff_toInt_lt.mpr w)
        rw [nI_toInt (by omega)] at b
        omega
      obtain ⟨n, hn, rfl⟩ := nI_of h0
      rw [nI_ltI (by omega) (by omega)] at h1 h2
      exact ⟨n, by omega, by omega, rfl, rfl, rfl⟩
theorem root_cases (x : Int32) : (sX7_isRoot x = some 0 ∧ sX6_isRoot x = some 0) ∨ ∃ n, n < 6 ∧ x = nI n ∧ sX7_isRoot x = some 1 ∧ sX6_isRoot x = some 1 := by
  unfold sX7_isRoot sX6_isRoot
  rcases in_cases x 0 5 (by omega) (by omega) with ⟨a, b⟩ | ⟨n, h1, h2, e, a, b⟩
  · left
    rw [show sX7_in x 0 5 = some 0 from a, show sX6_within x 0 5 = some 0 from b]; exact ⟨rfl, rfl⟩
  · right
    rw [show sX7_in x 0 5 = some 1 from a, show sX6_within x 0 5 = some 1 from b]; exact ⟨n, by omega, e, rfl, rfl⟩
theorem region_cases (x : Int32) : (sX7_isRegion x = some 0 ∧ sX6_isRegion x = some 0) ∨ ∃ n, n < 10 ∧ x = nI n ∧ sX7_isRegion x = some 1 ∧ sX6_isRegion x = some 1 := by
  unfold sX7_isRegion sX6_isRegion
  rcases in_cases x 0 9 (by omega) (by omega) with ⟨a, b⟩ | ⟨n, h1, h2, e, a, b⟩
  · left
    rw [show sX7_in x 0 9 = some 0 from a, show sX6_within x 0 9 = some 0 from b]; exact ⟨rfl, rfl⟩
  · right
    rw [show sX7_in x 0 9 = some 1 from a, show sX6_within x 0 9 = some 1 from b]; exact ⟨n, by omega, e, rfl, rfl⟩
theorem goal_cases (x : Int32) : (sX7_isGoal x = some 0 ∧ sX6_isGoal x = some 0) ∨ (sX7_isGoal x = some 1 ∧ sX6_isGoal x = some 1) := by
  unfold sX7_isGoal sX6_isGoal
  rcases in_cases x 0 999 (by omega) (by omega) with ⟨a, b⟩ | ⟨n, h1, h2, e, a, b⟩
  · left
    rw [show sX7_in x 0 999 = some 0 from a, show sX6_within x 0 999 = some 0 from b]; exact ⟨rfl, rfl⟩
  · right
    rw [show sX7_in x 0 999 = some 1 from a, show sX6_within x 0 999 = some 1 from b]; exact ⟨rfl, rfl⟩
theorem image_cases (x : Int32) : (sX7_in x 0 1 = some 0 ∧ sX6_isImage x = some 0) ∨ ((x = 0 ∨ x = 1) ∧ sX7_in x 0 1 = some 1 ∧ sX6_isImage x = some 1) := by
  unfold sX6_isImage
  rcases in_cases x 0 1 (by omega) (by omega) with ⟨a, b⟩ | ⟨n, h1, h2, e, a, b⟩
  · left
    rw [show sX7_in x 0 1 = some 0 from a, show sX6_within x 0 1 = some 0 from b]; exact ⟨rfl, rfl⟩
  · right
    rw [show sX7_in x 0 1 = some 1 from a, show sX6_within x 0 1 = some 1 from b]
    refine ⟨?_, rfl, rfl⟩
    rcases (show n = 0 ∨ n = 1 by omega) with q | q
    · left; rw [e, q]; rfl
    · right; rw [e, q]; rfl
/-! calls that only ask -/
theorem op_root : OP_root Rl := by
  intro kf rgt yct fctc Ap Fpc Ar nxi kni HA HFc M MFc p0 h
  unfold sX6_root sX7_root
  obtain ⟨s, hA, hM, hI, _, _⟩ := (rl_open h).1
  rw [bd_eq]
  rcases root_cases p0 with ⟨a, b⟩ | ⟨n, hn, rfl, a, b⟩
  · rw [a, b, bind_s, bind_s, if_pos rfl, if_pos rfl]
    exact ⟨_, _, rfl, rfl, rfl, rl_sc h⟩
  · rw [a, b, bind_s, bind_s, if_neg (by decide), if_neg (by decide), ck_nI hn (by omega), nI_clamp (by omega), show (192 : Int32) + nI n = nI (192 + n) from nI_add 192 n, ck_nI (by omega) (by omega), nI_clamp (by omega)]
    refine ⟨_, _, rfl, rfl, ?_, rl_sc h⟩
    show HA 0 9 n = sc M 0 0 1 (192 + n)
    rw [sc0 M 1 (by decide), m_root hM hn]
    exact hA.1 9 n (w_rt hn)
theorem op_remembers : OP_remembers Rl := by
  intro kf rgt yct fctc Ap Fpc Ar nxi kni HA HFc M MFc p0 p1 h
  unfold sX6_remembers sX7_remembers
  obtain ⟨s, hA, hM, hI, _, _⟩ := (rl_open h).1
  have hM1 : MR ((sc M 0 0) 1) s := by rw [sc0 M 1 (by decide)]; exact hM
  rw [bd_eq]
  rcases region_cases p0 with ⟨a, b⟩ | ⟨n, hn, rfl, a, b⟩
  · rw [a, b, bind_s, bind_s, if_pos rfl, if_pos rfl]
    exact ⟨_, _, rfl, rfl, rfl, rl_sc h⟩
  · rw [a, b, bind_s, bind_s, if_neg (by decide), if_neg (by decide)]
    rcases in_cases p1 0 19 (by omega) (by omega) with ⟨c, d⟩ | ⟨k, h1, h2, rfl, c, d⟩
    · rw [show sX7_in p1 0 19 = some 0 from c, show sX6_within p1 0 19 = some 0 from d, bind_s, bind_s, if_pos rfl, if_pos rfl]
      exact ⟨_, _, rfl, rfl, rfl, rl_sc h⟩
    · rw [show sX7_in (nI k) 0 19 = some 1 from c, show sX6_within (nI k) 0 19 = some 1 from d, bind_s, bind_s, if_neg (by decide), if_neg (by decide), ck_nI hn (by omega), nI_clamp (by omega), m_mm hM1 hn, bind_s, hA.1 3 n (w_rg hn (by omega)), hasBit_eq _ (show k < 32 by omega), bind_s, ite10, hb_val _ (show k < 32 by omega)]
      by_cases hb' : bt (s.1 3 n) k = true
      · rw [if_pos hb', if_pos hb']; exact ⟨_, _, rfl, rfl, rfl, rl_sc h⟩
      · rw [if_neg hb', if_neg hb']; exact ⟨_, _, rfl, rfl, rfl, rl_sc h⟩
theorem op_dirty : OP_dirty Rl := by
  intro kf rgt yct fctc Ap Fpc Ar nxi kni HA HFc M MFc p0 h
  unfold sX6_dirty sX7_dirty
  obtain ⟨s, hA, hM, hI, _, _⟩ := (rl_open h).1
  have hM1 : MR ((sc M 0 0) 1) s := by rw [sc0 M 1 (by decide)]; exact hM
  have hl := hM.2.1.2
  rw [bd_eq]
  by_cases h0 : 0 ≤ p0
  · rw [if_pos h0, if_pos h0, m_dn hM1]
    obtain ⟨n, hn, rfl⟩ := nI_of (x := p0) (fun q => le_of.mp h0 q)
    by_cases hlt : n < s.2.1.length
    · rw [itemAt_spec hA.2.1 hlt, bind_s, if_neg (nI_ge hlt (by omega)), show (238 : Int32) + nI n = nI (238 + n) from nI_add 238 n, ck_nI (by omega) (by omega), nI_clamp (by omega), hM1.2.1.1.2 n hlt]
      exact ⟨_, _, rfl, rfl, rfl, rl_sc h⟩
    · rw [itemAt_none hA.2.1 (Or.inr (nI_le (by omega) (by omega))), bind_s, if_pos (nI_le (by omega) (by omega))]
      exact ⟨_, _, rfl, rfl, rfl, rl_sc h⟩
  · rw [if_neg h0, if_neg h0]
    exact ⟨_, _, rfl, rfl, rfl, rl_sc h⟩
theorem op_grey : OP_grey Rl := by
  intro kf rgt yct fctc Ap Fpc Ar nxi kni HA HFc M MFc p0 h
  unfold sX6_grey sX7_grey
  obtain ⟨s, hA, hM, hI, _, _⟩ := (rl_open h).1
  have hM1 : MR ((sc M 0 0) 1) s := by rw [sc0 M 1 (by decide)]; exact hM
  have hl := hM.2.2.2
  rw [bd_eq]
  by_cases h0 : 0 ≤ p0
  · rw [if_pos h0, if_pos h0, m_gn hM1, m_mk hM1]
    obtain ⟨n, hn, rfl⟩ := nI_of (x := p0) (fun q => le_of.mp h0 q)
    by_cases hlt : n < s.2.2.length
    · have hmk : s.1 12 0 = 1 := (hI.1.2.2.2.2.2.1.resolve_left (fun q => by rw [q.2] at hlt; exact absurd hlt (Nat.not_lt_zero n))).1
      rw [itemAt_spec hA.2.2 hlt, bind_s, if_neg (nI_ge hlt (by omega)), if_pos hmk, show (259 : Int32) + nI n = nI (259 + n) from nI_add 259 n, ck_nI (by omega) (by omega), nI_clamp (by omega), hM1.2.2.1.2 n hlt]
      exact ⟨_, _, rfl, rfl, rfl, rl_sc h⟩
    · rw [itemAt_none hA.2.2 (Or.inr (nI_le (by omega) (by omega))), bind_s, if_pos (nI_le (by omega) (by omega))]
      exact ⟨_, _, rfl, rfl, rfl, rl_sc h⟩
  · rw [if_neg h0, if_neg h0]
    exact ⟨_, _, rfl, rfl, rfl, rl_sc h⟩
theorem op_learnt : OP_learnt Rl := by
  intro kf rgt yct fctc Ap Fpc Ar nxi kni HA HFc M MFc p0 h
  unfold sX6_learnt sX7_learnt
  obtain ⟨s, hA, hM, hI, h14, h15⟩ := (rl_open h).1
  rw [bd_eq]
  rcases in_cases p0 0 1 (by omega) (by omega) with ⟨c, d⟩ | ⟨k, h1, h2, rfl, c, d⟩
  · rw [show sX7_in p0 0 1 = some 0 from c, show sX6_within p0 0 1 = some 0 from d, bind_s, bind_s, if_pos rfl, if_pos rfl]
    exact ⟨_, _, rfl, rfl, rfl, rl_sc h⟩
  · rw [show sX7_in (nI k) 0 1 = some 1 from c, show sX6_within (nI k) 0 1 = some 1 from d, bind_s, bind_s, if_neg (show ¬ (1 : Int32) = 0 by decide), if_neg (show ¬ (1 : Int32) = 0 by decide), ck_nI (show k < 2 by omega) (by omega), nI_clamp (by omega)]
    rcases (show k = 0 ∨ k = 1 by omega) with q | q
    · subst q
      rw [if_pos (by decide)]
      refine ⟨_, _, rfl, rfl, ?_, rl_sc h⟩
      show FP.f2i (FP.fmul 1120403456 (HFc 0 14 0)) = FP.f2i (FP.fmul 1120403456 (MFc 2 0))
      rw [← h14]
    · subst q
      rw [if_neg (by decide)]
      refine ⟨_, _, rfl, rfl, ?_, rl_sc h⟩
      show FP.f2i (FP.fmul 1120403456 (HFc 0 15 0)) = FP.f2i (FP.fmul 1120403456 (MFc 2 1))
      rw [← h15]
