/-! ===== 65 more calls ===== -/
theorem c_things {A : IA} {s : HS} (h : CR A s) : sX1_thingCount A = some (sm (fun t => if s.1 4 t ≤ 0 then 0 else 1) 32) := by
  unfold sX1_thingCount
  rw [for_sum (step := sX1_thingCount_L4 A) (fun t => if s.1 4 t ≤ 0 then 0 else 1) 32 (by omega) (fun i a hi => by
      unfold sX1_thingCount_L4
      dsimp +instances only
      rw [if_neg (show ¬ (32 : Int32) ≤ nI i from nI_ge (b := 32) hi (by omega)), c_there h hi, bind_s, ite01, nI_1]
      by_cases h1 : s.1 4 i ≤ 0
      · rw [if_pos h1, if_pos h1, Int32.add_zero]
      · rw [if_neg h1, if_neg h1]) (fun a => by
      unfold sX1_thingCount_L4
      dsimp +instances only
      rw [if_pos (show (32 : Int32) ≤ nI 32 by decide)])]
  rfl
theorem m_things {M : IA} {s : HS} (h : MR (M 1) s) : sX7_things M = some (sm (fun t => if s.1 4 t ≤ 0 then 0 else 1) 32) := by
  unfold sX7_things
  rw [for_sum (step := sX7_things_L4 M) (fun t => if s.1 4 t ≤ 0 then 0 else 1) 32 (by omega) (fun i a hi => by
      unfold sX7_things_L4
      dsimp +instances only
      rw [if_neg (show ¬ (32 : Int32) ≤ nI i from nI_ge (b := 32) hi (by omega)), m_there h hi, bind_s, ite01, nI_1, bd_eq, bd_eq]
      by_cases h1 : s.1 4 i ≤ 0
      · rw [if_pos h1, if_pos h1]
      · rw [if_neg h1, if_neg h1]) (fun a => by
      unfold sX7_things_L4
      dsimp +instances only
      rw [if_pos (show (32 : Int32) ≤ nI 32 by decide)])]
  rfl
theorem c_kinds {A : IA} {s : HS} (h : CR A s) (v : Int32) : sX1_regionsOfKind A v = some (sm (fun r => if s.1 0 r = v then 1 else 0) 10) := by
  unfold sX1_regionsOfKind
  rw [for_sum (step := sX1_regionsOfKind_L4 A v) (fun r => if s.1 0 r = v then 1 else 0) 10 (by omega) (fun i a hi => by
      unfold sX1_regionsOfKind_L4
      dsimp +instances only
      rw [if_neg (show ¬ (10 : Int32) ≤ nI i from nI_ge (b := 10) hi (by omega)), ck_nI hi (by omega), nI_clamp (by omega), h.1 0 i (w_rg hi (by omega)), nI_1]
      by_cases h1 : s.1 0 i = v
      · rw [if_pos h1, if_pos h1]
      · rw [if_neg h1, if_neg h1, Int32.add_zero]) (fun a => by
      unfold sX1_regionsOfKind_L4
      dsimp +instances only
      rw [if_pos (show (10 : Int32) ≤ nI 10 by decide)])]
  rfl
theorem m_kinds {M : IA} {s : HS} (h : MR (M 1) s) (v : Int32) : sX7_regionsOf M v = some (sm (fun r => if s.1 0 r = v then 1 else 0) 10) := by
  unfold sX7_regionsOf
  rw [for_sum (step := sX7_regionsOf_L4 M v) (fun r => if s.1 0 r = v then 1 else 0) 10 (by omega) (fun i a hi => by
      unfold sX7_regionsOf_L4
      dsimp +instances only
      rw [if_neg (show ¬ (10 : Int32) ≤ nI i from nI_ge (b := 10) hi (by omega)), m_kd h hi, bind_s, nI_1, bd_eq, bd_eq]
      by_cases h1 : s.1 0 i = v
      · rw [if_pos h1, if_pos h1]
      · rw [if_neg h1, if_neg h1]) (fun a => by
      unfold sX7_regionsOf_L4
      dsimp +instances only
      rw [if_pos (show (10 : Int32) ≤ nI 10 by decide)])]
  rfl
theorem op_count : OP_count Rl := by
  intro kf rgt yct fctc Ap Fpc Ar nxi kni HA HFc M MFc p0 h
  unfold sX6_count sX7_count
  obtain ⟨⟨s, hA, hM, hI, _, _⟩, ⟨n, k, _, _, _, ek, e5, _⟩, _⟩ := rl_open h
  have hM1 : MR ((sc M 0 0) 1) s := by rw [sc0 M 1 (by decide)]; exact hM
  rw [bd_eq, c_things hA, m_things hM1, bind_s, bind_s, c_kinds hA, m_kinds hM1, bind_s, bind_s, c_kinds hA, m_kinds hM1, bind_s, bind_s, m_dn hM1, m_gn hM1, m_mk hM1, m_pc hM1, m_ct hM1, hA.2.1.1, hA.2.2.1, hA.1 12 0 (by decide), hA.1 16 0 (by decide), hA.1 17 0 (by decide)]
  by_cases h0 : p0 = 0
  · rw [if_pos h0, if_pos h0]; exact ⟨_, _, rfl, rfl, rfl, rl_sc h⟩
  · rw [if_neg h0, if_neg h0]
    by_cases h1 : p0 = 1
    · rw [if_pos h1, if_pos h1]; exact ⟨_, _, rfl, rfl, rfl, rl_sc h⟩
    · rw [if_neg h1, if_neg h1]
      by_cases h2 : p0 = 2
      · rw [if_pos h2, if_pos h2]; exact ⟨_, _, rfl, rfl, rfl, rl_sc h⟩
      · rw [if_neg h2, if_neg h2]
        by_cases h3 : p0 = 3
        · rw [if_pos h3, if_pos h3]; exact ⟨_, _, rfl, rfl, rfl, rl_sc h⟩
        · rw [if_neg h3, if_neg h3]
          by_cases h4 : p0 = 4
          · rw [if_pos h4, if_pos h4]
            rcases hI.1.2.2.2.2.2.1 with q | q
            · rw [q.1, q.2, if_neg (by decide)]; exact ⟨_, _, rfl, rfl, rfl, rl_sc h⟩
            · rw [q.1, if_pos rfl]; exact ⟨_, _, rfl, rfl, rfl, rl_sc h⟩
          · rw [if_neg h4, if_neg h4]
            by_cases h5 : p0 = 5
            · rw [if_pos h5, if_pos h5]
              rcases hI.1.2.2.2.2.2.1 with q | q
              · rw [q.1, if_pos rfl]; exact ⟨_, _, rfl, rfl, rfl, rl_sc h⟩
              · rw [q.1, if_neg (by decide)]; exact ⟨_, _, rfl, rfl, rfl, rl_sc h⟩
            · rw [if_neg h5, if_neg h5]
              by_cases h6 : p0 = 6
              · rw [if_pos h6, if_pos h6]; exact ⟨_, _, rfl, rfl, rfl, rl_sc h⟩
              · rw [if_neg h6, if_neg h6]
                by_cases h7 : p0 = 7
                · rw [if_pos h7, if_pos h7]; exact ⟨_, _, rfl, rfl, rfl, rl_sc h⟩
                · rw [if_neg h7, if_neg h7]
                  by_cases h8 : p0 = 8
                  · rw [if_pos h8, if_pos h8]
                    refine ⟨_, _, rfl, rfl, ?_, rl_sc h⟩
                    show kni = sc M 0 0 5 0
                    rw [sc0 M 5 (by decide), e5, ek]
                  · rw [if_neg h8, if_neg h8]; exact ⟨_, _, rfl, rfl, rfl, rl_sc h⟩
theorem op_thing : OP_thing Rl := by
  intro kf rgt yct fctc Ap Fpc Ar nxi kni HA HFc M MFc p0 p1 h
  unfold sX6_thing sX7_thing
  obtain ⟨s, hA, hM, hI, _, _⟩ := (rl_open h).1
  have hM1 : MR ((sc M 0 0) 1) s := by rw [sc0 M 1 (by decide)]; exact hM
  rw [bd_eq]
  rcases in_cases p0 0 31 (by omega) (by omega) with ⟨c, d⟩ | ⟨t, h1, h2, rfl, c, d⟩
  · rw [show sX7_in p0 0 31 = some 0 from c, show sX6_within p0 0 31 = some 0 from d, bind_s, bind_s, if_pos rfl, if_pos rfl]
    exact ⟨_, _, rfl, rfl, rfl, rl_sc h⟩
  · have ht : t < 32 := by omega
    have hct : (nI t).toNatClampNeg = t := nI_clamp (by omega)
    rw [show sX7_in (nI t) 0 31 = some 1 from c, show sX6_within (nI t) 0 31 = some 1 from d, bind_s, bind_s, if_neg (show ¬ (1 : Int32) = 0 by decide), if_neg (show ¬ (1 : Int32) = 0 by decide)]
    rcases in_cases p1 0 5 (by omega) (by omega) with ⟨c, d⟩ | ⟨w, h3, h4, rfl, c, d⟩
    · rw [show sX7_in p1 0 5 = some 0 from c, show sX6_within p1 0 5 = some 0 from d, bind_s, bind_s, if_pos rfl, if_pos rfl]
      exact ⟨_, _, rfl, rfl, rfl, rl_sc h⟩
    · rw [show sX7_in (nI w) 0 5 = some 1 from c, show sX6_within (nI w) 0 5 = some 1 from d, bind_s, bind_s, if_neg (show ¬ (1 : Int32) = 0 by decide), if_neg (show ¬ (1 : Int32) = 0 by decide), c_there hA ht, m_there hM1 ht, bind_s, bind_s, ite01, ite01]
      by_cases hl : s.1 4 t ≤ 0
      · rw [if_pos hl, if_pos hl]; exact ⟨_, _, rfl, rfl, rfl, rl_sc h⟩
      · rw [if_neg hl, if_neg hl, ck_nI ht (by omega), ck_nI ht (by omega), ck_nI ht (by omega), ck_nI ht (by omega), hct, c_f0 hA ht, c_f1 hA ht, bind_s, bind_s, hA.1 4 t (w_th ht (by omega) (by omega) (by omega)), hA.1 5 t (w_th ht (by omega) (by omega) (by omega)), hA.1 6 t (w_th ht (by omega) (by omega) (by omega)), hA.1 8 t (w_th ht (by omega) (by omega) (by omega)), hA.1 12 0 (by decide), m_mk hM1]
        rcases (show w = 0 ∨ w = 1 ∨ w = 2 ∨ w = 3 ∨ w = 4 ∨ w = 5 by omega) with q | q | q | q | q | q
        · subst q
          rw [if_pos (by decide), if_neg (by decide), show sX7_ofThing (sc M 0 0) (nI t) (nI 0) = some (s.1 4 t) from m_sz hM1 ht, bind_s]
          exact ⟨_, _, rfl, rfl, rfl, rl_sc h⟩
        · subst q
          rw [if_neg (by decide), if_pos (by decide), if_neg (by decide), show sX7_ofThing (sc M 0 0) (nI t) (nI 1) = some (s.1 5 t) from m_pl hM1 ht, bind_s]
          exact ⟨_, _, rfl, rfl, rfl, rl_sc h⟩
        · subst q
          rw [if_neg (by decide), if_neg (by decide), if_pos (by decide), if_neg (by decide), show sX7_ofThing (sc M 0 0) (nI t) (nI 2) = some (s.1 6 t) from m_cl hM1 ht, bind_s]
          exact ⟨_, _, rfl, rfl, rfl, rl_sc h⟩
        · subst q
          rw [if_neg (by decide), if_neg (by decide), if_neg (by decide), if_pos (by decide), if_neg (by decide), show sX7_ofThing (sc M 0 0) (nI t) (nI 3) = some (s.1 7 (2 * t)) from m_f0 hM1 ht hl, bind_s]
          exact ⟨_, _, rfl, rfl, rfl, rl_sc h⟩
        · subst q
          rw [if_neg (by decide), if_neg (by decide), if_neg (by decide), if_neg (by decide), if_pos (by decide), if_neg (by decide), show sX7_ofThing (sc M 0 0) (nI t) (nI 4) = some (s.1 7 (2 * t + 1)) from m_f1 hM1 ht hl, bind_s]
          exact ⟨_, _, rfl, rfl, rfl, rl_sc h⟩
        · subst q
          rw [if_neg (show ¬ nI 5 = 0 by decide), if_neg (show ¬ nI 5 = 1 by decide), if_neg (show ¬ nI 5 = 2 by decide), if_neg (show ¬ nI 5 = 3 by decide), if_neg (show ¬ nI 5 = 4 by decide), if_pos (show nI 5 = 5 from rfl), show sX7_ofThing (sc M 0 0) (nI t) (nI 5) = some (s.1 8 t) from m_co hM1 ht, bind_s]
          by_cases hm : s.1 12 0 = 0
          · rw [if_pos hm, if_pos hm]; exact ⟨_, _, rfl, rfl, rfl, rl_sc h⟩
          · rw [if_neg hm, if_neg hm]; exact ⟨_, _, rfl, rfl, rfl, rl_sc h⟩
theorem m_thingsIn {M : IA} {s : HS} (h : MR (M 1) s) (r : Nat) : loopN (sX7_region_L33 (nI r) M) 2000 (0, 0) = some (sm (tif s.1 r) 32) :=
  for_sum (step := sX7_region_L33 (nI r) M) (tif s.1 r) 32 (by omega) (fun i a hi => by
      unfold sX7_region_L33 tif
      dsimp +instances only
      rw [if_neg (show ¬ (32 : Int32) ≤ nI i from nI_ge (b := 32) hi (by omega)), m_there h hi, bind_s, ite01, nI_1, bd_eq, m_pl h hi, bind_s, bd_eq]
      by_cases h1 : s.1 4 i ≤ 0
      · rw [if_pos h1, if_pos h1]
      · rw [if_neg h1, if_neg h1]
        by_cases h2 : s.1 5 i = nI r
        · rw [if_pos h2, if_pos h2]
        · rw [if_neg h2, if_neg h2]) (fun a => by
      unfold sX7_region_L33
      dsimp +instances only
      rw [if_pos (show (32 : Int32) ≤ nI 32 by decide)])
theorem op_region : OP_region Rl := by
  intro kf rgt yct fctc Ap Fpc Ar nxi kni HA HFc M MFc p0 p1 h
  unfold sX6_region sX7_region
  obtain ⟨s, hA, hM, hI, _, _⟩ := (rl_open h).1
  have hM1 : MR ((sc M 0 0) 1) s := by rw [sc0 M 1 (by decide)]; exact hM
  rw [bd_eq]
  rcases region_cases p0 with ⟨a, b⟩ | ⟨r, hr, rfl, a, b⟩
  · rw [a, b, bind_s, bind_s, if_pos rfl, if_pos rfl]
    exact ⟨_, _, rfl, rfl, rfl, rl_sc h⟩
  · have hcr : (nI r).toNatClampNeg = r := nI_clamp (by omega)
    rw [a, b, bind_s, bind_s, if_neg (show ¬ (1 : Int32) = 0 by decide), if_neg (show ¬ (1 : Int32) = 0 by decide)]
    rcases in_cases p1 0 4 (by omega) (by omega) with ⟨c, d⟩ | ⟨w, h3, h4, rfl, c, d⟩
    · rw [show sX7_in p1 0 4 = some 0 from c, show sX6_within p1 0 4 = some 0 from d, bind_s, bind_s, if_pos rfl, if_pos rfl]
      exact ⟨_, _, rfl, rfl, rfl, rl_sc h⟩
    · obtain ⟨x, hx1, hx2⟩ := bits_same (st_m20 hI.1 r hr)
      rw [show sX7_in (nI w) 0 4 = some 1 from c, show sX6_within (nI w) 0 4 = some 1 from d, bind_s, bind_s, if_neg (show ¬ (1 : Int32) = 0 by decide), if_neg (show ¬ (1 : Int32) = 0 by decide), ck_nI hr (by omega), ck_nI hr (by omega), ck_nI hr (by omega), ck_nI hr (by omega), hcr, hA.1 0 r (w_rg hr (by omega)), hA.1 1 r (w_rg hr (by omega)), hA.1 2 r (w_rg hr (by omega)), hA.1 3 r (w_rg hr (by omega)), c_thingsIn hA, bind_s, hx1, bind_s, m_thingsIn hM1, bind_s, m_mm hM1 hr, bind_s, hx2, bind_s]
      rcases (show w = 0 ∨ w = 1 ∨ w = 2 ∨ w = 3 ∨ w = 4 by omega) with q | q | q | q | q
      · subst q
        rw [if_pos (by decide), if_neg (by decide), if_neg (by decide), show sX7_ofRegion (sc M 0 0) (nI r) (nI 0) = some (s.1 0 r) from m_kd hM1 hr, bind_s]
        exact ⟨_, _, rfl, rfl, rfl, rl_sc h⟩
      · subst q
        rw [if_neg (by decide), if_pos (by decide), if_neg (by decide), if_neg (by decide), show sX7_ofRegion (sc M 0 0) (nI r) (nI 1) = some (s.1 1 r) from m_tp hM1 hr, bind_s]
        exact ⟨_, _, rfl, rfl, rfl, rl_sc h⟩
      · subst q
        rw [if_neg (by decide), if_neg (by decide), if_pos (by decide), if_neg (by decide), if_neg (by decide), show sX7_ofRegion (sc M 0 0) (nI r) (nI 2) = some (s.1 2 r) from m_lv hM1 hr, bind_s]
        exact ⟨_, _, rfl, rfl, rfl, rl_sc h⟩
      · subst q
        rw [if_neg (by decide), if_neg (by decide), if_neg (by decide), if_pos (by decide), if_pos (by decide)]
        exact ⟨_, _, rfl, rfl, rfl, rl_sc h⟩
      · subst q
        rw [if_neg (by decide), if_neg (by decide), if_neg (by decide), if_neg (by decide), if_neg (by decide), if_pos (by decide)]
        exact ⟨_, _, rfl, rfl, rfl, rl_sc h⟩
theorem rl_MF {x : (Nat → Int32) × Int32 × Int32 × UInt32 × IA × FA × IA × Int32 × Int32 × (Nat → IA) × (Nat → FA)} {M : IA} {MF MF' : FA} (h : Rl x M MF) (h2 : MF' 2 = MF 2) (h4 : MF' 4 = MF 4) (h7 : MF' 7 = MF 7) : Rl x M MF' :=
  ⟨by unfold Now; rw [h2]; exact h.1, hist_same h.2.1 (fun _ _ _ => ⟨rfl, rfl⟩) rfl rfl h4, img_same h.2.2 (fun _ _ _ => ⟨rfl, rfl⟩) rfl rfl h7⟩
theorem op_chooses : OP_chooses Rl := by
  intro kf rgt yct fctc Ap Fpc Ar nxi kni HA HFc M MFc p0 h
  unfold sX6_chooses sX7_chooses
  obtain ⟨s, hA, hM, hI, h14, h15⟩ := (rl_open h).1
  have hM1 : MR ((sc M 0 0) 1) s := by rw [sc0 M 1 (by decide)]; exact hM
  rw [bd_eq]
  rcases goal_cases p0 with ⟨a, b⟩ | ⟨a, b⟩
  · rw [a, b, bind_s, bind_s, if_pos rfl, if_pos rfl]
    exact ⟨_, _, rfl, rfl, rfl, rl_sc h⟩
  · rw [a, b, bind_s, bind_s, if_neg (by decide), if_neg (by decide), c_choose hA (HFc 0) rgt yct fctc p0 (st_g8 hI.1), bind_s]
    obtain ⟨N, K, e, hc⟩ := m_choose hM1 (F := MFc) p0
    rw [e, bind_s]
    refine ⟨_, _, rfl, rfl, ?_, rl_MF (rl_M (rl_sc h) (hc.1 1 (by decide) (by decide)) (hc.1 3 (by decide) (by decide)) (hc.1 5 (by decide) (by decide)) (hc.1 6 (by decide) (by decide)) (hc.1 8 (by decide) (by decide))) (hc.2.1 2 (by decide)) (hc.2.1 4 (by decide)) (hc.2.1 7 (by decide))⟩
    show (chz s.1 (HFc 0 14 0) (HFc 0 15 0) (FP.i2f p0)).1 = N 11 0
    rw [hc.2.2.1, h14, h15]
theorem op_foretold : OP_foretold Rl := by
  intro kf rgt yct fctc Ap Fpc Ar nxi kni HA HFc M MFc p0 h
  unfold sX6_foretold sX7_foretold
  obtain ⟨s, hA, hM, hI, h14, h15⟩ := (rl_open h).1
  have hM1 : MR ((sc M 0 0) 1) s := by rw [sc0 M 1 (by decide)]; exact hM
  rw [bd_eq]
  rcases goal_cases p0 with ⟨a, b⟩ | ⟨a, b⟩
  · rw [a, b, bind_s, bind_s, if_pos rfl, if_pos rfl]
    exact ⟨_, _, rfl, rfl, rfl, rl_sc h⟩
  · rw [a, b, bind_s, bind_s, if_neg (by decide), if_neg (by decide), c_choose hA (HFc 0) rgt yct fctc p0 (st_g8 hI.1), bind_s]
    obtain ⟨N, K, e, hc⟩ := m_choose hM1 (F := MFc) p0
    rw [e, bind_s]
    refine ⟨_, _, rfl, rfl, ?_, rl_MF (rl_M (rl_sc h) (hc.1 1 (by decide) (by decide)) (hc.1 3 (by decide) (by decide)) (hc.1 5 (by decide) (by decide)) (hc.1 6 (by decide) (by decide)) (hc.1 8 (by decide) (by decide))) (hc.2.1 2 (by decide)) (hc.2.1 4 (by decide)) (hc.2.1 7 (by decide))⟩
    show FP.f2i (FP.fmul 1120403456 (chz s.1 (HFc 0 14 0) (HFc 0 15 0) (FP.i2f p0)).2) = FP.f2i (FP.fmul 1120403456 (K 12 0))
    rw [hc.2.2.2.2, h14, h15]
