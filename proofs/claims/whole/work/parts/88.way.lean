/-! ===== 88 way ===== -/
theorem op_way : OP_way Rl := by
  intro kf rgt yct fctc Ap Fpc Ar nxi kni HA HFc M MFc p0 p1 h
  unfold sX6_way sX7_way
  obtain ⟨s, hA, hM, hInv, _, _⟩ := (rl_open h).1
  have hM1 : MR ((sc M 0 0) 1) s := by rw [sc0 M 1 (by decide)]; exact hM
  rw [bd_eq]
  rcases in_cases p0 0 31 (by omega) (by omega) with ⟨c, d⟩ | ⟨t, h1, h2, rfl, c, d⟩
  · have e0 : sX7_isThing (sc M 0 0) p0 = some 0 := by
      unfold sX7_isThing
      rw [show sX7_in p0 0 31 = some 0 from c, bind_s, if_pos (show (0 : Int32) = 0 from rfl)]
    rw [e0, show sX6_within p0 0 31 = some 0 from d, bind_s, bind_s, if_pos rfl, if_pos rfl]
    exact ⟨_, _, rfl, rfl, rfl, rl_sc h⟩
  · have ht : t < 32 := by omega
    have hct : (nI t).toNatClampNeg = t := nI_clamp (by omega)
    rw [show sX6_within (nI t) 0 31 = some 1 from d, bind_s, if_neg (show ¬ (1 : Int32) = 0 by decide), c_there hA ht, m_there hM1 ht, bind_s, bind_s, ite01, ite01]
    by_cases hl : s.1 4 t ≤ 0
    · rw [if_pos hl, if_pos hl]
      exact ⟨_, _, rfl, rfl, rfl, rl_sc h⟩
    · rw [if_neg hl, if_neg hl]
      by_cases hp : (-1 : Int32) ≤ p1
      · rw [if_pos hp, if_pos hp]
        obtain ⟨B, eB, fB⟩ := c_measure hA hInv ht Ar
        obtain ⟨N, eN, fN, faN⟩ := m_far hM1 hInv
        have hN : MR (N 1) s := by rw [fN 1 (by decide)]; exact hM1
        have hR : Rl (kf, rgt, yct, fctc, Ap, Fpc, B, nxi, kni, HA, HFc) N MFc := rl_M (x := (kf, rgt, yct, fctc, Ap, Fpc, B, nxi, kni, HA, HFc)) (rl_sc (x := (kf, rgt, yct, fctc, Ap, Fpc, B, nxi, kni, HA, HFc)) h) (fN 1 (by decide)) (fN 3 (by decide)) (fN 5 (by decide)) (fN 6 (by decide)) (fN 8 (by decide))
        obtain ⟨b, eb, nb⟩ := c_nearest hA hInv fB
        rw [eB, eN, bind_s, bind_s, eb, bind_s, ck_nI ht (by omega), hct]
        rcases nb with ⟨rfl, no⟩ | ⟨u, j, hu, rfl, lu, ⟨r, hr, er⟩, mn⟩
        · have z : N 24 t = 0 := by
            rcases faN t ht with z | ⟨j, _, _, lj⟩
            · exact z.1
            · obtain ⟨r, u, hr, hu, e, b⟩ := blev_lev (g := t) j 0 t ht lj.1 rfl
              exact absurd b (no r u (j + 0) hr hu e)
          rw [if_pos (show (-9 : Int32) = -9 from rfl), if_pos z]
          exact ⟨_, _, rfl, rfl, rfl, hR⟩
        · have l0 : lev s.1 0 u := ⟨r, hr, er⟩
          have hlu : lv s.1 u := lev_live hInv hu l0
          obtain ⟨D, hDj, hD⟩ := lev_least (lev_blev j 0 u hu l0 lu.1)
          have hjD : j = D := by
            obtain ⟨r', u', hr', hu', e', b'⟩ := blev_lev (g := t) D 0 t ht hD.1 rfl
            obtain ⟨i, hi, bi⟩ := blev_least b'
            have w := mn r' u' i hr' hu' e' bi
            omega
          subst hjD
          have hD32 := levm_lt ht hD
          have eF : N 24 t = nI (j + 1) := (fa_iff faN ht (by omega)).mpr hD
          have eB1 : B 1 u = nI (j + 1) := (far_iff fB hu hlu (by omega)).mpr lu
          rw [if_neg (show ¬ nI u = (-9 : Int32) from fun z => nI_pos (n := u) (by omega) (by rw [z]; decide)), ck_nI hu (by omega), nI_clamp (show u < 2 ^ 31 by omega), bd_eq, eB1, eF, if_neg (nI_ne0 (n := j + 1) (by omega) (by omega)), ck_nI ht (by omega), ck_nI ht (by omega)]
          by_cases hm1 : p1 = -1
          · have lt1 : (-1 : Int32) < nI (j + 1) := Int32.lt_iff_toInt_lt.mpr (by
              rw [nI_toInt (by omega), show (-1 : Int32).toInt = -1 by decide]; omega)
            subst hm1
            rw [if_pos (show (-1 : Int32) = -1 from rfl), if_pos lt1, if_neg (show ¬ (0 : Int32) ≤ -1 by decide)]
            exact ⟨_, _, rfl, rfl, rfl, hR⟩
          · have h0 : ¬ p1 < 0 := fun q => by
              have a := Int32.lt_iff_toInt_lt.mp q
              have b := Int32.le_iff_toInt_le.mp hp
              rw [show (0 : Int32).toInt = 0 by decide] at a
              rw [show (-1 : Int32).toInt = -1 by decide] at b
              exact hm1 (Int32.toInt_inj.mp (by rw [show (-1 : Int32).toInt = -1 by decide]; omega))
            obtain ⟨k, hk, rfl⟩ := nI_of h0
            rw [if_neg hm1, if_pos (show (0 : Int32) ≤ nI k from nI_pos' hk)]
            by_cases hkj : k ≤ j
            · obtain ⟨y, ey, py, hy⟩ := c_walk hA hInv fB hu hlu lu hkj
              obtain ⟨N2, e2, f2, g2, L2⟩ := m_leads hN hInv ht faN hD
              have hN2 : MR (N2 1) s := by rw [f2 1 (by decide)]; exact hN
              have faN2 : Fa s.1 33 (N2 24) := by rw [f2 24 (by decide)]; exact faN
              obtain ⟨y', ey', py'⟩ := m_walk hN2 hInv faN2 g2 L2 hD hD32 hu l0 lu (fun v hv lv' bv => by
                obtain ⟨r', hr', e'⟩ := lv'
                have w := mn r' v j hr' hv e' bv
                omega) (fun k hk => by
                obtain ⟨y, _, p, _⟩ := c_walk hA hInv fB hu hlu lu hk
                exact ⟨y, p⟩) hkj
              have w := Pth.one k y' y py' py
              subst w
              rw [if_neg (nI_ge (a := k) (b := j + 1) (by omega) (by omega)), if_pos (nI_lt (a := k) (b := j + 1) (by omega) (by omega)), ey, bind_s, e2, bind_s, ey', bind_s]
              have hR2 : Rl (kf, rgt, yct, fctc, Ap, Fpc, B, nxi, kni, HA, HFc) N2 MFc := rl_M (x := (kf, rgt, yct, fctc, Ap, Fpc, B, nxi, kni, HA, HFc)) hR (f2 1 (by decide)) (f2 3 (by decide)) (f2 5 (by decide)) (f2 6 (by decide)) (f2 8 (by decide))
              exact ⟨_, _, rfl, rfl, rfl, hR2⟩
            · rw [if_pos (nI_le (a := j + 1) (b := k) (by omega) (by omega)), if_neg (nI_nlt (a := k) (b := j + 1) (by omega) (by omega))]
              exact ⟨_, _, rfl, rfl, rfl, hR⟩
      · rw [if_neg hp, if_neg hp]
        exact ⟨_, _, rfl, rfl, rfl, rl_sc h⟩
