/-! ===== 61 a pause, both sides at once ===== -/
theorem pause_both {A M : IA} {s : HS} (hA : CR A s) (hM : MR (M 1) s) (hI : Inv s) {Fh F : FA} (h14 : Fh 14 0 = F 2 0) (h15 : Fh 15 0 = F 2 1) (goal : Int32) (Q : IA) (Fp : FA) :
    ∃ (c : Int32) (s' : HS) (Q' B : IA) (Fp' Fh' : FA) (N : IA) (F' : FA), sX3_run Q Fp A Fh goal = some (c, Q', B, Fp', Fh') ∧ sX7_pause M F goal = some (c, N, F') ∧ CR B s' ∧ MR (N 1) s' ∧ Inv s' ∧ Fh' 14 0 = F' 2 0 ∧ Fh' 15 0 = F' 2 1 ∧ (∀ k, k ≠ 1 → k ≠ 11 → k ≠ 13 → k < 14 ∨ 23 < k → N k = M k) ∧ ∀ k, k ≠ 2 → k ≠ 12 → F' k = F k := by
  obtain ⟨s1, e1⟩ : ∃ s1, rfn 20 s = s1 := ⟨_, rfl⟩
  have hI1 : Inv s1 := by rw [← e1]; exact inv_rfn 20 s hI
  have hD : s1.2.1 = [] := by rw [← e1]; exact rfn_nil 20 s hI.1.1 (nodup_len 20 _ hI.1.1.2.2.2.2.1 hI.1.1.2.2.2.1 (by omega))
  obtain ⟨⟨m, f⟩, em⟩ : ∃ x, chz s1.1 (F 2 0) (F 2 1) (FP.i2f goal) = x := ⟨_, rfl⟩
  have hm : Chm s1.1 m := by have := chz_chm s1.1 (F 2 0) (F 2 1) (FP.i2f goal); rw [em] at this; exact this
  have hy : ∀ r, r < 10 → s1.1 0 r = 1 → bt m r = true := fun r hr hk => by have := chz_young s1.1 (F 2 0) (F 2 1) (FP.i2f goal) hr hk; rw [em] at this; exact this
  obtain ⟨X0, eX⟩ : ∃ X0, scA s1.1 m (scd s1.1 m) (x1st s1 m) = X0 := ⟨_, rfl⟩
  have hx0 : FX X0 := by rw [← eX]; exact fx_scA hI1.1.1 (fx_x1 hI1.1.1 m)
  have hfl0 : FL s1.1 m X0 := by rw [← eX]; exact fl_scA hI1.1 hm (fl_x1 hI1.1 hm)
  obtain ⟨⟨z, X⟩, ez⟩ : ∃ x, mvl s1.1 m 32 0 ((s1, -9, 0, 0, 0), X0) = x := ⟨_, rfl⟩
  have hMI : MI s1 m z X X.length := by
    obtain ⟨j, h1, h2⟩ := mi_mvl hI1.1 hm 32 0 (s1, -9, 0, 0, 0) X0 rfl (Nat.zero_le _) (mi_init hI1.1 hx0 hfl0)
    rw [ez] at h1 h2
    rw [h2] at h1
    exact h1
  obtain ⟨s2, e2⟩ : ∃ s2, dC (scd s1.1 m) (dX X z.1) = s2 := ⟨_, rfl⟩
  obtain ⟨s3, e3⟩ : ∃ s3, swA m (bt z.2.2.1) s2 = s3 := ⟨_, rfl⟩
  obtain ⟨x, hx1, hx2⟩ := bits_same (m20_scd (st_m20 hI1.1) m)
  obtain ⟨w, ew⟩ : ∃ w, z.2.2.2.1 + 2 * x + 5 * z.2.2.2.2 = w := ⟨_, rfl⟩
  obtain ⟨hSL, hsz, hInv⟩ := inv_pause hI1 hD hm hy eX ez hMI e2 e3 (10 + w)
  obtain ⟨Q', B, Fp', Fh', r1, r2, r3, r4⟩ := c_run hA hI.1 e1 hI1.1 h14 h15 goal em hm eX ez hMI e2 e3 hSL hx1 ew Q Fp
  obtain ⟨N, F', q1, q2, q3, q4, q5, q6⟩ := m_pause hM hI.1 e1 hI1.1 (F := F) rfl rfl goal em hm eX ez hMI e2 e3 hsz hx2 ew
  exact ⟨10 + w, fin s3 (10 + w), Q', B, Fp', Fh', N, F', r1, q1, r2, q2, hInv, by rw [r3, q3], by rw [r4, q4], q5, q6⟩
