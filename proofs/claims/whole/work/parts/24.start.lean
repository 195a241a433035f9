theorem arrT_of {ty : FieldType} {args : Array Value} {s : State} (h : (Cond.arrayClass ty).before args s = true) : ∃ cA : ClassId, ArrOfT s cA ty ∧ s.vm.findClass ("[" ++ ty.toString) = some cA := by
  obtain ⟨c, k, comp, h1, h2, h3⟩ := Cond.arrayClass_spec h
  exact ⟨c, fun n z => ⟨fun q hq => (by cases hq), k, h2, comp, h3⟩, h1⟩
theorem arrO_of {C : String} {s : State} (h : va_AO C s) : ∃ cA : ClassId, ArrOfT s cA (.object C) ∧ va_RA s cA (.object C) := by
  obtain ⟨comp, c, k, h1, h2, h3, h4, h5⟩ := Cond.arrayOver_spec h
  exact ⟨c, fun n z => ⟨fun q hq => (by cases hq), k, h3, comp, h4⟩, k, comp, h3, h4, h1, h5⟩
theorem nwl_in : ∀ w ∈ nwl, w ∈ lw_tbl := by decide +kernel
theorem lw_inst : ∀ w ∈ ([.instantiable RX0 3, .instantiable RX1 18, .instantiable RX2 3, .instantiable RX3 8, .instantiable RX4 3, .instantiable RX5 2, .instantiable RX6 8, .instantiable RX7 26, .arrayClass .int, .arrayClass .boolean, .arrayClass .float, .arrayOver (.object RX1)] : List Cond), w ∈ lw_tbl := by decide +kernel
set_option maxHeartbeats 4000000 in
set_option maxRecDepth 100000 in
/-- the tables' bundle at the law's entry -/
theorem law_known {args : Array Value} {s : State} (hts : ∀ w ∈ lw_tbl, w.before args s = true) : ∃ g : GG, KK g s ∧ va_AO RX1 s := by
  obtain ⟨c0, iS0, hKn0⟩ := u_known (C := RX0) (T := TX0) (N := 3) (n := 3) hts inX0 (hts _ (lw_inst _ (List.mem_of_getElem? (i := 0) rfl)))
  obtain ⟨c1, iS1, hKn1⟩ := u_known (C := RX1) (T := TX1) (N := 18) (n := 18) hts inX1 (hts _ (lw_inst _ (List.mem_of_getElem? (i := 1) rfl)))
  obtain ⟨c2, iS2, hKn2⟩ := u_known (C := RX2) (T := TX2) (N := 3) (n := 3) hts inX2 (hts _ (lw_inst _ (List.mem_of_getElem? (i := 2) rfl)))
  obtain ⟨c3, iS3, hKn3⟩ := u_known (C := RX3) (T := TX3) (N := 8) (n := 8) hts inX3 (hts _ (lw_inst _ (List.mem_of_getElem? (i := 3) rfl)))
  obtain ⟨c4, iS4, hKn4⟩ := u_known (C := RX4) (T := TX4) (N := 3) (n := 3) hts inX4 (hts _ (lw_inst _ (List.mem_of_getElem? (i := 4) rfl)))
  obtain ⟨c5, iS5, hKn5⟩ := u_known (C := RX5) (T := TX5) (N := 2) (n := 2) hts inX5 (hts _ (lw_inst _ (List.mem_of_getElem? (i := 5) rfl)))
  obtain ⟨c6, iS6, hKn6⟩ := u_known (C := RX6) (T := TX6) (N := 8) (n := 8) hts inX6 (hts _ (lw_inst _ (List.mem_of_getElem? (i := 6) rfl)))
  obtain ⟨c7, iS7, hKn7⟩ := u_known (C := RX7) (T := TX7) (N := 26) (n := 26) hts inX7 (hts _ (lw_inst _ (List.mem_of_getElem? (i := 7) rfl)))
  obtain ⟨cI, hI1, hI2⟩ := arrT_of (hts (.arrayClass .int) (lw_inst _ (List.mem_of_getElem? (i := 8) rfl)))
  obtain ⟨cZ, hZ1, hZ2⟩ := arrT_of (hts (.arrayClass .boolean) (lw_inst _ (List.mem_of_getElem? (i := 9) rfl)))
  obtain ⟨cF, hF1, hF2⟩ := arrT_of (hts (.arrayClass .float) (lw_inst _ (List.mem_of_getElem? (i := 10) rfl)))
  have hO : va_AO RX1 s := va_AO.of (hts (.arrayOver (.object RX1)) (lw_inst _ (List.mem_of_getElem? (i := 11) rfl)))
  obtain ⟨cO, hO1, hO2⟩ := arrO_of hO
  refine ⟨((fun k => [c0, c1, c2, c3, c4, c5, c6, c7].getD k c0, fun k => [iS0, iS1, iS2, iS3, iS4, iS5, iS6, iS7].getD k iS0), cI, cZ, cF, cO), ⟨⟨?_, ?_⟩, ?_⟩, hO⟩
  · intro k q hq
    match k, hq with
    | 0, hq => cases hq; exact hKn0
    | 1, hq => cases hq; exact hKn1
    | 2, hq => cases hq; exact hKn2
    | 3, hq => cases hq; exact hKn3
    | 4, hq => cases hq; exact hKn4
    | 5, hq => cases hq; exact hKn5
    | 6, hq => cases hq; exact hKn6
    | 7, hq => cases hq; exact hKn7
    | k + 8, hq => simp [vwCl] at hq
  · intro k q hq
    match k, hq with
    | 0, hq => cases hq; exact ⟨hI1, hI2⟩
    | 1, hq => cases hq; exact ⟨hZ1, hZ2⟩
    | 2, hq => cases hq; exact ⟨hF1, hF2⟩
    | 3, hq => cases hq; exact ⟨hO1, hO2⟩
    | k + 4, hq => simp [KT] at hq
  · intro k w hk
    obtain ⟨a, i, x, hh, e⟩ := nwl_form k w hk
    have h1 := hts w (nwl_in w (List.mem_of_getElem? hk))
    rw [e] at h1 ⊢
    exact va_Nw.of rfl h1
set_option maxHeartbeats 8000000 in
set_option maxRecDepth 100000 in
theorem whole_open {Rl : ((Nat → Int32) × Int32 × Int32 × UInt32 × IA × FA × IA × Int32 × Int32 × (Nat → IA) × (Nat → FA)) → IA → FA → Prop} (h_makes : OP_makes Rl) (h_writes : OP_writes Rl) (h_takes : OP_takes Rl) (h_sets : OP_sets Rl) (h_refines : OP_refines Rl) (h_begins : OP_begins Rl) (h_steps : OP_steps Rl) (h_pauses : OP_pauses Rl) (h_undo : OP_undo Rl) (h_root : OP_root Rl) (h_thing : OP_thing Rl) (h_region : OP_region Rl) (h_remembers : OP_remembers Rl) (h_dirty : OP_dirty Rl) (h_grey : OP_grey Rl) (h_learnt : OP_learnt Rl) (h_chooses : OP_chooses Rl) (h_foretold : OP_foretold Rl) (h_would : OP_would Rl) (h_rubbish : OP_rubbish Rl) (h_way : OP_way Rl) (h_keep : OP_keep Rl) (h_back : OP_back Rl) (h_count : OP_count Rl) (hR0 : Rl ((fun _ => 0), 0, 0, 0, (fun _ _ => 0), (fun _ _ => 0), (fun _ _ => 0), 0, 0, (fun _ => hA0), (fun _ => hF0)) mA0 mF0) {p : Program} {e : Env} {s : State} {m : MethodId} {below : List Frame} {meth : Method} {c : Code} (l : Launch) {b L : Nat} {xs : Nat → Int32} (hL : L ≤ 2048) (C0 : lw_At p s m meth c b L xs) : W p l e room_1 s m #[Value.ref b] below meth c s.heap [] 0 0 (lw_Z below #[Value.ref b] s) (entryFrame m ([Value.ref b] : List Value).toArray 4) := by
  obtain ⟨hx, hb, hr, hml, hown0, hts0, hX, hbl, hlocks, hgv⟩ := id C0
  have hts := fun w h => hts0 w (wsL_law_in w h)
  obtain ⟨g, hKK, hAO0⟩ := law_known hts0
  have hZ : ∀ q : Nat, s.heap.size ≤ q → (fun q : Nat => s.heap.size ≤ q) q := fun _ h => h
  have hbA : ¬ (fun q : Nat => s.heap.size ≤ q) b := Nat.not_le.mpr hbl
  have hown : ∀ d, (s.setDrawn d).vm.findClass RL = some m.cls := fun _ => hown0
  have hK : ∀ d, va_K g.1 vwCl (KT g) (s.setDrawn d) := fun d => (hKK.drawn d).1
  have hAO : ∀ d, va_AO RX1 (s.setDrawn d) := fun d => va_AO.moved (u := s) (U := s.setDrawn d) (Vm.Alike.refl s.vm) hAO0
  have hS : va_S (fun q : Nat => s.heap.size ≤ q) s.heap s.heap [] := va_S.rf
  have hP : va_P g.1 vwCl [] s.heap := fun k q h => by simp at h
  have hD : va_D (fun q : Nat => s.heap.size ≤ q) [] := ⟨fun i j p q h => by simp at h, fun k q h => by simp at h⟩
  have hd0 := Drawn.sameBut.refl s.drawn lw_cs
  refine W.base ?_
  obtain ⟨d, hdr, hdd⟩ : ∃ d, s.drawn.sameBut d lw_cs ∧ s.drawn = d := ⟨_, hd0, rfl⟩
  rw [hdd]
  have hl := lv_entry ([.ref b]) (n := 4) (Nat.le_of_ble_eq_true rfl)
  rw [lg_entry_eq]
  generalize (lg_sl ([.ref b]) ++ List.replicate (4 - (lg_sl ([.ref b])).length) Slot.unset).toArray = ls at hl ⊢
  have hl : lv_has ls 4 [(0, .ref b)] := hl
  refine va_new (D := g.1) (ci := 6) (fs := [.null, .null, .null, .null, .null, .null, .null, .null]) (C := RX6) (T := TX6) (N := 8) hx hb (dr_words hts d) (fun w h => List.mem_append_left _ (List.mem_append_left _ (List.mem_append_left _ (List.mem_append_left _ (List.mem_append_left _ (List.mem_append_left _ (List.mem_append_left _ (List.mem_append_left _ (List.mem_append_right _ h))))))))) tyX6 tyX6_ok (hown d) (dr_words hts d (.classLink RL 7 RX6) (List.mem_of_getElem? (i := 0) rfl)) (dr_words hts d (.instantiable RX6 8) (List.mem_of_getElem? (i := 1) rfl)) (dr_words hts d (.initialized RX6) (List.mem_of_getElem? (i := 2) rfl)) (hK d) hP hD hS hZ rfl (fun j hj => by rcases (show j = 0 ∨ j = 1 ∨ j = 2 ∨ j = 3 ∨ j = 4 ∨ j = 5 ∨ j = 6 ∨ j = 7 by omega) with rfl | rfl | rfl | rfl | rfl | rfl | rfl | rfl <;> rfl) (Nat.le_of_ble_eq_true rfl) (Nat.le_of_ble_eq_true rfl) dL_law_0 (fun qx H hP hD hS => ?_)
  have hP : va_P g.1 vwCl ([(qx, .inr (6, [.null, .null, .null, .null, .null, .null, .null, .null]))]) H := hP
  have hD : va_D (fun q : Nat => s.heap.size ≤ q) ([(qx, .inr (6, [.null, .null, .null, .null, .null, .null, .null, .null]))]) := hD
  refine lv_dup hx hb dL_law_3 rfl ?_
  refine icV (As := []) (rest := [.ref qx]) hP hD hS hZ (pF1 [] ([(qx, .inr (6, [.null, .null, .null, .null, .null, .null, .null, .null]))]) []) ⟨hx, hb, hml, hown d, dr_words hts d⟩ (hKK.drawn d) (hAO d) (cwI 0 (dr_words hts d) gL_law_X6_init rfl rfl rfl (dr_words hts d (.initialized RX6) (List.mem_of_getElem? (i := 2) rfl)) (dr_words hts d (.methodLink RL 9 yX6_init) (List.mem_of_getElem? (i := 6) rfl)) (dr_words hts d (.instanceMethod yX6_init) (List.mem_of_getElem? (i := 7) rfl)) rfl hdX6_init ⟨Nat.le_of_ble_eq_true rfl, Nat.le_of_ble_eq_true rfl⟩) (kX6_init (l := l) (g := g) (a0 := qx)) rfl hl.1 rfl (Nat.le_of_ble_eq_true rfl) dL_law_4 ⟨Nat.le_of_ble_eq_true rfl, Nat.le_of_ble_eq_true rfl⟩ (fun u H locs hpo hP hD hS => ?_)
  obtain ⟨ua, up, ur, uh, uim, upf⟩ := u
  obtain ⟨hpf, him⟩ := hpo
  have hP : va_P g.1 vwCl ((wTp g qx (ua 1) (ua 2) (ua 3) (up 0) (ur 0) (ua 4) (uh 0 0) (uh 1 0) uim (fun _ => 0) ++ (wC g (ua 3) 0 0 0 ++ (wPa g up (fun _ _ => 0) (fun _ _ => 0) ++ (wRe g ur (fun _ _ => 0) ++ (wHi g (ua 4) (ua 5) upf 0 0 ++ (wH g (uh 0) hA0 hF0 ++ (wH g (uh 1) hA0 hF0 ++ (wH g (uh 2) hA0 hF0 ++ (wH g (uh 3) hA0 hF0 ++ (wH g (uh 4) hA0 hF0 ++ (wH g (uh 5) hA0 hF0 ++ (wH g (uh 6) hA0 hF0 ++ (wH g (uh 7) hA0 hF0 ++ (wH g (uh 8) hA0 hF0 ++ (wH g (uh 9) hA0 hF0 ++ ([])))))))))))))))) ++ []) H := vaP_perm (pF1 [] (wTp g qx (ua 1) (ua 2) (ua 3) (up 0) (ur 0) (ua 4) (uh 0 0) (uh 1 0) uim (fun _ => 0) ++ (wC g (ua 3) 0 0 0 ++ (wPa g up (fun _ _ => 0) (fun _ _ => 0) ++ (wRe g ur (fun _ _ => 0) ++ (wHi g (ua 4) (ua 5) upf 0 0 ++ (wH g (uh 0) hA0 hF0 ++ (wH g (uh 1) hA0 hF0 ++ (wH g (uh 2) hA0 hF0 ++ (wH g (uh 3) hA0 hF0 ++ (wH g (uh 4) hA0 hF0 ++ (wH g (uh 5) hA0 hF0 ++ (wH g (uh 6) hA0 hF0 ++ (wH g (uh 7) hA0 hF0 ++ (wH g (uh 8) hA0 hF0 ++ (wH g (uh 9) hA0 hF0 ++ ([])))))))))))))))) []).symm hP
  have hD : va_D (fun q : Nat => s.heap.size ≤ q) ((wTp g qx (ua 1) (ua 2) (ua 3) (up 0) (ur 0) (ua 4) (uh 0 0) (uh 1 0) uim (fun _ => 0) ++ (wC g (ua 3) 0 0 0 ++ (wPa g up (fun _ _ => 0) (fun _ _ => 0) ++ (wRe g ur (fun _ _ => 0) ++ (wHi g (ua 4) (ua 5) upf 0 0 ++ (wH g (uh 0) hA0 hF0 ++ (wH g (uh 1) hA0 hF0 ++ (wH g (uh 2) hA0 hF0 ++ (wH g (uh 3) hA0 hF0 ++ (wH g (uh 4) hA0 hF0 ++ (wH g (uh 5) hA0 hF0 ++ (wH g (uh 6) hA0 hF0 ++ (wH g (uh 7) hA0 hF0 ++ (wH g (uh 8) hA0 hF0 ++ (wH g (uh 9) hA0 hF0 ++ ([])))))))))))))))) ++ []) := vaD_perm (pF1 [] (wTp g qx (ua 1) (ua 2) (ua 3) (up 0) (ur 0) (ua 4) (uh 0 0) (uh 1 0) uim (fun _ => 0) ++ (wC g (ua 3) 0 0 0 ++ (wPa g up (fun _ _ => 0) (fun _ _ => 0) ++ (wRe g ur (fun _ _ => 0) ++ (wHi g (ua 4) (ua 5) upf 0 0 ++ (wH g (uh 0) hA0 hF0 ++ (wH g (uh 1) hA0 hF0 ++ (wH g (uh 2) hA0 hF0 ++ (wH g (uh 3) hA0 hF0 ++ (wH g (uh 4) hA0 hF0 ++ (wH g (uh 5) hA0 hF0 ++ (wH g (uh 6) hA0 hF0 ++ (wH g (uh 7) hA0 hF0 ++ (wH g (uh 8) hA0 hF0 ++ (wH g (uh 9) hA0 hF0 ++ ([])))))))))))))))) []).symm hD
  refine lv_astore_n (lv' := [(1, .ref qx), (0, .ref b)]) hx hb dL_law_7 rfl hl (by decide) rfl (fun ls hl => ?_)
  refine va_new (D := g.1) (ci := 7) (fs := [.int 0, .null, .null, .null, .null, .int 0, .null, .null, .null, .null, .null, .int 0, .float 0, .int 0, .int 0, .null, .null, .null, .int 0, .int 0, .int 0, .int 0, .int 0, .int 0, .null, .null]) (C := RX7) (T := TX7) (N := 26) hx hb (dr_words hts d) (fun w h => List.mem_append_left _ (List.mem_append_left _ (List.mem_append_left _ (List.mem_append_left _ (List.mem_append_left _ (List.mem_append_left _ (List.mem_append_left _ (List.mem_append_right _ h)))))))) tyX7 tyX7_ok (hown d) (dr_words hts d (.classLink RL 10 RX7) (List.mem_of_getElem? (i := 3) rfl)) (dr_words hts d (.instantiable RX7 26) (List.mem_of_getElem? (i := 4) rfl)) (dr_words hts d (.initialized RX7) (List.mem_of_getElem? (i := 5) rfl)) (hK d) hP hD hS hZ rfl (fun j hj => by rcases (show j = 0 ∨ j = 1 ∨ j = 2 ∨ j = 3 ∨ j = 4 ∨ j = 5 ∨ j = 6 ∨ j = 7 ∨ j = 8 ∨ j = 9 ∨ j = 10 ∨ j = 11 ∨ j = 12 ∨ j = 13 ∨ j = 14 ∨ j = 15 ∨ j = 16 ∨ j = 17 ∨ j = 18 ∨ j = 19 ∨ j = 20 ∨ j = 21 ∨ j = 22 ∨ j = 23 ∨ j = 24 ∨ j = 25 by omega) with rfl | rfl | rfl | rfl | rfl | rfl | rfl | rfl | rfl | rfl | rfl | rfl | rfl | rfl | rfl | rfl | rfl | rfl | rfl | rfl | rfl | rfl | rfl | rfl | rfl | rfl <;> rfl) (Nat.le_of_ble_eq_true rfl) (Nat.le_of_ble_eq_true rfl) dL_law_8 (fun qm H hP hD hS => ?_)
  have hP : va_P g.1 vwCl ((wTp g qx (ua 1) (ua 2) (ua 3) (up 0) (ur 0) (ua 4) (uh 0 0) (uh 1 0) uim (fun _ => 0) ++ (wC g (ua 3) 0 0 0 ++ (wPa g up (fun _ _ => 0) (fun _ _ => 0) ++ (wRe g ur (fun _ _ => 0) ++ (wHi g (ua 4) (ua 5) upf 0 0 ++ (wH g (uh 0) hA0 hF0 ++ (wH g (uh 1) hA0 hF0 ++ (wH g (uh 2) hA0 hF0 ++ (wH g (uh 3) hA0 hF0 ++ (wH g (uh 4) hA0 hF0 ++ (wH g (uh 5) hA0 hF0 ++ (wH g (uh 6) hA0 hF0 ++ (wH g (uh 7) hA0 hF0 ++ (wH g (uh 8) hA0 hF0 ++ (wH g (uh 9) hA0 hF0 ++ ([])))))))))))))))) ++ ([(qm, .inr (7, [.int 0, .null, .null, .null, .null, .int 0, .null, .null, .null, .null, .null, .int 0, .float 0, .int 0, .int 0, .null, .null, .null, .int 0, .int 0, .int 0, .int 0, .int 0, .int 0, .null, .null]))] ++ [])) H := by rw [List.append_nil] at hP; exact hP
  have hD : va_D (fun q : Nat => s.heap.size ≤ q) ((wTp g qx (ua 1) (ua 2) (ua 3) (up 0) (ur 0) (ua 4) (uh 0 0) (uh 1 0) uim (fun _ => 0) ++ (wC g (ua 3) 0 0 0 ++ (wPa g up (fun _ _ => 0) (fun _ _ => 0) ++ (wRe g ur (fun _ _ => 0) ++ (wHi g (ua 4) (ua 5) upf 0 0 ++ (wH g (uh 0) hA0 hF0 ++ (wH g (uh 1) hA0 hF0 ++ (wH g (uh 2) hA0 hF0 ++ (wH g (uh 3) hA0 hF0 ++ (wH g (uh 4) hA0 hF0 ++ (wH g (uh 5) hA0 hF0 ++ (wH g (uh 6) hA0 hF0 ++ (wH g (uh 7) hA0 hF0 ++ (wH g (uh 8) hA0 hF0 ++ (wH g (uh 9) hA0 hF0 ++ ([])))))))))))))))) ++ ([(qm, .inr (7, [.int 0, .null, .null, .null, .null, .int 0, .null, .null, .null, .null, .null, .int 0, .float 0, .int 0, .int 0, .null, .null, .null, .int 0, .int 0, .int 0, .int 0, .int 0, .int 0, .null, .null]))] ++ [])) := by rw [List.append_nil] at hD; exact hD
  refine lv_dup hx hb dL_law_11 rfl ?_
  refine icV (As := []) (rest := [.ref qm]) hP hD hS hZ (pF1 (wTp g qx (ua 1) (ua 2) (ua 3) (up 0) (ur 0) (ua 4) (uh 0 0) (uh 1 0) uim (fun _ => 0) ++ (wC g (ua 3) 0 0 0 ++ (wPa g up (fun _ _ => 0) (fun _ _ => 0) ++ (wRe g ur (fun _ _ => 0) ++ (wHi g (ua 4) (ua 5) upf 0 0 ++ (wH g (uh 0) hA0 hF0 ++ (wH g (uh 1) hA0 hF0 ++ (wH g (uh 2) hA0 hF0 ++ (wH g (uh 3) hA0 hF0 ++ (wH g (uh 4) hA0 hF0 ++ (wH g (uh 5) hA0 hF0 ++ (wH g (uh 6) hA0 hF0 ++ (wH g (uh 7) hA0 hF0 ++ (wH g (uh 8) hA0 hF0 ++ (wH g (uh 9) hA0 hF0 ++ ([])))))))))))))))) ([(qm, .inr (7, [.int 0, .null, .null, .null, .null, .int 0, .null, .null, .null, .null, .null, .int 0, .float 0, .int 0, .int 0, .null, .null, .null, .int 0, .int 0, .int 0, .int 0, .int 0, .int 0, .null, .null]))]) []) ⟨hx, hb, hml, hown d, dr_words hts d⟩ (hKK.drawn d) (hAO d) (cwI 0 (dr_words hts d) gL_law_X7_init rfl rfl rfl (dr_words hts d (.initialized RX7) (List.mem_of_getElem? (i := 5) rfl)) (dr_words hts d (.methodLink RL 12 yX7_init) (List.mem_of_getElem? (i := 92) rfl)) (dr_words hts d (.instanceMethod yX7_init) (List.mem_of_getElem? (i := 93) rfl)) rfl hdX7_init ⟨Nat.le_of_ble_eq_true rfl, Nat.le_of_ble_eq_true rfl⟩) (kX7_init (l := l) (g := g) (a0 := qm)) rfl hl.1 rfl (Nat.le_of_ble_eq_true rfl) dL_law_12 ⟨Nat.le_of_ble_eq_true rfl, Nat.le_of_ble_eq_true rfl⟩ (fun um H locs hpm hP hD hS => ?_)
  have hP : va_P g.1 vwCl ((wTp g qx (ua 1) (ua 2) (ua 3) (up 0) (ur 0) (ua 4) (uh 0 0) (uh 1 0) uim (fun _ => 0) ++ (wC g (ua 3) 0 0 0 ++ (wPa g up (fun _ _ => 0) (fun _ _ => 0) ++ (wRe g ur (fun _ _ => 0) ++ (wHi g (ua 4) (ua 5) upf 0 0 ++ (wH g (uh 0) hA0 hF0 ++ (wH g (uh 1) hA0 hF0 ++ (wH g (uh 2) hA0 hF0 ++ (wH g (uh 3) hA0 hF0 ++ (wH g (uh 4) hA0 hF0 ++ (wH g (uh 5) hA0 hF0 ++ (wH g (uh 6) hA0 hF0 ++ (wH g (uh 7) hA0 hF0 ++ (wH g (uh 8) hA0 hF0 ++ (wH g (uh 9) hA0 hF0 ++ ([])))))))))))))))) ++ (wM g (adr qm um) mA0 mF0 ++ [])) H := vaP_perm (pF1 (wTp g qx (ua 1) (ua 2) (ua 3) (up 0) (ur 0) (ua 4) (uh 0 0) (uh 1 0) uim (fun _ => 0) ++ (wC g (ua 3) 0 0 0 ++ (wPa g up (fun _ _ => 0) (fun _ _ => 0) ++ (wRe g ur (fun _ _ => 0) ++ (wHi g (ua 4) (ua 5) upf 0 0 ++ (wH g (uh 0) hA0 hF0 ++ (wH g (uh 1) hA0 hF0 ++ (wH g (uh 2) hA0 hF0 ++ (wH g (uh 3) hA0 hF0 ++ (wH g (uh 4) hA0 hF0 ++ (wH g (uh 5) hA0 hF0 ++ (wH g (uh 6) hA0 hF0 ++ (wH g (uh 7) hA0 hF0 ++ (wH g (uh 8) hA0 hF0 ++ (wH g (uh 9) hA0 hF0 ++ ([])))))))))))))))) (wM g (adr qm um) mA0 mF0) []).symm hP
  have hD : va_D (fun q : Nat => s.heap.size ≤ q) ((wTp g qx (ua 1) (ua 2) (ua 3) (up 0) (ur 0) (ua 4) (uh 0 0) (uh 1 0) uim (fun _ => 0) ++ (wC g (ua 3) 0 0 0 ++ (wPa g up (fun _ _ => 0) (fun _ _ => 0) ++ (wRe g ur (fun _ _ => 0) ++ (wHi g (ua 4) (ua 5) upf 0 0 ++ (wH g (uh 0) hA0 hF0 ++ (wH g (uh 1) hA0 hF0 ++ (wH g (uh 2) hA0 hF0 ++ (wH g (uh 3) hA0 hF0 ++ (wH g (uh 4) hA0 hF0 ++ (wH g (uh 5) hA0 hF0 ++ (wH g (uh 6) hA0 hF0 ++ (wH g (uh 7) hA0 hF0 ++ (wH g (uh 8) hA0 hF0 ++ (wH g (uh 9) hA0 hF0 ++ ([])))))))))))))))) ++ (wM g (adr qm um) mA0 mF0 ++ [])) := vaD_perm (pF1 (wTp g qx (ua 1) (ua 2) (ua 3) (up 0) (ur 0) (ua 4) (uh 0 0) (uh 1 0) uim (fun _ => 0) ++ (wC g (ua 3) 0 0 0 ++ (wPa g up (fun _ _ => 0) (fun _ _ => 0) ++ (wRe g ur (fun _ _ => 0) ++ (wHi g (ua 4) (ua 5) upf 0 0 ++ (wH g (uh 0) hA0 hF0 ++ (wH g (uh 1) hA0 hF0 ++ (wH g (uh 2) hA0 hF0 ++ (wH g (uh 3) hA0 hF0 ++ (wH g (uh 4) hA0 hF0 ++ (wH g (uh 5) hA0 hF0 ++ (wH g (uh 6) hA0 hF0 ++ (wH g (uh 7) hA0 hF0 ++ (wH g (uh 8) hA0 hF0 ++ (wH g (uh 9) hA0 hF0 ++ ([])))))))))))))))) (wM g (adr qm um) mA0 mF0) []).symm hD
  refine lv_astore_n (lv' := [(2, .ref qm), (1, .ref qx), (0, .ref b)]) hx hb dL_law_15 rfl hl (by decide) rfl (fun ls hl => ?_)
  refine lv_iconst (v := 0) hx hb dL_law_16 (by decide) ?_
  refine lv_istore_n (lv' := [(3, .int 0), (2, .ref qm), (1, .ref qx), (0, .ref b)]) hx hb dL_law_17 rfl hl (by decide) rfl (fun ls hl => ?_)
  refine W.widen (k := 181) (n := 6611) (Nat.le_of_ble_eq_true rfl) (Nat.le_of_ble_eq_true rfl) ?_
  exact law_loop h_makes h_writes h_takes h_sets h_refines h_begins h_steps h_pauses h_undo h_root h_thing h_region h_remembers h_dirty h_grey h_learnt h_chooses h_foretold h_would h_rubbish h_way h_keep h_back h_count l hL C0 hKK (a0 := qx) (a1 := ua 1) (a2 := ua 2) (a0t := ua 3) (a0i := ua 4) (a1i := ua 5) (adp := up) (adq := ur) (mad := adr qm um) (hd := uh) (im := uim) (pf := upf) hpf him (L + 5) 0 0 (by omega) (by omega) nI_0.symm (fun _ => 0) 0 0 0 (fun _ _ => 0) (fun _ _ => 0) (fun _ _ => 0) 0 0 (fun _ => hA0) (fun _ => hF0) mA0 mF0 0 (fun _ _ => 0) (fun _ => hF0) mF0 hR0 (al_refl _) (AL.refl _) (fun _ => AL.refl _) (AL.refl _) d H locs ls hdr hP hD hS (lv_sub hl [3, 2, 1, 0] rfl)
