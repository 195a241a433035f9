/-! ===== 16 LIB FOR THE TOP: worlds of many blocks, some of which a callee takes ===== -/
theorem vaP_mem {D : va_G} {cl : List vw_C} {ws : va_W} {H : Heap} : va_P D cl ws H ↔ ∀ q ∈ ws, va_at D cl q H := by
  constructor
  · intro h q hq
    obtain ⟨k, hk⟩ := List.getElem?_of_mem hq
    exact h k q hk
  · intro h k q hk
    exact h q (List.mem_of_getElem? hk)
theorem vaP_perm {D : va_G} {cl : List vw_C} {ws ws' : va_W} {H : Heap} (p : ws.Perm ws') (h : va_P D cl ws H) : va_P D cl ws' H := vaP_mem.mpr (fun q hq => vaP_mem.mp h q (p.mem_iff.mpr hq))
theorem vaP_left {D : va_G} {cl : List vw_C} {w1 w2 : va_W} {H : Heap} (h : va_P D cl (w1 ++ w2) H) : va_P D cl w1 H := vaP_mem.mpr (fun q hq => vaP_mem.mp h q (List.mem_append_left _ hq))
theorem vaP_right {D : va_G} {cl : List vw_C} {w1 w2 : va_W} {H : Heap} (h : va_P D cl (w1 ++ w2) H) : va_P D cl w2 H := vaP_mem.mpr (fun q hq => vaP_mem.mp h q (List.mem_append_right _ hq))
theorem vaD_iff {A : Nat → Prop} {ws : va_W} : va_D A ws ↔ (ws.map (fun q => q.1)).Nodup ∧ ∀ q ∈ ws, A q.1 := by
  constructor
  · intro h
    refine ⟨?_, fun q hq => ?_⟩
    · unfold List.Nodup
      rw [List.pairwise_iff_getElem]
      intro i j hi hj hij he
      rw [List.getElem_map, List.getElem_map] at he
      rw [List.length_map] at hi hj
      have := h.1 i j _ _ (List.getElem?_eq_getElem hi) (List.getElem?_eq_getElem hj) he
      omega
    · obtain ⟨k, hk⟩ := List.getElem?_of_mem hq
      exact h.2 k q hk
  · intro h
    refine ⟨fun i j p q hp hq he => ?_, fun k q hk => h.2 q (List.mem_of_getElem? hk)⟩
    have h1 := h.1
    unfold List.Nodup at h1
    rw [List.pairwise_iff_getElem] at h1
    obtain ⟨hi, ei⟩ := List.getElem?_eq_some_iff.mp hp
    obtain ⟨hj, ej⟩ := List.getElem?_eq_some_iff.mp hq
    rcases Nat.lt_trichotomy i j with q1 | q1 | q1
    · exact absurd (by rw [List.getElem_map, List.getElem_map, ei, ej]; exact he) (h1 i j (by rw [List.length_map]; exact hi) (by rw [List.length_map]; exact hj) q1)
    · exact q1
    · exact absurd (by rw [List.getElem_map, List.getElem_map, ei, ej]; exact he.symm) (h1 j i (by rw [List.length_map]; exact hj) (by rw [List.length_map]; exact hi) q1)
theorem vaD_perm {A : Nat → Prop} {ws ws' : va_W} (p : ws.Perm ws') (h : va_D A ws) : va_D A ws' := by
  rw [vaD_iff] at h ⊢
  exact ⟨(p.map _).nodup_iff.mp h.1, fun q hq => h.2 q (p.mem_iff.mpr hq)⟩
theorem vaD_left {A : Nat → Prop} {w1 w2 : va_W} (h : va_D A (w1 ++ w2)) : va_D A w1 := by
  rw [vaD_iff] at h ⊢
  rw [List.map_append, List.nodup_append] at h
  exact ⟨h.1.1, fun q hq => h.2 q (List.mem_append_left _ hq)⟩
theorem vaD_right {A : Nat → Prop} {w1 w2 : va_W} (h : va_D A (w1 ++ w2)) : va_D A w2 := by
  rw [vaD_iff] at h ⊢
  rw [List.map_append, List.nodup_append] at h
  exact ⟨h.1.2.1, fun q hq => h.2 q (List.mem_append_right _ hq)⟩
/-- behind a call: what isn't the callee's stays -/
theorem fr_join {D : va_G} {cl : List vw_C} {A0 : Nat → Prop} {wc wr w1 : va_W} {H H1 : Heap} (hP : va_P D cl (wc ++ wr) H) (hD : va_D A0 (wc ++ wr)) (hk : ∀ q : Nat, q < H.size → ¬ va_A wc H.size q → H1[q]? = H[q]?) (hF : ∀ q, va_A wc H.size q → A0 q) (hP1 : va_P D cl w1 H1) (hD1 : va_D (va_A wc H.size) w1) : va_P D cl (w1 ++ wr) H1 ∧ va_D A0 (w1 ++ wr) := by
  have hPr : va_P D cl wr H := vaP_right hP
  have hDr : va_D A0 wr := vaD_right hD
  have apart : ∀ q ∈ wr, q.1 < H.size ∧ ¬ va_A wc H.size q.1 := by
    intro q hq
    obtain ⟨k, hk2⟩ := List.getElem?_of_mem hq
    have hlt : q.1 < H.size := (hPr k q hk2).lt
    refine ⟨hlt, fun hA => ?_⟩
    rcases hA with ⟨k3, e3, h3⟩ | h3
    · rw [vaD_iff, List.map_append, List.nodup_append] at hD
      exact hD.1.2.2 q.1 (List.mem_map.mpr ⟨_, List.mem_of_getElem? h3, rfl⟩) q.1 (List.mem_map.mpr ⟨q, hq, rfl⟩) rfl
    · omega
  have hPr1 : va_P D cl wr H1 := vaP_mem.mpr (fun q hq => by
    have h1 := vaP_mem.mp hPr q hq
    exact h1.kept (hk q.1 (apart q hq).1 (apart q hq).2))
  refine ⟨hP1.app hPr1, ?_⟩
  rw [vaD_iff] at hD1 hDr ⊢
  refine ⟨?_, fun q hq => ?_⟩
  · rw [List.map_append, List.nodup_append]
    refine ⟨hD1.1, hDr.1, fun a ha b hb e => ?_⟩
    obtain ⟨qa, hqa, rfl⟩ := List.mem_map.mp ha
    obtain ⟨qb, hqb, rfl⟩ := List.mem_map.mp hb
    exact (apart qb hqb).2 (by rw [← e]; exact hD1.2 qa hqa)
  · rcases List.mem_append.mp hq with h | h
    · exact hF _ (hD1.2 q h)
    · exact hDr.2 q h
/-- one block among others; two, in their order and the other way round -/
theorem pF1 (a c b : va_W) : (a ++ (c ++ b)).Perm (c ++ (a ++ b)) := List.perm_append_comm_assoc a c b
theorem pF2 (a c1 b c2 d : va_W) : (a ++ (c1 ++ (b ++ (c2 ++ d)))).Perm ((c1 ++ c2) ++ (a ++ (b ++ d))) := by
  refine (List.perm_append_comm_assoc a c1 _).trans ?_
  rw [List.append_assoc]
  refine List.Perm.append_left c1 ?_
  have h : (b ++ (c2 ++ d)).Perm (c2 ++ (b ++ d)) := List.perm_append_comm_assoc b c2 d
  exact (List.Perm.append_left a h).trans (List.perm_append_comm_assoc a c2 _)
theorem pF3 (a c1 b c2 d : va_W) : (a ++ (c1 ++ (b ++ (c2 ++ d)))).Perm ((c2 ++ c1) ++ (a ++ (b ++ d))) := (pF2 a c1 b c2 d).trans (List.Perm.append_right _ List.perm_append_comm)
section TCR
variable {p : Program} {l : Launch} {e : Env} {R : Room} {s : State} {m : MethodId} {args : Array Value} {below : List Frame} {meth : Method} {c : Code} {H H0 : Heap} {locs : List Loc} {cells slots : Nat} {Q : State → Prop}
variable {y : MethodName} {bytes cc : ByteArray} {maxL nL n index pc : Nat} {ret : Option FieldType} {ws : List Cond} {rm : Room} {Ts : List Cond} {own C : String} {b : Addr} {As rest st0 : List Value} {ls : Array Slot} {g : GG} {r : Int32} {A0 : Nat → Prop} {w wc wr w1' : va_W} {d : Drawn} {φ : Type} {post : φ → Prop} {w1 : φ → va_W}
theorem fr_free {D : va_G} {cl : List vw_C} (hD : va_D A0 w) (hp : w.Perm (wc ++ wr)) (hS : va_S A0 H0 H locs) (hA : ∀ q, H0.size ≤ q → A0 q) : ∀ q, va_A wc H.size q → A0 q := by
  intro q h
  rcases h with ⟨k, e, h⟩ | h
  · exact (vaD_left (vaD_perm hp hD)).2 k _ h
  · exact hA q (Nat.le_trans hS.1 h)
theorem tcV (hP : va_P g.1 vwCl w H) (hD : va_D A0 w) (hS : va_S A0 H0 H locs) (hA : ∀ q, H0.size ≤ q → A0 q) (hp : w.Perm (wc ++ wr)) (S : CallFix p m c cc nL s args Ts own) (hK : KK g s) (cw : CallW R s args own C index y bytes maxL ret ws rm 0 0 n) (hM : MetV l y ws rm g (.ref b :: As) wc H.size w1') (hrecv : ∃ cellB : Cell, H[b]? = some cellB ∧ cellB.vm.isStatics = false ∧ s.vm.findClass C = some cellB.cls)
    (hn : As.length = n) (hsize : ls.size = nL) (hst : st0 = As.reverse ++ .ref b :: rest) (hW : (rest.map fun v => v.category).sum ≤ 8) (hdg : decode cc pc = .ok (.invokevirtual index, 3)) (hf : cells ≤ R.cells ∧ slots ≤ R.slots)
    (kk : ∀ (H1 : Heap) (locs1 : List Loc), va_P g.1 vwCl (w1' ++ wr) H1 → va_D A0 (w1' ++ wr) → va_S A0 H0 H1 locs1 → W p l e R s m args below meth c H1 locs1 cells slots Q (F0 m (pc + 3) ls rest)) : W p l e R s m args below meth c H locs cells slots Q (F0 m pc ls st0) := by
  have hFc := fr_free (D := g.1) (cl := vwCl) hD hp hS hA
  have hP2 := vaP_perm hp hP
  have hD2 := vaD_perm hp hD
  refine va_callv (va_runV (g := F0 m pc ls st0) S hM cw ⟨PreM.blind, hrecv, fun U hU hWm => ⟨rfl, by rw [hU], by rw [hU]; exact vaP_left hP2, (vaD_left hD2).weaken (fun _ _ _ _ => trivial), hK.warm hWm⟩⟩ rfl hn hsize hst (lv_room hW) hdg hf) hS (fun q _ h => hFc q h) hFc (fun u t H1 locs1 ht hvm hw hB hz1 hk1 hS1 => ?_)
  obtain ⟨h1, h2⟩ := fr_join hP2 hD2 hk1 hFc (by rw [← ht]; exact hB.1) hB.2
  exact kk H1 locs1 h1 h2 hS1
theorem tcI (hP : va_P g.1 vwCl w H) (hD : va_D A0 w) (hS : va_S A0 H0 H locs) (hA : ∀ q, H0.size ≤ q → A0 q) (hp : w.Perm (wc ++ wr)) (S : CallFix p m c cc nL s args Ts own) (hK : KK g s) (cw : CallW R s args own C index y bytes maxL ret ws rm 0 0 n) (hM : MetI l y ws rm g (.ref b :: As) wc H.size r w1') (hrecv : ∃ cellB : Cell, H[b]? = some cellB ∧ cellB.vm.isStatics = false ∧ s.vm.findClass C = some cellB.cls)
    (hn : As.length = n) (hsize : ls.size = nL) (hst : st0 = As.reverse ++ .ref b :: rest) (hW : (rest.map fun v => v.category).sum ≤ 8) (hdg : decode cc pc = .ok (.invokevirtual index, 3)) (hf : cells ≤ R.cells ∧ slots ≤ R.slots)
    (kk : ∀ (H1 : Heap) (locs1 : List Loc), va_P g.1 vwCl (w1' ++ wr) H1 → va_D A0 (w1' ++ wr) → va_S A0 H0 H1 locs1 → W p l e R s m args below meth c H1 locs1 cells slots Q (F0 m (pc + 3) ls (.int r :: rest))) : W p l e R s m args below meth c H locs cells slots Q (F0 m pc ls st0) := by
  have hFc := fr_free (D := g.1) (cl := vwCl) hD hp hS hA
  have hP2 := vaP_perm hp hP
  have hD2 := vaD_perm hp hD
  refine va_calli (va_runV (g := F0 m pc ls st0) S hM cw ⟨PreM.blind, hrecv, fun U hU hWm => ⟨rfl, by rw [hU], by rw [hU]; exact vaP_left hP2, (vaD_left hD2).weaken (fun _ _ _ _ => trivial), hK.warm hWm⟩⟩ rfl hn hsize hst (lv_room hW) hdg hf) hS (fun q _ h => hFc q h) hFc (fun r' u t H1 locs1 ht hvm hw hB hz1 hk1 hS1 => ?_)
  subst hw
  obtain ⟨h1, h2⟩ := fr_join hP2 hD2 hk1 hFc (by rw [← ht]; exact hB.1) hB.2
  exact kk H1 locs1 h1 h2 hS1
theorem tdV (hP : va_P g.1 vwCl w H) (hD : va_D A0 w) (hS : va_S A0 H0 H locs) (hA : ∀ q, H0.size ≤ q → A0 q) (hp : w.Perm (wc ++ wr)) (hd : s.drawn.sameBut d lw_cs) (S : CallFix p m c cc nL (s.setDrawn d) args Ts own) (hK : KK g (s.setDrawn d)) (cw : CallW R (s.setDrawn d) args own C index y bytes maxL ret ws rm 0 0 n) (hM : MetDV l y ws rm g (.ref b :: As) wc H.size post w1) (hrecv : ∃ cellB : Cell, H[b]? = some cellB ∧ cellB.vm.isStatics = false ∧ (s.setDrawn d).vm.findClass C = some cellB.cls)
    (hn : As.length = n) (hsize : ls.size = nL) (hst : st0 = As.reverse ++ .ref b :: rest) (hW : (rest.map fun v => v.category).sum ≤ 8) (hdg : decode cc pc = .ok (.invokevirtual index, 3)) (hf : cells ≤ R.cells ∧ slots ≤ R.slots)
    (kk : ∀ (u : φ) (H1 : Heap) (locs1 : List Loc) (d' : Drawn), post u → va_P g.1 vwCl (w1 u ++ wr) H1 → va_D A0 (w1 u ++ wr) → va_S A0 H0 H1 locs1 → s.drawn.sameBut d' lw_cs → W p l e R (s.setDrawn d') m args below meth c H1 locs1 cells slots Q (F0 m (pc + 3) ls rest)) : W p l e R (s.setDrawn d) m args below meth c H locs cells slots Q (F0 m pc ls st0) := by
  have hFc := fr_free (D := g.1) (cl := vwCl) hD hp hS hA
  have hP2 := vaP_perm hp hP
  have hD2 := vaD_perm hp hD
  refine va_callvD hd (va_runV_D (g := F0 m pc ls st0) S hM cw ⟨PreM.blind, hrecv, fun U hU hWm => ⟨rfl, by rw [hU], by rw [hU]; exact vaP_left hP2, (vaD_left hD2).weaken (fun _ _ _ _ => trivial), hK.warm hWm⟩⟩ rfl hn hsize hst (lv_room hW) hdg hf) hS (fun q _ h => hFc q h) hFc (fun u t H1 locs1 ht hvm hw hB hz1 hk1 hS1 d' hd' => ?_)
  obtain ⟨h1, h2⟩ := fr_join hP2 hD2 hk1 hFc (by rw [← ht]; exact hB.1) hB.2
  exact kk u H1 locs1 d' hw h1 h2 hS1 hd'
theorem tdI (hP : va_P g.1 vwCl w H) (hD : va_D A0 w) (hS : va_S A0 H0 H locs) (hA : ∀ q, H0.size ≤ q → A0 q) (hp : w.Perm (wc ++ wr)) (hd : s.drawn.sameBut d lw_cs) (S : CallFix p m c cc nL (s.setDrawn d) args Ts own) (hK : KK g (s.setDrawn d)) (cw : CallW R (s.setDrawn d) args own C index y bytes maxL ret ws rm 0 0 n) (hM : MetDI l y ws rm g (.ref b :: As) wc H.size r post w1) (hrecv : ∃ cellB : Cell, H[b]? = some cellB ∧ cellB.vm.isStatics = false ∧ (s.setDrawn d).vm.findClass C = some cellB.cls)
    (hn : As.length = n) (hsize : ls.size = nL) (hst : st0 = As.reverse ++ .ref b :: rest) (hW : (rest.map fun v => v.category).sum ≤ 8) (hdg : decode cc pc = .ok (.invokevirtual index, 3)) (hf : cells ≤ R.cells ∧ slots ≤ R.slots)
    (kk : ∀ (u : φ) (H1 : Heap) (locs1 : List Loc) (d' : Drawn), post u → va_P g.1 vwCl (w1 u ++ wr) H1 → va_D A0 (w1 u ++ wr) → va_S A0 H0 H1 locs1 → s.drawn.sameBut d' lw_cs → W p l e R (s.setDrawn d') m args below meth c H1 locs1 cells slots Q (F0 m (pc + 3) ls (.int r :: rest))) : W p l e R (s.setDrawn d) m args below meth c H locs cells slots Q (F0 m pc ls st0) := by
  have hFc := fr_free (D := g.1) (cl := vwCl) hD hp hS hA
  have hP2 := vaP_perm hp hP
  have hD2 := vaD_perm hp hD
  refine va_calliD hd (va_runV_D (g := F0 m pc ls st0) S hM cw ⟨PreM.blind, hrecv, fun U hU hWm => ⟨rfl, by rw [hU], by rw [hU]; exact vaP_left hP2, (vaD_left hD2).weaken (fun _ _ _ _ => trivial), hK.warm hWm⟩⟩ rfl hn hsize hst (lv_room hW) hdg hf) hS (fun q _ h => hFc q h) hFc (fun r' u t H1 locs1 ht hvm hw hB hz1 hk1 hS1 d' hd' => ?_)
  obtain ⟨rfl, hw⟩ := hw
  obtain ⟨h1, h2⟩ := fr_join hP2 hD2 hk1 hFc (by rw [← ht]; exact hB.1) hB.2
  exact kk u H1 locs1 d' hw h1 h2 hS1 hd'
end TCR
