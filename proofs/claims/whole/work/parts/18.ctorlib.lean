/-! ===== 18 LIB FOR CONSTRUCTORS: contracts of methods that make cells ===== -/
def PreC (g : GG) (sz : Nat) (w0 : va_W) (U : State) : Prop := PreM g sz w0 U ∧ va_AO RX1 U
theorem PreC.blind {g : GG} {sz : Nat} {w0 : va_W} {argv : List Value} : FrameBlind (va_Pc argv (PreC g sz w0)) := fun _ U f mk q => ⟨q.1, ⟨q.2.1.1, q.2.1.2.1, q.2.1.2.2.1, q.2.1.2.2.2.calling⟩, va_AO.moved (u := U) (U := U.calling f mk _) (Vm.Alike.refl U.vm) q.2.2⟩
abbrev MetC (l : Launch) (y : MethodName) (ws : List Cond) (rm : Room) (g : GG) (argv : List Value) (w0 : va_W) (sz mc ms : Nat) {σ : Type} (post : σ → Prop) (w1 : σ → va_W) : Prop :=
  Met l y ws rm (va_Pc argv (PreC g sz w0)) (va_Qv (fun (u : σ) => post u) (fun u t => PostM g (va_A w0 sz) (w1 u) t) (va_A w0 sz)) mc ms (va_A w0 sz)
/-- an object's address and those of what it owns -/
def adr (a0 : Nat) (u : Nat → Nat) : Nat → Nat := fun k => cond (Nat.beq k 0) a0 (u k)
theorem arr_int {g : GG} {cA : ClassId} {s : State} (h : va_K g.1 vwCl (KT g ++ [(cA, .int)]) s) : cA = g.2.1 := by
  have h1 : s.vm.findClass ("[" ++ FieldType.int.toString) = some g.2.1 := (h.2 0 _ rfl).2
  have h2 : s.vm.findClass ("[" ++ FieldType.int.toString) = some cA := (h.2 4 _ rfl).2
  exact Option.some.inj (h2.symm.trans h1)
theorem arr_bool {g : GG} {cA : ClassId} {s : State} (h : va_K g.1 vwCl (KT g ++ [(cA, .boolean)]) s) : cA = g.2.2.1 := by
  have h1 : s.vm.findClass ("[" ++ FieldType.boolean.toString) = some g.2.2.1 := (h.2 1 _ rfl).2
  have h2 : s.vm.findClass ("[" ++ FieldType.boolean.toString) = some cA := (h.2 4 _ rfl).2
  exact Option.some.inj (h2.symm.trans h1)
theorem arr_float {g : GG} {cA : ClassId} {s : State} (h : va_K g.1 vwCl (KT g ++ [(cA, .float)]) s) : cA = g.2.2.2.1 := by
  have h1 : s.vm.findClass ("[" ++ FieldType.float.toString) = some g.2.2.2.1 := (h.2 2 _ rfl).2
  have h2 : s.vm.findClass ("[" ++ FieldType.float.toString) = some cA := (h.2 4 _ rfl).2
  exact Option.some.inj (h2.symm.trans h1)
theorem arr_heap {g : GG} {cA : ClassId} {s : State} (h : va_K g.1 vwCl (KT g ++ [(cA, .object RX1)]) s) : cA = g.2.2.2.2 := by
  obtain ⟨_, _, _, _, _, h1⟩ := (h.2 3 _ rfl).2
  obtain ⟨_, _, _, _, _, h2⟩ := (h.2 4 _ rfl).2
  exact Option.some.inj (h2.symm.trans h1)
section CCR
variable {p : Program} {l : Launch} {e : Env} {R : Room} {s : State} {m : MethodId} {args : Array Value} {below : List Frame} {meth : Method} {c : Code} {H H0 : Heap} {locs : List Loc} {cells slots mc ms : Nat} {Q : State → Prop}
variable {y : MethodName} {bytes cc : ByteArray} {maxL nL n index pc : Nat} {ret : Option FieldType} {ws : List Cond} {rm : Room} {Ts : List Cond} {own C host : String} {b : Addr} {As rest st0 : List Value} {ls : Array Slot} {g : GG} {A0 : Nat → Prop} {w wc wr w1' : va_W} {σ : Type} {post : σ → Prop} {w1 : σ → va_W}
/-- a constructor, called on a new cell -/
theorem icV (hP : va_P g.1 vwCl w H) (hD : va_D A0 w) (hS : va_S A0 H0 H locs) (hA : ∀ q, H0.size ≤ q → A0 q) (hp : w.Perm (wc ++ wr)) (S : CallFix p m c cc nL s args Ts own) (hK : KK g s) (hO : va_AO RX1 s) (cw : CallB R s args own index y bytes maxL none ws rm mc ms n ∧ y.name = "<init>" ∧ (Cond.instanceMethod y).before args s = true) (hM : MetC l y ws rm g (.ref b :: As) wc H.size mc ms post w1)
    (hn : As.length = n) (hsize : ls.size = nL) (hst : st0 = As.reverse ++ .ref b :: rest) (hW : (rest.map fun v => v.category).sum ≤ 8) (hdg : decode cc pc = .ok (.invokespecial index, 3)) (hf : cells + mc ≤ R.cells ∧ slots + ms ≤ R.slots)
    (kk : ∀ (u : σ) (H1 : Heap) (locs1 : List Loc), post u → va_P g.1 vwCl (w1 u ++ wr) H1 → va_D A0 (w1 u ++ wr) → va_S A0 H0 H1 locs1 → W p l e R s m args below meth c H1 locs1 (cells + mc) (slots + ms) Q (F0 m (pc + 3) ls rest)) : W p l e R s m args below meth c H locs cells slots Q (F0 m pc ls st0) := by
  have hFc := fr_free (D := g.1) (cl := vwCl) hD hp hS hA
  have hP2 := vaP_perm hp hP
  have hD2 := vaD_perm hp hD
  refine va_callv (va_runI (g := F0 m pc ls st0) S hM cw ⟨PreC.blind, fun U hU hWm => ⟨rfl, ⟨by rw [hU], by rw [hU]; exact vaP_left hP2, (vaD_left hD2).weaken (fun _ _ _ _ => trivial), hK.warm hWm⟩, va_AO.moved hWm.alike hO⟩⟩ rfl hn hsize hst (lv_room hW) hdg hf) hS (fun q _ h => hFc q h) hFc (fun u t H1 locs1 ht hvm hw hB hz1 hk1 hS1 => ?_)
  obtain ⟨h1, h2⟩ := fr_join hP2 hD2 hk1 hFc (by rw [← ht]; exact hB.1) hB.2
  exact kk u H1 locs1 hw h1 h2 hS1
/-- likewise a private one of a nest mate -/
theorem icN (hP : va_P g.1 vwCl w H) (hD : va_D A0 w) (hS : va_S A0 H0 H locs) (hA : ∀ q, H0.size ≤ q → A0 q) (hp : w.Perm (wc ++ wr)) (S : CallFix p m c cc nL s args Ts own) (hK : KK g s) (hO : va_AO RX1 s) (cw : va_CN R s args own index y host bytes maxL none ws rm mc ms n ∧ y.name = "<init>" ∧ (Cond.instanceMethod y).before args s = true) (hM : MetC l y ws rm g (.ref b :: As) wc H.size mc ms post w1)
    (hn : As.length = n) (hsize : ls.size = nL) (hst : st0 = As.reverse ++ .ref b :: rest) (hW : (rest.map fun v => v.category).sum ≤ 8) (hdg : decode cc pc = .ok (.invokespecial index, 3)) (hf : cells + mc ≤ R.cells ∧ slots + ms ≤ R.slots)
    (kk : ∀ (u : σ) (H1 : Heap) (locs1 : List Loc), post u → va_P g.1 vwCl (w1 u ++ wr) H1 → va_D A0 (w1 u ++ wr) → va_S A0 H0 H1 locs1 → W p l e R s m args below meth c H1 locs1 (cells + mc) (slots + ms) Q (F0 m (pc + 3) ls rest)) : W p l e R s m args below meth c H locs cells slots Q (F0 m pc ls st0) := by
  have hFc := fr_free (D := g.1) (cl := vwCl) hD hp hS hA
  have hP2 := vaP_perm hp hP
  have hD2 := vaD_perm hp hD
  refine va_callv (va_runIN (g := F0 m pc ls st0) S hM cw ⟨PreC.blind, fun U hU hWm => ⟨rfl, ⟨by rw [hU], by rw [hU]; exact vaP_left hP2, (vaD_left hD2).weaken (fun _ _ _ _ => trivial), hK.warm hWm⟩, va_AO.moved hWm.alike hO⟩⟩ rfl hn hsize hst (lv_room hW) hdg hf) hS (fun q _ h => hFc q h) hFc (fun u t H1 locs1 ht hvm hw hB hz1 hk1 hS1 => ?_)
  obtain ⟨h1, h2⟩ := fr_join hP2 hD2 hk1 hFc (by rw [← ht]; exact hB.1) hB.2
  exact kk u H1 locs1 hw h1 h2 hS1
/-- a static method that changes one block -/
theorem tcS (hP : va_P g.1 vwCl w H) (hD : va_D A0 w) (hS : va_S A0 H0 H locs) (hA : ∀ q, H0.size ≤ q → A0 q) (hp : w.Perm (wc ++ wr)) (S : CallFix p m c cc nL s args Ts own) (hK : KK g s) (cw : CallB R s args own index y bytes maxL ret ws rm 0 0 n ∧ (Cond.static y).before args s = true) (hM : MetV l y ws rm g As wc H.size w1')
    (hn : As.length = n) (hsize : ls.size = nL) (hst : st0 = As.reverse ++ rest) (hW : (rest.map fun v => v.category).sum ≤ 8) (hdg : decode cc pc = .ok (.invokestatic index, 3)) (hf : cells ≤ R.cells ∧ slots ≤ R.slots)
    (kk : ∀ (H1 : Heap) (locs1 : List Loc), va_P g.1 vwCl (w1' ++ wr) H1 → va_D A0 (w1' ++ wr) → va_S A0 H0 H1 locs1 → W p l e R s m args below meth c H1 locs1 cells slots Q (F0 m (pc + 3) ls rest)) : W p l e R s m args below meth c H locs cells slots Q (F0 m pc ls st0) := by
  have hFc := fr_free (D := g.1) (cl := vwCl) hD hp hS hA
  have hP2 := vaP_perm hp hP
  have hD2 := vaD_perm hp hD
  refine va_callv (va_runS (g := F0 m pc ls st0) S hM cw ⟨PreM.blind, fun U hU hWm => ⟨rfl, by rw [hU], by rw [hU]; exact vaP_left hP2, (vaD_left hD2).weaken (fun _ _ _ _ => trivial), hK.warm hWm⟩⟩ rfl hn hsize hst (lv_room hW) hdg hf) hS (fun q _ h => hFc q h) hFc (fun u t H1 locs1 ht hvm hw hB hz1 hk1 hS1 => ?_)
  obtain ⟨h1, h2⟩ := fr_join hP2 hD2 hk1 hFc (by rw [← ht]; exact hB.1) hB.2
  exact kk H1 locs1 h1 h2 hS1
end CCR
/-! the first words of the pure level; Arrays.fill, as a function -/
theorem inb_nI {i n : Nat} (h : i < n) (hn : n < 2147483648) : inb (nI i) n = true := by
  unfold inb
  rw [nI_clamp (show i < 2 ^ 31 by omega), decide_eq_false (nI_pos (show i < 2 ^ 31 by omega)), decide_eq_true h]
  rfl
theorem ck_nI {α : Type} {i n : Nat} {k : Option α} (h : i < n) (hn : n < 2147483648) : ck (nI i) n k = k := by
  unfold ck
  rw [inb_nI h hn]
  rfl
theorem loopN_inl {α β : Type} {step : α → Option (α ⊕ β)} {k : Nat} {a a' : α} (h : step a = some (.inl a')) : loopN step (k + 1) a = loopN step k a' := by
  rw [loopN, h]
theorem loopN_inr {α β : Type} {step : α → Option (α ⊕ β)} {k : Nat} {a : α} {b : β} (h : step a = some (.inr b)) : loopN step (k + 1) a = some b := by
  rw [loopN, h]
theorem fill_go (z : Nat) (hz : z < 2000) (v : Int32) : ∀ (k i : Nat) (f : Nat → Int32), i ≤ z → z - i < k → loopN (sJ7_fill_53178_L5 z v (Int32.ofNat z)) k (nI i, f) = some (fun j => if i ≤ j ∧ j < z then v else f j) := by
  intro k
  induction k with
  | zero => intro i f h1 h2; omega
  | succ k ih =>
    intro i f h1 h2
    by_cases hi : i = z
    · subst hi
      have hs : sJ7_fill_53178_L5 i v (Int32.ofNat i) (nI i, f) = some (.inr f) := by
        unfold sJ7_fill_53178_L5
        rw [if_pos (show Int32.ofNat i ≤ nI i from nI_le (Nat.le_refl i) (by omega))]
      rw [loopN_inr hs]
      refine congrArg some (funext fun j => ?_)
      rw [if_neg (by omega)]
    · have hs : sJ7_fill_53178_L5 z v (Int32.ofNat z) (nI i, f) = some (.inl (nI (i + 1), upd f i v)) := by
        unfold sJ7_fill_53178_L5
        rw [if_neg (show ¬ Int32.ofNat z ≤ nI i from nI_ge (by omega) (by omega)), ck_nI (by omega) (by omega)]
        show some (Sum.inl (nI i + 1, upd f (nI i).toNatClampNeg v)) = _
        rw [nI_clamp (by omega), nI_1]
      rw [loopN_inl hs, ih (i + 1) (upd f i v) (by omega) (by omega)]
      refine congrArg some (funext fun j => ?_)
      unfold upd
      by_cases h3 : j = i
      · subst h3
        rw [if_neg (by omega), if_pos rfl, if_pos (by omega)]
      · by_cases h4 : i ≤ j ∧ j < z
        · rw [if_pos (by omega), if_pos h4]
        · rw [if_neg (by omega), if_neg h3, if_neg h4]
theorem fill_eq (z : Nat) (hz : z < 2000) (f : Nat → Int32) (v : Int32) : sJ7_fill_53178 z f v = some (fun j => if j < z then v else f j) := by
  unfold sJ7_fill_53178
  show (loopN (sJ7_fill_53178_L5 z v (Int32.ofNat z)) 2000 (0, f)).bind (fun q2 => some q2) = _
  have h := fill_go z hz v 2000 0 f (Nat.zero_le z) (by omega)
  rw [nI_0] at h
  rw [h]
  refine congrArg some (funext fun j => ?_)
  by_cases hj : j < z
  · rw [if_pos ⟨Nat.zero_le j, hj⟩, if_pos hj]
  · rw [if_neg (fun q => hj q.2), if_neg hj]
theorem nz_int (n : Nat) (cA : ClassId) : vp_cell cA (n, .inl (fun _ => 0)) = arrV cA n (fun _ => defaultValue .int) := rfl
theorem nz_bool (n : Nat) (cA : ClassId) : vp_cell cA (n, .inl (fun _ => 0)) = arrV cA n (fun _ => defaultValue .boolean) := rfl
theorem nz_float (n : Nat) (cA : ClassId) : vp_cell cA (n, .inr (.inr (.inl (fun _ => 0)))) = arrV cA n (fun _ => defaultValue .float) := rfl
