/-! ===== 03 LIB: states as rows of numbers, the small words that the walks are written in, loops, the tables' bundle, call rows ===== -/
/-- int rows of a block, by number (a plain field is a row that is read at 0); float rows likewise -/
abbrev IA : Type := Nat → Nat → Int32
abbrev FA : Type := Nat → Nat → UInt32
/-- classes' numbers and slots; the array classes of int, boolean, float, Heap -/
abbrev GG : Type := va_G × (ClassId × ClassId × ClassId × ClassId)
def setR (A : IA) (k : Nat) (f : Nat → Int32) : IA := fun a => cond (Nat.beq a k) f (A a)
def wr (A : IA) (k j : Nat) (v : Int32) : IA := setR A k (upd (A k) j v)
def sc (A : IA) (k : Nat) (v : Int32) : IA := setR A k (fun _ => v)
def setRF (A : FA) (k : Nat) (f : Nat → UInt32) : FA := fun a => cond (Nat.beq a k) f (A a)
def wrF (A : FA) (k j : Nat) (v : UInt32) : FA := setRF A k (vf_upd (A k) j v)
def scF (A : FA) (k : Nat) (v : UInt32) : FA := setRF A k (fun _ => v)
/-- an index that is looked at before it is used -/
def inb (i : Int32) (n : Nat) : Bool := !(decide (i < 0)) && decide (i.toNatClampNeg < n)
def ck {α : Type} (i : Int32) (n : Nat) (k : Option α) : Option α := cond (inb i n) k none
def ckb {α : Type} (v : Int32) (k : Option α) : Option α := cond (v == 0 || v == 1) k none
def bd {α β : Type} (a : α) (k : α → β) : β := k a
theorem inb_vp {i : Int32} {n : Nat} (h : inb i n = true) : vp_in i n := by
  unfold inb at h
  have h' := (Bool.and_eq_true _ _).mp h
  have h1 : ¬ i < 0 := by
    have q := h'.1
    simp only [Bool.not_eq_true', decide_eq_false_iff_not] at q
    exact q
  have h2 : i.toNatClampNeg < n := of_decide_eq_true h'.2
  intro q
  rcases q with q | q
  · exact h1 q
  · omega
theorem ck_some {α : Type} {i : Int32} {n : Nat} {k : Option α} {y : α} (h : ck i n k = some y) : vp_in i n ∧ k = some y := by
  unfold ck at h
  cases hb : inb i n with
  | false => rw [hb] at h; cases h
  | true => rw [hb] at h; exact ⟨inb_vp hb, h⟩
theorem ckb_some {α : Type} {v : Int32} {k : Option α} {y : α} (h : ckb v k = some y) : (v = 0 ∨ v = 1) ∧ k = some y := by
  unfold ckb at h
  cases hb : (v == 0 || v == 1) with
  | false => rw [hb] at h; cases h
  | true =>
    rw [hb] at h
    refine ⟨?_, h⟩
    rcases (Bool.or_eq_true _ _).mp hb with q | q
    · exact Or.inl (eq_of_beq q)
    · exact Or.inr (eq_of_beq q)
theorem nar_bool {v : Int32} (h : v = 0 ∨ v = 1) : narrow .boolean (.int v) = .int v := by
  rcases h with rfl | rfl <;> rfl
theorem bd_some {α β : Type} {a : α} {k : α → β} {y : β} (h : bd a k = y) : ∃ z, z = a ∧ k z = y := ⟨a, rfl, h⟩
theorem bn_some {α β : Type} {o : Option α} {k : α → Option β} {y : β} (h : o.bind k = some y) : ∃ z, o = some z ∧ k z = some y := by
  cases o with
  | none => cases h
  | some z => exact ⟨z, rfl, h⟩
def loopN {α β : Type} (step : α → Option (α ⊕ β)) : Nat → α → Option β
  | 0, _ => none
  | n + 1, a => match step a with
    | none => none
    | some (.inl a') => loopN step n a'
    | some (.inr b) => some b
theorem loopN_walk {α β : Type} {step : α → Option (α ⊕ β)} {b : β} {G : α → Prop} (hb : ∀ a r, step a = some r → (∀ a', r = .inl a' → G a') → (∀ b', r = .inr b' → b' = b) → G a) : ∀ n a, loopN step n a = some b → G a := by
  intro n
  induction n with
  | zero => intro a h; cases h
  | succ n ih =>
    intro a h
    unfold loopN at h
    cases hs : step a with
    | none => rw [hs] at h; cases h
    | some r =>
      rw [hs] at h
      cases r with
      | inl a' => exact hb a _ hs (fun a2 e => by cases e; exact ih a' h) (fun b' e => by cases e)
      | inr b' => exact hb a _ hs (fun a2 e => by cases e) (fun b2 e => by cases e; exact Option.some.inj h)
/-- the nest mates' links -/
def nwl : List Cond := [.methodLinkNest RX6 36 yX0_init RX6, .methodLinkNest RX6 43 yX3_init RX6, .methodLinkNest RX6 50 yX4_init RX6, .methodLinkNest RX0 49 yX6_hasBit RX6, .methodLinkNest RX1 129 yX6_cardOf RX6, .methodLinkNest RX1 150 yX6_regionOfCard RX6, .methodLinkNest RX1 156 yX6_cardsOf RX6, .methodLinkNest RX1 44 yX5_init RX6, .methodLinkNest RX3 11 yX0_init RX6, .methodLinkNest RX3 116 yX6_regionOfCard RX6, .methodLinkNest RX3 20 yX5_init RX6, .methodLinkNest RX3 87 yX6_hasBit RX6, .methodLinkNest RX4 17 yX5_init RX6]
def NW (U : State) : Prop := ∀ (k : Nat) (w : Cond), nwl[k]? = some w → va_Nw w U
theorem nwl_form : ∀ (k : Nat) (w : Cond), nwl[k]? = some w → ∃ a i x h, w = Cond.methodLinkNest a i x h := by
  intro k w h
  have hm : w ∈ nwl := List.mem_of_getElem? h
  unfold nwl at hm
  simp only [List.mem_cons, List.not_mem_nil, or_false] at hm
  rcases hm with h | h | h | h | h | h | h | h | h | h | h | h | h <;> exact ⟨_, _, _, _, h⟩
theorem NW.warm {s U : State} (hW : s.WarmedH U.vm) (h : NW s) : NW U := by
  intro k w hk
  obtain ⟨a, i, x, hh, e⟩ := nwl_form k w hk
  have h1 := h k w hk
  rw [e] at h1 ⊢
  exact va_Nw.warmM hW h1
theorem NW.same {u U : State} (hvm : u.vm = U.vm) (h : NW u) : NW U := by
  intro k w hk
  obtain ⟨a, i, x, hh, e⟩ := nwl_form k w hk
  have h1 := h k w hk
  rw [e] at h1 ⊢
  exact va_Nw.same rfl hvm h1
abbrev KT (g : GG) : List (ClassId × FieldType) := [(g.2.1, .int), (g.2.2.1, .boolean), (g.2.2.2.1, .float), (g.2.2.2.2, .object RX1)]
def KK (g : GG) (U : State) : Prop := va_K g.1 vwCl (KT g) U ∧ NW U
theorem KK.warm {g : GG} {s U : State} (hW : s.WarmedH U.vm) (h : KK g s) : KK g U := ⟨va_K.moved hW.alike h.1, h.2.warm hW⟩
theorem KK.calling {g : GG} {U : State} {f : JFrame} {mk : MethodId} {a : Array Value} (h : KK g U) : KK g (U.calling f mk a) := ⟨va_K.moved (u := U) (U := U.calling f mk a) (Vm.Alike.refl U.vm) h.1, NW.same (u := U) (U := U.calling f mk a) rfl h.2⟩
theorem KK.drawn {g : GG} {U : State} (d : Drawn) (h : KK g U) : KK g (U.setDrawn d) := ⟨va_K.moved (u := U) (U := U.setDrawn d) (Vm.Alike.refl U.vm) h.1, NW.same (u := U) (U := U.setDrawn d) rfl h.2⟩
/-- a method that changes nothing -/
def PreP (g : GG) (H0 : Heap) (U : State) : Prop := U.heap = H0 ∧ KK g U
abbrev MetP (l : Launch) (y : MethodName) (ws : List Cond) (rm : Room) (g : GG) (H0 : Heap) (argv : List Value) (r : Int32) : Prop :=
  Met l y ws rm (va_Pc argv (PreP g H0)) (va_Qi (fun (r' : Int32) (_ : Unit) => r' = r) (fun _ t => t.heap = H0) (fun _ => False)) 0 0 (fun _ => False)
/-- a method that changes the cells of its world -/
def PreM (g : GG) (sz : Nat) (w0 : va_W) (U : State) : Prop := U.heap.size = sz ∧ va_P g.1 vwCl w0 U.heap ∧ va_D (fun _ => True) w0 ∧ KK g U
def PostM (g : GG) (A : Nat → Prop) (w1 : va_W) (t : State) : Prop := va_P g.1 vwCl w1 t.heap ∧ va_D A w1
abbrev MetV (l : Launch) (y : MethodName) (ws : List Cond) (rm : Room) (g : GG) (argv : List Value) (w0 : va_W) (sz : Nat) (w1 : va_W) : Prop :=
  Met l y ws rm (va_Pc argv (PreM g sz w0)) (va_Qv (fun (_ : Unit) => True) (fun _ t => PostM g (va_A w0 sz) w1 t) (va_A w0 sz)) 0 0 (va_A w0 sz)
abbrev MetI (l : Launch) (y : MethodName) (ws : List Cond) (rm : Room) (g : GG) (argv : List Value) (w0 : va_W) (sz : Nat) (r : Int32) (w1 : va_W) : Prop :=
  Met l y ws rm (va_Pc argv (PreM g sz w0)) (va_Qi (fun (r' : Int32) (_ : Unit) => r' = r) (fun _ t => PostM g (va_A w0 sz) w1 t) (va_A w0 sz)) 0 0 (va_A w0 sz)
theorem PreP.blind {g : GG} {H0 : Heap} {argv : List Value} : FrameBlind (va_Pc argv (PreP g H0)) := fun _ _ _ _ q => ⟨q.1, q.2.1, q.2.2.calling⟩
theorem PreM.blind {g : GG} {sz : Nat} {w0 : va_W} {argv : List Value} : FrameBlind (va_Pc argv (PreM g sz w0)) := fun _ _ _ _ q => ⟨q.1, q.2.1, q.2.2.1, q.2.2.2.1, q.2.2.2.2.calling⟩
section PCR
variable {p : Program} {l : Launch} {e : Env} {R : Room} {s : State} {m : MethodId} {args : Array Value} {below : List Frame} {meth : Method} {c : Code} {H H0 : Heap} {locs : List Loc} {cells slots : Nat} {Q : State → Prop}
variable {y : MethodName} {bytes cc : ByteArray} {maxL nL n index pc : Nat} {ret : Option FieldType} {ws : List Cond} {rm : Room} {Ts : List Cond} {own C host : String} {b : Addr} {As rest st0 : List Value} {ls : Array Slot} {g : GG} {r : Int32} {A0 : Nat → Prop} {w wc wr w1 : va_W}
theorem pc_end {a : Array Value} (hr : va_Run p l e R s m args below meth c H locs cells slots 0 0 (F0 m pc ls st0) rest (va_Qi (fun (r' : Int32) (_ : Unit) => r' = r) (fun _ t => t.heap = H) (fun _ => False) a) (fun _ => False))
    (kk : W p l e R s m args below meth c H locs cells slots Q (F0 m (pc + 3) ls (.int r :: rest))) : W p l e R s m args below meth c H locs cells slots Q (F0 m pc ls st0) := by
  intro T hT X
  obtain ⟨v, st₀, t, T', L, h0, X', hL, e1, e2, ⟨⟨r', u, hv, hp, hb⟩, hz, hk⟩, st⟩ := hr T hT X
  cases hv
  have hLn : L = [] := List.eq_nil_iff_forall_not_mem.mpr (fun q hq => hL q hq)
  subst hLn
  rw [List.append_nil] at X'
  subst hp
  obtain ⟨t2, a1, b1⟩ := kk T' (e1.trans hb) X'
  exact ⟨t2, st t2 a1, b1⟩
/-- a method that changes nothing, called on an object -/
theorem pcV (S : CallFix p m c cc nL s args Ts own) (hK : KK g s) (cw : CallW R s args own C index y bytes maxL ret ws rm 0 0 n) (hM : MetP l y ws rm g H (.ref b :: As) r) (hrecv : ∃ cellB : Cell, H[b]? = some cellB ∧ cellB.vm.isStatics = false ∧ s.vm.findClass C = some cellB.cls)
    (hn : As.length = n) (hsize : ls.size = nL) (hst : st0 = As.reverse ++ .ref b :: rest) (hW : (rest.map fun v => v.category).sum ≤ 8) (hdg : decode cc pc = .ok (.invokevirtual index, 3)) (hf : cells ≤ R.cells ∧ slots ≤ R.slots)
    (kk : W p l e R s m args below meth c H locs cells slots Q (F0 m (pc + 3) ls (.int r :: rest))) : W p l e R s m args below meth c H locs cells slots Q (F0 m pc ls st0) :=
  pc_end (va_runV (g := F0 m pc ls st0) S hM cw ⟨PreP.blind, hrecv, fun _ hU hWm => ⟨rfl, hU, hK.warm hWm⟩⟩ rfl hn hsize hst (lv_room hW) hdg hf) kk
/-- likewise a static one -/
theorem pcS (S : CallFix p m c cc nL s args Ts own) (hK : KK g s) (cw : CallB R s args own index y bytes maxL ret ws rm 0 0 n ∧ (Cond.static y).before args s = true) (hM : MetP l y ws rm g H As r)
    (hn : As.length = n) (hsize : ls.size = nL) (hst : st0 = As.reverse ++ rest) (hW : (rest.map fun v => v.category).sum ≤ 8) (hdg : decode cc pc = .ok (.invokestatic index, 3)) (hf : cells ≤ R.cells ∧ slots ≤ R.slots)
    (kk : W p l e R s m args below meth c H locs cells slots Q (F0 m (pc + 3) ls (.int r :: rest))) : W p l e R s m args below meth c H locs cells slots Q (F0 m pc ls st0) :=
  pc_end (va_runS (g := F0 m pc ls st0) S hM cw ⟨PreP.blind, fun _ hU hWm => ⟨rfl, hU, hK.warm hWm⟩⟩ rfl hn hsize hst (lv_room hW) hdg hf) kk
/-- likewise a private static one of a nest mate -/
theorem pcN (S : CallFix p m c cc nL s args Ts own) (hK : KK g s) (cw : va_CN R s args own index y host bytes maxL ret ws rm 0 0 n ∧ (Cond.static y).before args s = true ∧ True) (hM : MetP l y ws rm g H As r)
    (hn : As.length = n) (hsize : ls.size = nL) (hst : st0 = As.reverse ++ rest) (hW : (rest.map fun v => v.category).sum ≤ 8) (hdg : decode cc pc = .ok (.invokestatic index, 3)) (hf : cells ≤ R.cells ∧ slots ≤ R.slots)
    (kk : W p l e R s m args below meth c H locs cells slots Q (F0 m (pc + 3) ls (.int r :: rest))) : W p l e R s m args below meth c H locs cells slots Q (F0 m pc ls st0) :=
  pc_end (va_runSN (g := F0 m pc ls st0) S hM cw ⟨PreP.blind, fun _ hU hWm => ⟨rfl, hU, hK.warm hWm⟩⟩ rfl hn hsize hst (lv_room hW) hdg hf) kk
theorem sub_map {D : va_G} {cl : List vw_C} {is : List Nat} (hP : va_P D cl w H) (hC : is.map (fun i => w[i]?) = wc.map some) : va_P D cl wc H := by
  intro k q hq
  have h1 : (is.map (fun i => w[i]?))[k]? = some (some q) := by rw [hC, List.getElem?_map, hq]; rfl
  rw [List.getElem?_map] at h1
  cases hi : is[k]? with
  | none => rw [hi] at h1; cases h1
  | some i => rw [hi] at h1; exact hP i q (Option.some.inj h1)
/-- a method that changes its world, called on an object; its world is the caller's whole world -/
theorem mcV (S : CallFix p m c cc nL s args Ts own) (hK : KK g s) (hP : va_P g.1 vwCl w H) (hD : va_D A0 w) (hS : va_S A0 H0 H locs) (hA : ∀ q, H0.size ≤ q → A0 q) (cw : CallW R s args own C index y bytes maxL ret ws rm 0 0 n) (hM : MetV l y ws rm g (.ref b :: As) w H.size w1) (hrecv : ∃ cellB : Cell, H[b]? = some cellB ∧ cellB.vm.isStatics = false ∧ s.vm.findClass C = some cellB.cls)
    (hn : As.length = n) (hsize : ls.size = nL) (hst : st0 = As.reverse ++ .ref b :: rest) (hW : (rest.map fun v => v.category).sum ≤ 8) (hdg : decode cc pc = .ok (.invokevirtual index, 3)) (hf : cells ≤ R.cells ∧ slots ≤ R.slots)
    (kk : ∀ (H1 : Heap) (locs1 : List Loc), va_P g.1 vwCl w1 H1 → va_D A0 w1 → va_S A0 H0 H1 locs1 → W p l e R s m args below meth c H1 locs1 cells slots Q (F0 m (pc + 3) ls rest)) : W p l e R s m args below meth c H locs cells slots Q (F0 m pc ls st0) := by
  have hFc : ∀ q, va_A w H.size q → A0 q := fun q h => by
    rcases h with ⟨k, e, h⟩ | h
    · exact hD.2 k _ h
    · exact hA q (Nat.le_trans hS.1 h)
  refine va_callv (va_runV (g := F0 m pc ls st0) S hM cw ⟨PreM.blind, hrecv, fun U hU hWm => ⟨rfl, by rw [hU], by rw [hU]; exact hP, hD.weaken (fun _ _ _ _ => trivial), hK.warm hWm⟩⟩ rfl hn hsize hst (lv_room hW) hdg hf) hS (fun q _ h => hFc q h) hFc (fun u t H1 locs1 ht hvm hw hB hz1 hk1 hS1 => ?_)
  exact kk H1 locs1 (by rw [← ht]; exact hB.1) (hB.2.weaken (fun _ _ _ h => hFc _ h)) hS1
theorem mcI (S : CallFix p m c cc nL s args Ts own) (hK : KK g s) (hP : va_P g.1 vwCl w H) (hD : va_D A0 w) (hS : va_S A0 H0 H locs) (hA : ∀ q, H0.size ≤ q → A0 q) (cw : CallW R s args own C index y bytes maxL ret ws rm 0 0 n) (hM : MetI l y ws rm g (.ref b :: As) w H.size r w1) (hrecv : ∃ cellB : Cell, H[b]? = some cellB ∧ cellB.vm.isStatics = false ∧ s.vm.findClass C = some cellB.cls)
    (hn : As.length = n) (hsize : ls.size = nL) (hst : st0 = As.reverse ++ .ref b :: rest) (hW : (rest.map fun v => v.category).sum ≤ 8) (hdg : decode cc pc = .ok (.invokevirtual index, 3)) (hf : cells ≤ R.cells ∧ slots ≤ R.slots)
    (kk : ∀ (H1 : Heap) (locs1 : List Loc), va_P g.1 vwCl w1 H1 → va_D A0 w1 → va_S A0 H0 H1 locs1 → W p l e R s m args below meth c H1 locs1 cells slots Q (F0 m (pc + 3) ls (.int r :: rest))) : W p l e R s m args below meth c H locs cells slots Q (F0 m pc ls st0) := by
  have hFc : ∀ q, va_A w H.size q → A0 q := fun q h => by
    rcases h with ⟨k, e, h⟩ | h
    · exact hD.2 k _ h
    · exact hA q (Nat.le_trans hS.1 h)
  refine va_calli (va_runV (g := F0 m pc ls st0) S hM cw ⟨PreM.blind, hrecv, fun U hU hWm => ⟨rfl, by rw [hU], by rw [hU]; exact hP, hD.weaken (fun _ _ _ _ => trivial), hK.warm hWm⟩⟩ rfl hn hsize hst (lv_room hW) hdg hf) hS (fun q _ h => hFc q h) hFc (fun r' u t H1 locs1 ht hvm hw hB hz1 hk1 hS1 => ?_)
  subst hw
  exact kk H1 locs1 (by rw [← ht]; exact hB.1) (hB.2.weaken (fun _ _ _ h => hFc _ h)) hS1
/-- likewise, its world some of the caller's cells (places isC), the others (isR) stay -/
theorem mcVs (S : CallFix p m c cc nL s args Ts own) (hK : KK g s) (hP : va_P g.1 vwCl w H) (hD : va_D A0 w) (hS : va_S A0 H0 H locs) (hA : ∀ q, H0.size ≤ q → A0 q) (isC isR : List Nat) (hC : isC.map (fun i => w[i]?) = wc.map some) (hR : isR.map (fun i => w[i]?) = wr.map some) (hn1 : va_nd isC = true) (hn2 : va_nd isR = true) (hdis : ∀ i ∈ isR, i ∉ isC)
    (cw : CallW R s args own C index y bytes maxL ret ws rm 0 0 n) (hM : MetV l y ws rm g (.ref b :: As) wc H.size w1) (hrecv : ∃ cellB : Cell, H[b]? = some cellB ∧ cellB.vm.isStatics = false ∧ s.vm.findClass C = some cellB.cls)
    (hn : As.length = n) (hsize : ls.size = nL) (hst : st0 = As.reverse ++ .ref b :: rest) (hW : (rest.map fun v => v.category).sum ≤ 8) (hdg : decode cc pc = .ok (.invokevirtual index, 3)) (hf : cells ≤ R.cells ∧ slots ≤ R.slots)
    (kk : ∀ (H1 : Heap) (locs1 : List Loc), va_P g.1 vwCl (wr ++ w1) H1 → va_D A0 (wr ++ w1) → va_S A0 H0 H1 locs1 → W p l e R s m args below meth c H1 locs1 cells slots Q (F0 m (pc + 3) ls rest)) : W p l e R s m args below meth c H locs cells slots Q (F0 m pc ls st0) := by
  have hFc := va_free (wc := wc) hD hS hA isC hC
  have hPc : va_P g.1 vwCl wc H := sub_map hP hC
  have hDc : va_D A0 wc := hD.sub isC hn1 hC
  refine va_callv (va_runV (g := F0 m pc ls st0) S hM cw ⟨PreM.blind, hrecv, fun U hU hWm => ⟨rfl, by rw [hU], by rw [hU]; exact hPc, hDc.weaken (fun _ _ _ _ => trivial), hK.warm hWm⟩⟩ rfl hn hsize hst (lv_room hW) hdg hf) hS (fun q _ h => hFc q h) hFc (fun u t H1 locs1 ht hvm hw hB hz1 hk1 hS1 => ?_)
  obtain ⟨h1, h2⟩ := va_join (wr := wr) (w1 := w1) hP hD isC isR hC hR hn2 hdis hk1 hFc (by rw [← ht]; exact hB.1) hB.2
  exact kk H1 locs1 h1 h2 hS1
theorem mcIs (S : CallFix p m c cc nL s args Ts own) (hK : KK g s) (hP : va_P g.1 vwCl w H) (hD : va_D A0 w) (hS : va_S A0 H0 H locs) (hA : ∀ q, H0.size ≤ q → A0 q) (isC isR : List Nat) (hC : isC.map (fun i => w[i]?) = wc.map some) (hR : isR.map (fun i => w[i]?) = wr.map some) (hn1 : va_nd isC = true) (hn2 : va_nd isR = true) (hdis : ∀ i ∈ isR, i ∉ isC)
    (cw : CallW R s args own C index y bytes maxL ret ws rm 0 0 n) (hM : MetI l y ws rm g (.ref b :: As) wc H.size r w1) (hrecv : ∃ cellB : Cell, H[b]? = some cellB ∧ cellB.vm.isStatics = false ∧ s.vm.findClass C = some cellB.cls)
    (hn : As.length = n) (hsize : ls.size = nL) (hst : st0 = As.reverse ++ .ref b :: rest) (hW : (rest.map fun v => v.category).sum ≤ 8) (hdg : decode cc pc = .ok (.invokevirtual index, 3)) (hf : cells ≤ R.cells ∧ slots ≤ R.slots)
    (kk : ∀ (H1 : Heap) (locs1 : List Loc), va_P g.1 vwCl (wr ++ w1) H1 → va_D A0 (wr ++ w1) → va_S A0 H0 H1 locs1 → W p l e R s m args below meth c H1 locs1 cells slots Q (F0 m (pc + 3) ls (.int r :: rest))) : W p l e R s m args below meth c H locs cells slots Q (F0 m pc ls st0) := by
  have hFc := va_free (wc := wc) hD hS hA isC hC
  have hPc : va_P g.1 vwCl wc H := sub_map hP hC
  have hDc : va_D A0 wc := hD.sub isC hn1 hC
  refine va_calli (va_runV (g := F0 m pc ls st0) S hM cw ⟨PreM.blind, hrecv, fun U hU hWm => ⟨rfl, by rw [hU], by rw [hU]; exact hPc, hDc.weaken (fun _ _ _ _ => trivial), hK.warm hWm⟩⟩ rfl hn hsize hst (lv_room hW) hdg hf) hS (fun q _ h => hFc q h) hFc (fun r' u t H1 locs1 ht hvm hw hB hz1 hk1 hS1 => ?_)
  subst hw
  obtain ⟨h1, h2⟩ := va_join (wr := wr) (w1 := w1) hP hD isC isR hC hR hn2 hdis hk1 hFc (by rw [← ht]; exact hB.1) hB.2
  exact kk H1 locs1 h1 h2 hS1
/-- likewise a static one -/
theorem mcSs (S : CallFix p m c cc nL s args Ts own) (hK : KK g s) (hP : va_P g.1 vwCl w H) (hD : va_D A0 w) (hS : va_S A0 H0 H locs) (hA : ∀ q, H0.size ≤ q → A0 q) (isC isR : List Nat) (hC : isC.map (fun i => w[i]?) = wc.map some) (hR : isR.map (fun i => w[i]?) = wr.map some) (hn1 : va_nd isC = true) (hn2 : va_nd isR = true) (hdis : ∀ i ∈ isR, i ∉ isC)
    (cw : CallB R s args own index y bytes maxL ret ws rm 0 0 n ∧ (Cond.static y).before args s = true) (hM : MetV l y ws rm g As wc H.size w1)
    (hn : As.length = n) (hsize : ls.size = nL) (hst : st0 = As.reverse ++ rest) (hW : (rest.map fun v => v.category).sum ≤ 8) (hdg : decode cc pc = .ok (.invokestatic index, 3)) (hf : cells ≤ R.cells ∧ slots ≤ R.slots)
    (kk : ∀ (H1 : Heap) (locs1 : List Loc), va_P g.1 vwCl (wr ++ w1) H1 → va_D A0 (wr ++ w1) → va_S A0 H0 H1 locs1 → W p l e R s m args below meth c H1 locs1 cells slots Q (F0 m (pc + 3) ls rest)) : W p l e R s m args below meth c H locs cells slots Q (F0 m pc ls st0) := by
  have hFc := va_free (wc := wc) hD hS hA isC hC
  have hPc : va_P g.1 vwCl wc H := sub_map hP hC
  have hDc : va_D A0 wc := hD.sub isC hn1 hC
  refine va_callv (va_runS (g := F0 m pc ls st0) S hM cw ⟨PreM.blind, fun U hU hWm => ⟨rfl, by rw [hU], by rw [hU]; exact hPc, hDc.weaken (fun _ _ _ _ => trivial), hK.warm hWm⟩⟩ rfl hn hsize hst (lv_room hW) hdg hf) hS (fun q _ h => hFc q h) hFc (fun u t H1 locs1 ht hvm hw hB hz1 hk1 hS1 => ?_)
  obtain ⟨h1, h2⟩ := va_join (wr := wr) (w1 := w1) hP hD isC isR hC hR hn2 hdis hk1 hFc (by rw [← ht]; exact hB.1) hB.2
  exact kk H1 locs1 h1 h2 hS1
end PCR
section LPW
variable {p : Program} {l : Launch} {e : Env} {R : Room} {s : State} {m : MethodId} {args : Array Value} {below : List Frame} {meth : Method} {c : Code} {H H0 : Heap} {locs : List Loc} {cells slots : Nat} {Q : State → Prop} {g : GG} {Z : Nat → Prop}
variable {α β : Type} {step : α → Option (α ⊕ β)} {b : β} {k : Nat} {a : α} {head exit nL : Nat} {ls : Array Slot}
/-- a loop of a method that changes nothing -/
theorem loopP (hc : loopN step k a = some b) (lv : α → List (Nat × Value)) (lvx : β → List (Nat × Value)) (hl : lv_has ls nL (lv a))
    (kx : ∀ ls : Array Slot, lv_has ls nL (lvx b) → W p l e R s m args below meth c H locs cells slots Q (F0 m exit ls []))
    (body : ∀ (a : α) (r : α ⊕ β), step a = some r → (∀ (ls : Array Slot) (a' : α), r = .inl a' → lv_has ls nL (lv a') → W p l e R s m args below meth c H locs cells slots Q (F0 m head ls [])) → (∀ (ls : Array Slot) (b' : β), r = .inr b' → lv_has ls nL (lvx b') → W p l e R s m args below meth c H locs cells slots Q (F0 m exit ls [])) →
      ∀ ls : Array Slot, lv_has ls nL (lv a) → W p l e R s m args below meth c H locs cells slots Q (F0 m head ls [])) : W p l e R s m args below meth c H locs cells slots Q (F0 m head ls []) := by
  refine loopN_walk (G := fun a => ∀ ls : Array Slot, lv_has ls nL (lv a) → W p l e R s m args below meth c H locs cells slots Q (F0 m head ls [])) ?_ k a hc ls hl
  intro a r hr h1 h2 ls hl
  exact body a r hr (fun ls a' e h => h1 a' e ls h) (fun ls b' e h => kx ls (by rw [← h2 b' e]; exact h)) ls hl
theorem loopPe (hc : loopN step k a = some b) (lv : α → List (Nat × Value)) (hl : lv_has ls nL (lv a))
    (body : ∀ (a : α) (r : α ⊕ β), step a = some r → (∀ (ls : Array Slot) (a' : α), r = .inl a' → lv_has ls nL (lv a') → W p l e R s m args below meth c H locs cells slots Q (F0 m head ls [])) → (∀ b' : β, r = .inr b' → b' = b) →
      ∀ ls : Array Slot, lv_has ls nL (lv a) → W p l e R s m args below meth c H locs cells slots Q (F0 m head ls [])) : W p l e R s m args below meth c H locs cells slots Q (F0 m head ls []) := by
  refine loopN_walk (G := fun a => ∀ ls : Array Slot, lv_has ls nL (lv a) → W p l e R s m args below meth c H locs cells slots Q (F0 m head ls [])) ?_ k a hc ls hl
  intro a r hr h1 h2 ls hl
  exact body a r hr (fun ls a' e h => h1 a' e ls h) h2 ls hl
/-- a loop of a method that changes its world -/
theorem loopM (hc : loopN step k a = some b) (lv : α → List (Nat × Value)) (lvx : β → List (Nat × Value)) (wd : α → va_W) (wdx : β → va_W) (hP : va_P g.1 vwCl (wd a) H) (hD : va_D Z (wd a)) (hS : va_S Z H0 H locs) (hl : lv_has ls nL (lv a))
    (kx : ∀ (H : Heap) (locs : List Loc) (ls : Array Slot), va_P g.1 vwCl (wdx b) H → va_D Z (wdx b) → va_S Z H0 H locs → lv_has ls nL (lvx b) → W p l e R s m args below meth c H locs cells slots Q (F0 m exit ls []))
    (body : ∀ (a : α) (r : α ⊕ β), step a = some r → (∀ (H : Heap) (locs : List Loc) (ls : Array Slot) (a' : α), r = .inl a' → va_P g.1 vwCl (wd a') H → va_D Z (wd a') → va_S Z H0 H locs → lv_has ls nL (lv a') → W p l e R s m args below meth c H locs cells slots Q (F0 m head ls [])) → (∀ (H : Heap) (locs : List Loc) (ls : Array Slot) (b' : β), r = .inr b' → va_P g.1 vwCl (wdx b') H → va_D Z (wdx b') → va_S Z H0 H locs → lv_has ls nL (lvx b') → W p l e R s m args below meth c H locs cells slots Q (F0 m exit ls [])) →
      ∀ (H : Heap) (locs : List Loc) (ls : Array Slot), va_P g.1 vwCl (wd a) H → va_D Z (wd a) → va_S Z H0 H locs → lv_has ls nL (lv a) → W p l e R s m args below meth c H locs cells slots Q (F0 m head ls [])) : W p l e R s m args below meth c H locs cells slots Q (F0 m head ls []) := by
  refine loopN_walk (G := fun a => ∀ (H : Heap) (locs : List Loc) (ls : Array Slot), va_P g.1 vwCl (wd a) H → va_D Z (wd a) → va_S Z H0 H locs → lv_has ls nL (lv a) → W p l e R s m args below meth c H locs cells slots Q (F0 m head ls [])) ?_ k a hc H locs ls hP hD hS hl
  intro a r hr h1 h2 H locs ls hP hD hS hl
  exact body a r hr (fun H locs ls a' e q1 q2 q3 q4 => h1 a' e H locs ls q1 q2 q3 q4) (fun H locs ls b' e q1 q2 q3 q4 => kx H locs ls (by rw [← h2 b' e]; exact q1) (by rw [← h2 b' e]; exact q2) q3 (by rw [← h2 b' e]; exact q4)) H locs ls hP hD hS hl
theorem loopMe (hc : loopN step k a = some b) (lv : α → List (Nat × Value)) (wd : α → va_W) (hP : va_P g.1 vwCl (wd a) H) (hD : va_D Z (wd a)) (hS : va_S Z H0 H locs) (hl : lv_has ls nL (lv a))
    (body : ∀ (a : α) (r : α ⊕ β), step a = some r → (∀ (H : Heap) (locs : List Loc) (ls : Array Slot) (a' : α), r = .inl a' → va_P g.1 vwCl (wd a') H → va_D Z (wd a') → va_S Z H0 H locs → lv_has ls nL (lv a') → W p l e R s m args below meth c H locs cells slots Q (F0 m head ls [])) → (∀ b' : β, r = .inr b' → b' = b) →
      ∀ (H : Heap) (locs : List Loc) (ls : Array Slot), va_P g.1 vwCl (wd a) H → va_D Z (wd a) → va_S Z H0 H locs → lv_has ls nL (lv a) → W p l e R s m args below meth c H locs cells slots Q (F0 m head ls [])) : W p l e R s m args below meth c H locs cells slots Q (F0 m head ls []) := by
  refine loopN_walk (G := fun a => ∀ (H : Heap) (locs : List Loc) (ls : Array Slot), va_P g.1 vwCl (wd a) H → va_D Z (wd a) → va_S Z H0 H locs → lv_has ls nL (lv a) → W p l e R s m args below meth c H locs cells slots Q (F0 m head ls [])) ?_ k a hc H locs ls hP hD hS hl
  intro a r hr h1 h2 H locs ls hP hD hS hl
  exact body a r hr (fun H locs ls a' e q1 q2 q3 q4 => h1 a' e H locs ls q1 q2 q3 q4) h2 H locs ls hP hD hS hl
end LPW
theorem fit_bool {v : Int32} (h : v = 0 ∨ v = 1) : fits .boolean (.int v) = true := by
  rcases h with rfl | rfl <;> rfl
/-- a switch's default: the number is none of 0 .. N -/
theorem sw_out {x : Int32} {hi : Int} (N : Nat) (hN : hi = (N : Int)) (hx : ∀ n : Nat, n ≤ N → ¬ x.toInt = (n : Int)) : x.toInt < 0 ∨ hi < x.toInt := by
  by_cases h : x.toInt < 0
  · exact Or.inl h
  · right
    obtain ⟨n, hn⟩ := Int.eq_ofNat_of_zero_le (show (0 : Int) ≤ x.toInt by omega)
    rcases Nat.lt_or_ge N n with q | q
    · omega
    · exact absurd hn (hx n q)
theorem sw_ne {x : Int32} {y : Int32} {n : Nat} (h : ¬ x = y) (hy : y.toInt = (n : Int)) : ¬ x.toInt = (n : Int) := fun q => h (Int32.toInt_inj.mp (q.trans hy.symm))
