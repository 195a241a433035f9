/-! ===== 03b LIB FOR FLOATS: what a row of floats is as far as the document fixes it; loops and calls that may draw ===== -/
theorem nan_dec {x : UInt32} (h : isNaN32 x = true) : FP.Core.decode FP.Core.b32 x.toNat = .nan := by
  have h1 : 2139095040 < x.toNat &&& 2147483647 := isNaN32_iff.mp h
  have h2 : x.toNat &&& 2147483647 = x.toNat % 2147483648 := Nat.and_two_pow_sub_one_eq_mod x.toNat 31
  rw [h2] at h1
  have hx : x.toNat < 4294967296 := x.toNat_lt
  have e1 : FP.Core.fieldE FP.Core.b32 x.toNat = 255 := by
    show x.toNat / 8388608 % 256 = 255
    omega
  have e2 : ¬ FP.Core.fieldT FP.Core.b32 x.toNat = 0 := by
    show ¬ x.toNat % 8388608 = 0
    omega
  unfold FP.Core.decode
  rw [if_pos (show FP.Core.fieldE FP.Core.b32 x.toNat = FP.Core.b32.exps - 1 from e1), if_neg e2]
theorem al_dec {x y : UInt32} (h : alike32 x y = true) : FP.Core.decode FP.Core.b32 x.toNat = FP.Core.decode FP.Core.b32 y.toNat := by
  unfold alike32 at h
  rcases (Bool.or_eq_true _ _).mp h with q | q
  · rw [of_decide_eq_true q]
  · have q' := (Bool.and_eq_true _ _).mp q
    rw [nan_dec q'.1, nan_dec q'.2]
theorem al_refl (x : UInt32) : alike32 x x = true := alike32_refl x
theorem al_fadd {r x y x' y' : UInt32} (h : alike32 r (FP.fadd x y) = true) (hx : alike32 x x' = true) (hy : alike32 y y' = true) : alike32 r (FP.fadd x' y') = true := by
  have e : FP.fadd x y = FP.fadd x' y' := by
    show UInt32.ofNat (FP.Core.encode _ (FP.Core.round _ (FP.Core.exactSum _ _))) = UInt32.ofNat (FP.Core.encode _ (FP.Core.round _ (FP.Core.exactSum _ _)))
    rw [al_dec hx, al_dec hy]
  rw [← e]; exact h
theorem al_fmul {r x y x' y' : UInt32} (h : alike32 r (FP.fmul x y) = true) (hx : alike32 x x' = true) (hy : alike32 y y' = true) : alike32 r (FP.fmul x' y') = true := by
  have e : FP.fmul x y = FP.fmul x' y' := by
    show UInt32.ofNat (FP.Core.encode _ (FP.Core.round _ (FP.Core.exactProduct _ _))) = UInt32.ofNat (FP.Core.encode _ (FP.Core.round _ (FP.Core.exactProduct _ _)))
    rw [al_dec hx, al_dec hy]
  rw [← e]; exact h
theorem al_fdiv {r x y x' y' : UInt32} (h : alike32 r (FP.fdiv x y) = true) (hx : alike32 x x' = true) (hy : alike32 y y' = true) : alike32 r (FP.fdiv x' y') = true := by
  have e : FP.fdiv x y = FP.fdiv x' y' := by
    show UInt32.ofNat (FP.Core.encode _ (FP.Core.quotient _ _ _)) = UInt32.ofNat (FP.Core.encode _ (FP.Core.quotient _ _ _))
    rw [al_dec hx, al_dec hy]
  rw [← e]; exact h
theorem al_fcmp {x y x' y' : UInt32} (hx : alike32 x x' = true) (hy : alike32 y y' = true) : FP.fcmp x y = FP.fcmp x' y' := by
  show FP.Core.order _ _ = FP.Core.order _ _
  rw [al_dec hx, al_dec hy]
theorem al_f2i {x x' : UInt32} (hx : alike32 x x' = true) : FP.f2i x = FP.f2i x' := by
  show FP.Core.toI _ = FP.Core.toI _
  rw [al_dec hx]
def AL (F G : FA) : Prop := ∀ k j, alike32 (F k j) (G k j) = true
theorem AL.refl (F : FA) : AL F F := fun _ _ => al_refl _
theorem AL.row {F G : FA} {k : Nat} {f f' : Nat → UInt32} (h : AL F G) (hf : ∀ j, alike32 (f j) (f' j) = true) : AL (setRF F k f) (setRF G k f') := by
  intro a j
  unfold setRF
  cases hb : Nat.beq a k with
  | true => exact hf j
  | false => exact h a j
theorem AL.sc {F G : FA} {k : Nat} {v v' : UInt32} (h : AL F G) (hv : alike32 v v' = true) : AL (scF F k v) (scF G k v') := AL.row h (fun _ => hv)
theorem AL.wr {F G : FA} {k i : Nat} {v v' : UInt32} (h : AL F G) (hv : alike32 v v' = true) : AL (wrF F k i v) (wrF G k i v') := by
  refine AL.row h (fun j => ?_)
  unfold vf_upd
  by_cases hj : j = i
  · rw [if_pos hj, if_pos hj]; exact hv
  · rw [if_neg hj, if_neg hj]; exact h k j
abbrev MetDV (l : Launch) (y : MethodName) (ws : List Cond) (rm : Room) (g : GG) (argv : List Value) (w0 : va_W) (sz : Nat) {φ : Type} (post : φ → Prop) (w1 : φ → va_W) : Prop :=
  MetD lw_cs l y ws rm (va_Pc argv (PreM g sz w0)) (va_Qv (fun (u : φ) => post u) (fun u t => PostM g (va_A w0 sz) (w1 u) t) (va_A w0 sz)) 0 0 (va_A w0 sz)
abbrev MetDI (l : Launch) (y : MethodName) (ws : List Cond) (rm : Room) (g : GG) (argv : List Value) (w0 : va_W) (sz : Nat) (r : Int32) {φ : Type} (post : φ → Prop) (w1 : φ → va_W) : Prop :=
  MetD lw_cs l y ws rm (va_Pc argv (PreM g sz w0)) (va_Qi (fun (r' : Int32) (u : φ) => r' = r ∧ post u) (fun u t => PostM g (va_A w0 sz) (w1 u) t) (va_A w0 sz)) 0 0 (va_A w0 sz)
section LPD
variable {p : Program} {l : Launch} {e : Env} {R : Room} {s : State} {m : MethodId} {args : Array Value} {below : List Frame} {meth : Method} {c : Code} {H H0 : Heap} {locs : List Loc} {cells slots : Nat} {Q : State → Prop} {g : GG} {Z : Nat → Prop} {d : Drawn}
variable {α β φ : Type} {step : α → Option (α ⊕ β)} {b : β} {k : Nat} {a : α} {head exit nL : Nat} {ls : Array Slot}
theorem loopMD (hd : s.drawn.sameBut d lw_cs) (hc : loopN step k a = some b) (lv : α → List (Nat × Value)) (lvx : β → List (Nat × Value)) (wd : α → φ → va_W) (wdx : β → φ → va_W) (RL : α → φ → Prop) (RLx : β → φ → Prop) (f : φ) (hf : RL a f) (hP : va_P g.1 vwCl (wd a f) H) (hD : va_D Z (wd a f)) (hS : va_S Z H0 H locs) (hl : lv_has ls nL (lv a))
    (kx : ∀ (d : Drawn) (H : Heap) (locs : List Loc) (ls : Array Slot) (f : φ), s.drawn.sameBut d lw_cs → RLx b f → va_P g.1 vwCl (wdx b f) H → va_D Z (wdx b f) → va_S Z H0 H locs → lv_has ls nL (lvx b) → W p l e R (s.setDrawn d) m args below meth c H locs cells slots Q (F0 m exit ls []))
    (body : ∀ (a : α) (r : α ⊕ β), step a = some r → (∀ (d : Drawn) (H : Heap) (locs : List Loc) (ls : Array Slot) (f : φ) (a' : α), r = .inl a' → s.drawn.sameBut d lw_cs → RL a' f → va_P g.1 vwCl (wd a' f) H → va_D Z (wd a' f) → va_S Z H0 H locs → lv_has ls nL (lv a') → W p l e R (s.setDrawn d) m args below meth c H locs cells slots Q (F0 m head ls [])) →
      (∀ (d : Drawn) (H : Heap) (locs : List Loc) (ls : Array Slot) (f : φ) (b' : β), r = .inr b' → s.drawn.sameBut d lw_cs → RLx b' f → va_P g.1 vwCl (wdx b' f) H → va_D Z (wdx b' f) → va_S Z H0 H locs → lv_has ls nL (lvx b') → W p l e R (s.setDrawn d) m args below meth c H locs cells slots Q (F0 m exit ls [])) →
      ∀ (d : Drawn) (H : Heap) (locs : List Loc) (ls : Array Slot) (f : φ), s.drawn.sameBut d lw_cs → RL a f → va_P g.1 vwCl (wd a f) H → va_D Z (wd a f) → va_S Z H0 H locs → lv_has ls nL (lv a) → W p l e R (s.setDrawn d) m args below meth c H locs cells slots Q (F0 m head ls [])) : W p l e R (s.setDrawn d) m args below meth c H locs cells slots Q (F0 m head ls []) := by
  refine loopN_walk (G := fun a => ∀ (d : Drawn) (H : Heap) (locs : List Loc) (ls : Array Slot) (f : φ), s.drawn.sameBut d lw_cs → RL a f → va_P g.1 vwCl (wd a f) H → va_D Z (wd a f) → va_S Z H0 H locs → lv_has ls nL (lv a) → W p l e R (s.setDrawn d) m args below meth c H locs cells slots Q (F0 m head ls [])) ?_ k a hc d H locs ls f hd hf hP hD hS hl
  intro a r hr h1 h2 d H locs ls f hd hf hP hD hS hl
  exact body a r hr (fun d H locs ls f a' e q0 q1 q2 q3 q4 q5 => h1 a' e d H locs ls f q0 q1 q2 q3 q4 q5) (fun d H locs ls f b' e q0 q1 q2 q3 q4 q5 => kx d H locs ls f q0 (by rw [← h2 b' e]; exact q1) (by rw [← h2 b' e]; exact q2) (by rw [← h2 b' e]; exact q3) q4 (by rw [← h2 b' e]; exact q5)) d H locs ls f hd hf hP hD hS hl
theorem loopMDe (hd : s.drawn.sameBut d lw_cs) (hc : loopN step k a = some b) (lv : α → List (Nat × Value)) (wd : α → φ → va_W) (RL : α → φ → Prop) (f : φ) (hf : RL a f) (hP : va_P g.1 vwCl (wd a f) H) (hD : va_D Z (wd a f)) (hS : va_S Z H0 H locs) (hl : lv_has ls nL (lv a))
    (body : ∀ (a : α) (r : α ⊕ β), step a = some r → (∀ (d : Drawn) (H : Heap) (locs : List Loc) (ls : Array Slot) (f : φ) (a' : α), r = .inl a' → s.drawn.sameBut d lw_cs → RL a' f → va_P g.1 vwCl (wd a' f) H → va_D Z (wd a' f) → va_S Z H0 H locs → lv_has ls nL (lv a') → W p l e R (s.setDrawn d) m args below meth c H locs cells slots Q (F0 m head ls [])) →
      (∀ b' : β, r = .inr b' → b' = b) →
      ∀ (d : Drawn) (H : Heap) (locs : List Loc) (ls : Array Slot) (f : φ), s.drawn.sameBut d lw_cs → RL a f → va_P g.1 vwCl (wd a f) H → va_D Z (wd a f) → va_S Z H0 H locs → lv_has ls nL (lv a) → W p l e R (s.setDrawn d) m args below meth c H locs cells slots Q (F0 m head ls [])) : W p l e R (s.setDrawn d) m args below meth c H locs cells slots Q (F0 m head ls []) := by
  refine loopN_walk (G := fun a => ∀ (d : Drawn) (H : Heap) (locs : List Loc) (ls : Array Slot) (f : φ), s.drawn.sameBut d lw_cs → RL a f → va_P g.1 vwCl (wd a f) H → va_D Z (wd a f) → va_S Z H0 H locs → lv_has ls nL (lv a) → W p l e R (s.setDrawn d) m args below meth c H locs cells slots Q (F0 m head ls [])) ?_ k a hc d H locs ls f hd hf hP hD hS hl
  intro a r hr h1 h2 d H locs ls f hd hf hP hD hS hl
  exact body a r hr (fun d H locs ls f a' e q0 q1 q2 q3 q4 q5 => h1 a' e d H locs ls f q0 q1 q2 q3 q4 q5) h2 d H locs ls f hd hf hP hD hS hl
end LPD
section DCR
variable {p : Program} {l : Launch} {e : Env} {R : Room} {s : State} {m : MethodId} {args : Array Value} {below : List Frame} {meth : Method} {c : Code} {H H0 : Heap} {locs : List Loc} {cells slots : Nat} {Q : State → Prop}
variable {y : MethodName} {bytes cc : ByteArray} {maxL nL n index pc : Nat} {ret : Option FieldType} {ws : List Cond} {rm : Room} {Ts : List Cond} {own C : String} {b : Addr} {As rest st0 : List Value} {ls : Array Slot} {g : GG} {r : Int32} {A0 : Nat → Prop} {w wc wr : va_W} {d : Drawn} {φ : Type} {post : φ → Prop} {w1 : φ → va_W}
theorem dcV (hd : s.drawn.sameBut d lw_cs) (S : CallFix p m c cc nL (s.setDrawn d) args Ts own) (hK : KK g (s.setDrawn d)) (hP : va_P g.1 vwCl w H) (hD : va_D A0 w) (hS : va_S A0 H0 H locs) (hA : ∀ q, H0.size ≤ q → A0 q) (cw : CallW R (s.setDrawn d) args own C index y bytes maxL ret ws rm 0 0 n) (hM : MetDV l y ws rm g (.ref b :: As) w H.size post w1) (hrecv : ∃ cellB : Cell, H[b]? = some cellB ∧ cellB.vm.isStatics = false ∧ (s.setDrawn d).vm.findClass C = some cellB.cls)
    (hn : As.length = n) (hsize : ls.size = nL) (hst : st0 = As.reverse ++ .ref b :: rest) (hW : (rest.map fun v => v.category).sum ≤ 8) (hdg : decode cc pc = .ok (.invokevirtual index, 3)) (hf : cells ≤ R.cells ∧ slots ≤ R.slots)
    (kk : ∀ (u : φ) (H1 : Heap) (locs1 : List Loc) (d' : Drawn), post u → va_P g.1 vwCl (w1 u) H1 → va_D A0 (w1 u) → va_S A0 H0 H1 locs1 → s.drawn.sameBut d' lw_cs → W p l e R (s.setDrawn d') m args below meth c H1 locs1 cells slots Q (F0 m (pc + 3) ls rest)) : W p l e R (s.setDrawn d) m args below meth c H locs cells slots Q (F0 m pc ls st0) := by
  have hFc : ∀ q, va_A w H.size q → A0 q := fun q h => by
    rcases h with ⟨k, e, h⟩ | h
    · exact hD.2 k _ h
    · exact hA q (Nat.le_trans hS.1 h)
  refine va_callvD hd (va_runV_D (g := F0 m pc ls st0) S hM cw ⟨PreM.blind, hrecv, fun U hU hWm => ⟨rfl, by rw [hU], by rw [hU]; exact hP, hD.weaken (fun _ _ _ _ => trivial), hK.warm hWm⟩⟩ rfl hn hsize hst (lv_room hW) hdg hf) hS (fun q _ h => hFc q h) hFc (fun u t H1 locs1 ht hvm hw hB hz1 hk1 hS1 d' hd' => ?_)
  exact kk u H1 locs1 d' hw (by rw [← ht]; exact hB.1) (hB.2.weaken (fun _ _ _ h => hFc _ h)) hS1 hd'
theorem dcI (hd : s.drawn.sameBut d lw_cs) (S : CallFix p m c cc nL (s.setDrawn d) args Ts own) (hK : KK g (s.setDrawn d)) (hP : va_P g.1 vwCl w H) (hD : va_D A0 w) (hS : va_S A0 H0 H locs) (hA : ∀ q, H0.size ≤ q → A0 q) (cw : CallW R (s.setDrawn d) args own C index y bytes maxL ret ws rm 0 0 n) (hM : MetDI l y ws rm g (.ref b :: As) w H.size r post w1) (hrecv : ∃ cellB : Cell, H[b]? = some cellB ∧ cellB.vm.isStatics = false ∧ (s.setDrawn d).vm.findClass C = some cellB.cls)
    (hn : As.length = n) (hsize : ls.size = nL) (hst : st0 = As.reverse ++ .ref b :: rest) (hW : (rest.map fun v => v.category).sum ≤ 8) (hdg : decode cc pc = .ok (.invokevirtual index, 3)) (hf : cells ≤ R.cells ∧ slots ≤ R.slots)
    (kk : ∀ (u : φ) (H1 : Heap) (locs1 : List Loc) (d' : Drawn), post u → va_P g.1 vwCl (w1 u) H1 → va_D A0 (w1 u) → va_S A0 H0 H1 locs1 → s.drawn.sameBut d' lw_cs → W p l e R (s.setDrawn d') m args below meth c H1 locs1 cells slots Q (F0 m (pc + 3) ls (.int r :: rest))) : W p l e R (s.setDrawn d) m args below meth c H locs cells slots Q (F0 m pc ls st0) := by
  have hFc : ∀ q, va_A w H.size q → A0 q := fun q h => by
    rcases h with ⟨k, e, h⟩ | h
    · exact hD.2 k _ h
    · exact hA q (Nat.le_trans hS.1 h)
  refine va_calliD hd (va_runV_D (g := F0 m pc ls st0) S hM cw ⟨PreM.blind, hrecv, fun U hU hWm => ⟨rfl, by rw [hU], by rw [hU]; exact hP, hD.weaken (fun _ _ _ _ => trivial), hK.warm hWm⟩⟩ rfl hn hsize hst (lv_room hW) hdg hf) hS (fun q _ h => hFc q h) hFc (fun r' u t H1 locs1 ht hvm hw hB hz1 hk1 hS1 d' hd' => ?_)
  obtain ⟨rfl, hw⟩ := hw
  exact kk u H1 locs1 d' hw (by rw [← ht]; exact hB.1) (hB.2.weaken (fun _ _ _ h => hFc _ h)) hS1 hd'
theorem dcVs (hd : s.drawn.sameBut d lw_cs) (S : CallFix p m c cc nL (s.setDrawn d) args Ts own) (hK : KK g (s.setDrawn d)) (hP : va_P g.1 vwCl w H) (hD : va_D A0 w) (hS : va_S A0 H0 H locs) (hA : ∀ q, H0.size ≤ q → A0 q) (isC isR : List Nat) (hC : isC.map (fun i => w[i]?) = wc.map some) (hR : isR.map (fun i => w[i]?) = wr.map some) (hn1 : va_nd isC = true) (hn2 : va_nd isR = true) (hdis : ∀ i ∈ isR, i ∉ isC)
    (cw : CallW R (s.setDrawn d) args own C index y bytes maxL ret ws rm 0 0 n) (hM : MetDV l y ws rm g (.ref b :: As) wc H.size post w1) (hrecv : ∃ cellB : Cell, H[b]? = some cellB ∧ cellB.vm.isStatics = false ∧ (s.setDrawn d).vm.findClass C = some cellB.cls)
    (hn : As.length = n) (hsize : ls.size = nL) (hst : st0 = As.reverse ++ .ref b :: rest) (hW : (rest.map fun v => v.category).sum ≤ 8) (hdg : decode cc pc = .ok (.invokevirtual index, 3)) (hf : cells ≤ R.cells ∧ slots ≤ R.slots)
    (kk : ∀ (u : φ) (H1 : Heap) (locs1 : List Loc) (d' : Drawn), post u → va_P g.1 vwCl (wr ++ w1 u) H1 → va_D A0 (wr ++ w1 u) → va_S A0 H0 H1 locs1 → s.drawn.sameBut d' lw_cs → W p l e R (s.setDrawn d') m args below meth c H1 locs1 cells slots Q (F0 m (pc + 3) ls rest)) : W p l e R (s.setDrawn d) m args below meth c H locs cells slots Q (F0 m pc ls st0) := by
  have hFc := va_free (wc := wc) hD hS hA isC hC
  have hPc : va_P g.1 vwCl wc H := sub_map hP hC
  have hDc : va_D A0 wc := hD.sub isC hn1 hC
  refine va_callvD hd (va_runV_D (g := F0 m pc ls st0) S hM cw ⟨PreM.blind, hrecv, fun U hU hWm => ⟨rfl, by rw [hU], by rw [hU]; exact hPc, hDc.weaken (fun _ _ _ _ => trivial), hK.warm hWm⟩⟩ rfl hn hsize hst (lv_room hW) hdg hf) hS (fun q _ h => hFc q h) hFc (fun u t H1 locs1 ht hvm hw hB hz1 hk1 hS1 d' hd' => ?_)
  obtain ⟨h1, h2⟩ := va_join (wr := wr) (w1 := w1 u) hP hD isC isR hC hR hn2 hdis hk1 hFc (by rw [← ht]; exact hB.1) hB.2
  exact kk u H1 locs1 d' hw h1 h2 hS1 hd'
theorem dcIs (hd : s.drawn.sameBut d lw_cs) (S : CallFix p m c cc nL (s.setDrawn d) args Ts own) (hK : KK g (s.setDrawn d)) (hP : va_P g.1 vwCl w H) (hD : va_D A0 w) (hS : va_S A0 H0 H locs) (hA : ∀ q, H0.size ≤ q → A0 q) (isC isR : List Nat) (hC : isC.map (fun i => w[i]?) = wc.map some) (hR : isR.map (fun i => w[i]?) = wr.map some) (hn1 : va_nd isC = true) (hn2 : va_nd isR = true) (hdis : ∀ i ∈ isR, i ∉ isC)
    (cw : CallW R (s.setDrawn d) args own C index y bytes maxL ret ws rm 0 0 n) (hM : MetDI l y ws rm g (.ref b :: As) wc H.size r post w1) (hrecv : ∃ cellB : Cell, H[b]? = some cellB ∧ cellB.vm.isStatics = false ∧ (s.setDrawn d).vm.findClass C = some cellB.cls)
    (hn : As.length = n) (hsize : ls.size = nL) (hst : st0 = As.reverse ++ .ref b :: rest) (hW : (rest.map fun v => v.category).sum ≤ 8) (hdg : decode cc pc = .ok (.invokevirtual index, 3)) (hf : cells ≤ R.cells ∧ slots ≤ R.slots)
    (kk : ∀ (u : φ) (H1 : Heap) (locs1 : List Loc) (d' : Drawn), post u → va_P g.1 vwCl (wr ++ w1 u) H1 → va_D A0 (wr ++ w1 u) → va_S A0 H0 H1 locs1 → s.drawn.sameBut d' lw_cs → W p l e R (s.setDrawn d') m args below meth c H1 locs1 cells slots Q (F0 m (pc + 3) ls (.int r :: rest))) : W p l e R (s.setDrawn d) m args below meth c H locs cells slots Q (F0 m pc ls st0) := by
  have hFc := va_free (wc := wc) hD hS hA isC hC
  have hPc : va_P g.1 vwCl wc H := sub_map hP hC
  have hDc : va_D A0 wc := hD.sub isC hn1 hC
  refine va_calliD hd (va_runV_D (g := F0 m pc ls st0) S hM cw ⟨PreM.blind, hrecv, fun U hU hWm => ⟨rfl, by rw [hU], by rw [hU]; exact hPc, hDc.weaken (fun _ _ _ _ => trivial), hK.warm hWm⟩⟩ rfl hn hsize hst (lv_room hW) hdg hf) hS (fun q _ h => hFc q h) hFc (fun r' u t H1 locs1 ht hvm hw hB hz1 hk1 hS1 d' hd' => ?_)
  obtain ⟨rfl, hw⟩ := hw
  obtain ⟨h1, h2⟩ := va_join (wr := wr) (w1 := w1 u) hP hD isC isR hC hR hn2 hdis hk1 hFc (by rw [← ht]; exact hB.1) hB.2
  exact kk u H1 locs1 d' hw h1 h2 hS1 hd'
end DCR
