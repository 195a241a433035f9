/-! ===== 59 all that is led to is found ===== -/
theorem fd_in {h : IA} {m v : Int32} {X : List Int32} (h5 : v ≠ -5) (hb' : bt m (pP h v.toNatClampNeg) = true) : v ∈ fd h m v X := by
  unfold fd
  rw [if_neg h5, if_pos hb']
  split
  · next q => exact q
  · exact List.mem_append_right _ (List.mem_singleton.mpr rfl)
theorem ff_in {h : IA} {m : Int32} {t f : Nat} {X : List Int32} (hf : f < 2) (h5 : h 7 (2 * t + f) ≠ -5) (hb' : bt m (pP h (h 7 (2 * t + f)).toNatClampNeg) = true) : h 7 (2 * t + f) ∈ ff h m t X := by
  rcases (show f = 0 ∨ f = 1 by omega) with rfl | rfl
  · exact fd_sub (fd_in h5 hb')
  · exact fd_in h5 hb'
theorem it_mem {body : Nat → List Int32 → List Int32} {x : Int32} (hsub : ∀ i Y, x ∈ Y → x ∈ body i Y) {j : Nat} (hin : ∀ Y, x ∈ body j Y) : ∀ (n : Nat) (X : List Int32), j < n → x ∈ it body n X := by
  intro n
  induction n with
  | zero => intro X q; omega
  | succ n ih =>
    intro X q
    show x ∈ body n (it body n X)
    by_cases e : j = n
    · rw [← e]; exact hin _
    · exact hsub n _ (ih X (by omega))
theorem it_sub {body : Nat → List Int32 → List Int32} {x : Int32} (hsub : ∀ i Y, x ∈ Y → x ∈ body i Y) : ∀ (n : Nat) (X : List Int32), x ∈ X → x ∈ it body n X := by
  intro n
  induction n with
  | zero => intro X q; exact q
  | succ n ih => intro X q; exact hsub n _ (ih X q)
theorem fdl_sub {h : IA} {m x : Int32} : ∀ (G X : List Int32), x ∈ X → x ∈ fdl h m G X := by
  intro G
  induction G with
  | nil => intro X q; exact q
  | cons v G ih => intro X q; exact ih _ (fd_sub q)
theorem fdl_in {h : IA} {m x : Int32} (h5 : x ≠ -5) (hb' : bt m (pP h x.toNatClampNeg) = true) : ∀ (G X : List Int32), x ∈ G → x ∈ fdl h m G X := by
  intro G
  induction G with
  | nil => intro X q; exact absurd q List.not_mem_nil
  | cons v G ih =>
    intro X q
    rcases List.mem_cons.mp q with e | e
    · show x ∈ fdl h m G (fd h m v X)
      rw [← e]
      exact fdl_sub G _ (fd_in h5 hb')
    · exact ih _ e
theorem mt_sub {h : IA} {m : Int32} {r c : Nat} {X : List Int32} {x : Int32} (q : x ∈ X) : x ∈ mt h m r c X := by
  unfold mt
  split
  · exact q
  · exact ff_sub q
theorem sc1_sub {h : IA} {m : Int32} {card : Nat} {X : List Int32} {x : Int32} (q : x ∈ X) : x ∈ sc1 h m card X := it_sub (fun _ _ w => mt_sub w) 4 X q
theorem scA_sub {h : IA} {m v : Int32} {X : List Int32} {x : Int32} (q : x ∈ X) : x ∈ scA h m v X := it_sub (fun i Y w => by
  split
  · exact sc1_sub w
  · exact w) 20 X q
theorem x0_root {s : HS} {m v : Int32} {r : Nat} (hr : r < 6) (h5 : s.1 9 r ≠ -5) (hb' : bt m (pP s.1 (s.1 9 r).toNatClampNeg) = true) : s.1 9 r ∈ scA s.1 m v (x1st s m) := by
  refine scA_sub (fdl_sub _ _ ?_)
  unfold xr
  exact it_mem (body := fun r X => fd s.1 m (s.1 9 r) X) (fun _ _ w => fd_sub w) (j := r) (fun _ => fd_in h5 hb') 6 [] hr
theorem x0_grey {s : HS} {m v x : Int32} (hx : x ∈ s.2.2) (h5 : x ≠ -5) (hb' : bt m (pP s.1 x.toNatClampNeg) = true) : x ∈ scA s.1 m v (x1st s m) := scA_sub (fdl_in h5 hb' _ _ hx)
theorem x0_card {s : HS} (w : Wf s) (hu : Uq s.1) {m v : Int32} {a f : Nat} (ha : a < 32) (hl : lv s.1 a) (hs : bt v (cdo s.1 a) = true) (hf : f < 2) (h5 : s.1 7 (2 * a + f) ≠ -5) (hb' : bt m (pP s.1 (s.1 7 (2 * a + f)).toNatClampNeg) = true) (X : List Int32) : s.1 7 (2 * a + f) ∈ scA s.1 m v X := by
  have hp := w.pl ha
  have hc := w.ce ha
  have hd := cdo_div w ha
  have hmod : 4 * (cdo s.1 a % 2) + pC s.1 a % 4 = pC s.1 a := by have := hc.2; unfold cdo; omega
  have htat : tat s.1 (cdo s.1 a / 2) (4 * (cdo s.1 a % 2) + pC s.1 a % 4) = some a := by
    rw [hd, hmod]
    cases e : tat s.1 (pP s.1 a) (pC s.1 a) with
    | none => exact absurd ⟨hl, hp.1, hc.1⟩ (tatF_none s.1 _ _ 32 0 e a (by omega) (by omega))
    | some u =>
      have q := tatF_some s.1 _ _ 32 0 u e
      rw [hu u a (by omega) ha q.2.2.1 hl (by rw [q.2.2.2.1, hp.1]) (by rw [q.2.2.2.2, hc.1])]
  unfold scA
  refine it_mem (body := fun card X => if bt v card = true then sc1 s.1 m card X else X) (fun i Y q => ?_) (j := cdo s.1 a) (fun Y => ?_) 20 X (cdo_lt w ha)
  · split
    · exact sc1_sub q
    · exact q
  · rw [if_pos hs]
    unfold sc1
    refine it_mem (body := fun c X => mt s.1 m (cdo s.1 a / 2) (4 * (cdo s.1 a % 2) + c) X) (fun _ _ q => mt_sub q) (j := pC s.1 a % 4) (fun Y => ?_) 4 Y (by omega)
    unfold mt
    rw [htat]
    exact ff_in hf h5 hb'
theorem mvl_sub {h : IA} {m x : Int32} : ∀ (n i : Nat) (z : MS) (X : List Int32), x ∈ X → x ∈ (mvl h m n i (z, X)).2 := by
  intro n
  induction n with
  | zero => intro i z X q; exact q
  | succ n ih =>
    intro i z X q
    unfold mvl
    split
    · exact ih _ _ _ (ff_sub q)
    · exact q
def Cl (h : IA) (m : Int32) (Y : List Int32) (x : Int32) : Prop := ∀ f, f < 2 → h 7 (2 * x.toNatClampNeg + f) ≠ -5 → bt m (pP h (h 7 (2 * x.toNatClampNeg + f)).toNatClampNeg) = true → h 7 (2 * x.toNatClampNeg + f) ∈ Y
theorem mvl_closed {s : HS} (hw : Wf s) {m : Int32} : ∀ (n i : Nat) (z : MS) (X : List Int32), i + n = 32 → FX X → (∀ j, j < i → j < X.length → Cl s.1 m X (X.getD j 0)) → ∀ x, x ∈ (mvl s.1 m n i (z, X)).2 → Cl s.1 m (mvl s.1 m n i (z, X)).2 x := by
  intro n
  induction n with
  | zero =>
    intro i z X hn hx hc x q
    have h32 := hx.len
    obtain ⟨j, hj, e⟩ := List.mem_iff_getElem.mp (show x ∈ X from q)
    have e2 : X.getD j 0 = x := by rw [List.getD_eq_getElem?_getD, List.getElem?_eq_getElem hj]; exact e
    rw [← e2]
    exact hc j (by omega) hj
  | succ n ih =>
    intro i z X hn hx hc
    unfold mvl
    by_cases hi : i < X.length
    · rw [if_pos hi]
      obtain ⟨t, ht, et, ec⟩ := fx_item hx hi
      obtain ⟨Y, eY⟩ := ff_app (h := s.1) (m := m) (t := (X.getD i 0).toNatClampNeg) (X := X)
      refine ih (i + 1) _ _ (by omega) (by rw [ec]; exact fx_ff hw ht hx) (fun j hj hj2 => ?_)
      have hjX : j < X.length := by omega
      have eg : (ff s.1 m (X.getD i 0).toNatClampNeg X).getD j 0 = X.getD j 0 := by
        rw [eY, List.getD_eq_getElem?_getD, List.getElem?_append_left hjX, ← List.getD_eq_getElem?_getD]
      show Cl s.1 m (ff s.1 m (X.getD i 0).toNatClampNeg X) ((ff s.1 m (X.getD i 0).toNatClampNeg X).getD j 0)
      rw [eg]
      by_cases e : j = i
      · subst e
        intro f hf h5 hb'
        exact ff_in hf h5 hb'
      · intro f hf h5 hb'
        exact ff_sub (hc j (by omega) hjX f hf h5 hb')
    · rw [if_neg hi]
      intro x q
      obtain ⟨j, hj, e⟩ := List.mem_iff_getElem.mp (show x ∈ X from q)
      have e2 : X.getD j 0 = x := by rw [List.getD_eq_getElem?_getD, List.getElem?_eq_getElem hj]; exact e
      rw [← e2]
      exact hc j (by omega) hj
/-! dirty cards -/
theorem mem_foldl_addD {g : Int32 → Nat} {y : Int32} : ∀ (X D : List Int32), (y ∈ X.foldl (fun D x => addD (g x) D) D ↔ y ∈ D ∨ ∃ x, x ∈ X ∧ y = nI (g x)) := by
  intro X
  induction X with
  | nil => intro D; exact ⟨Or.inl, fun q => q.elim id (fun ⟨x, hx, _⟩ => absurd hx List.not_mem_nil)⟩
  | cons v X ih =>
    intro D
    show y ∈ X.foldl (fun D x => addD (g x) D) (addD (g v) D) ↔ _
    rw [ih, mem_addD]
    constructor
    · rintro ((q | q) | ⟨x, hx, e⟩)
      · exact Or.inl q
      · exact Or.inr ⟨v, List.mem_cons_self, q⟩
      · exact Or.inr ⟨x, List.mem_cons_of_mem _ hx, e⟩
    · rintro (q | ⟨x, hx, e⟩)
      · exact Or.inl (Or.inl q)
      · rcases List.mem_cons.mp hx with w | w
        · exact Or.inl (Or.inr (by rw [← w]; exact e))
        · exact Or.inr ⟨x, w, e⟩
theorem dX_mem {X : List Int32} {s : HS} {x : Int32} (hx : x ∈ X) : nI (cdo s.1 x.toNatClampNeg) ∈ (dX X s).2.1 := (mem_foldl_addD X s.2.1).mpr (Or.inr ⟨x, hx, rfl⟩)
theorem dC_all (v : Int32) (s : HS) : (dC v s).1 = s.1 ∧ (dC v s).2.2 = s.2.2 ∧ (∀ x, x ∈ s.2.1 → x ∈ (dC v s).2.1) ∧ ∀ c, c < 20 → bt v c = true → nI c ∈ (dC v s).2.1 := by
  unfold dC
  have key := it_inv (body := dC1 v) (s := s) (fun n (q : HS) => q.1 = s.1 ∧ q.2.2 = s.2.2 ∧ (∀ x, x ∈ s.2.1 → x ∈ q.2.1) ∧ ∀ c, c < n → bt v c = true → nI c ∈ q.2.1) 20 ⟨rfl, rfl, fun _ q => q, fun c hc => absurd hc (Nat.not_lt_zero c)⟩ ?_
  · exact key
  · rintro n q hn ⟨a, b, c, d⟩
    unfold dC1
    by_cases hb' : bt v n = true
    · rw [if_pos hb']
      refine ⟨a, b, fun x hx => mem_addD.mpr (Or.inl (c x hx)), fun k hk hbk => ?_⟩
      by_cases e : k = n
      · exact mem_addD.mpr (Or.inr (by rw [e]))
      · exact mem_addD.mpr (Or.inl (d k (by omega) hbk))
    · rw [if_neg hb']
      refine ⟨a, b, c, fun k hk hbk => ?_⟩
      by_cases e : k = n
      · rw [e] at hbk; exact absurd hbk hb'
      · exact d k (by omega) hbk
