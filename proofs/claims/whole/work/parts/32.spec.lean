/-! ===== 32 THE HEAP AS BOTH SIDES SEE IT: rows 0-9, 12, 13, 16, 17, and the two rows of numbers as lists ===== -/
abbrev HS : Type := IA × List Int32 × List Int32
def CR (A : IA) (s : HS) : Prop := (∀ k j, j < wid k → A k j = s.1 k j) ∧ RowR (A 10) (A 18 0) s.2.1 ∧ RowR (A 11) (A 19 0) s.2.2
def MR (S : Nat → Int32) (s : HS) : Prop := (∀ k j, j < wid k → (k = 7 → ¬ s.1 4 (j / 2) ≤ 0) → S (lc k j) = s.1 k j) ∧ (RowS S 238 258 s.2.1 ∧ s.2.1.length ≤ 20) ∧ (RowS S 259 291 s.2.2 ∧ s.2.2.length ≤ 32)
/-- the reference's other rows stay -/
def Fr (M N : IA) : Prop := ∀ k, k ≠ 1 → N k = M k
theorem Fr.refl (M : IA) : Fr M M := fun _ _ => rfl
theorem Fr.trans {M N K : IA} (h : Fr M N) (h2 : Fr N K) : Fr M K := fun k hk => by rw [h2 k hk, h k hk]
theorem fr_wr (M : IA) (n : Nat) (v : Int32) : Fr M (wr M 1 n v) := fun k hk => by unfold wr; rw [setR_ne _ _ hk]
theorem wr_row (A : IA) (k j : Nat) (v : Int32) : wr A k j v k = upd (A k) j v := by unfold wr; rw [setR_same]
theorem wr_row_ne (A : IA) {k a : Nat} (j : Nat) (v : Int32) (h : a ≠ k) : wr A k j v a = A a := by unfold wr; rw [setR_ne _ _ h]
theorem sc_row_ne (A : IA) {k a : Nat} (v : Int32) (h : a ≠ k) : sc A k v a = A a := by unfold sc; rw [setR_ne _ _ h]
theorem sc_same (A : IA) (k : Nat) (v : Int32) (i : Nat) : sc A k v k i = v := by rw [sc_at, if_pos rfl]
theorem upd_at (f : Nat → Int32) (j : Nat) (v : Int32) (i : Nat) : upd f j v i = if i = j then v else f i := by unfold upd; rfl
theorem cr_wr {A : IA} {s : HS} (h : CR A s) {k j : Nat} (hj : j < wid k) (v : Int32) : CR (wr A k j v) (wr s.1 k j v, s.2) := by
  have hk := wid_ne hj
  refine ⟨fun a b hb => ?_, ?_, ?_⟩
  · show wr A k j v a b = wr s.1 k j v a b
    rw [wr_at, wr_at, h.1 a b hb]
  · rw [wr_row_ne A j v (fun q => hk.1 q.symm), wr_row_ne A j v (fun q => hk.2.2.1 q.symm)]; exact h.2.1
  · rw [wr_row_ne A j v (fun q => hk.2.1 q.symm), wr_row_ne A j v (fun q => hk.2.2.2 q.symm)]; exact h.2.2
theorem cr_sc {A : IA} {s : HS} (h : CR A s) {k : Nat} (hj : wid k = 1) (v : Int32) : CR (sc A k v) (wr s.1 k 0 v, s.2) := by
  have hk := wid_ne (show 0 < wid k by omega)
  refine ⟨fun a b hb => ?_, ?_, ?_⟩
  · show sc A k v a b = wr s.1 k 0 v a b
    rw [wr_at, sc_at]
    by_cases e : a = k
    · subst e
      rw [if_pos rfl, if_pos ⟨rfl, by omega⟩]
    · rw [if_neg e, if_neg (fun q => e q.1), h.1 a b hb]
  · rw [sc_row_ne A v (fun q => hk.1 q.symm), sc_row_ne A v (fun q => hk.2.2.1 q.symm)]; exact h.2.1
  · rw [sc_row_ne A v (fun q => hk.2.1 q.symm), sc_row_ne A v (fun q => hk.2.2.2 q.symm)]; exact h.2.2
theorem cr_dirty {A : IA} {s : HS} (h : CR A s) {f : Nat → Int32} {n : Int32} {D : List Int32} (hr : RowR f n D) : CR (sc (setR A 10 f) 18 n) (s.1, D, s.2.2) := by
  refine ⟨fun a b hb => ?_, ?_, ?_⟩
  · have hk := wid_ne hb
    show sc (setR A 10 f) 18 n a b = s.1 a b
    rw [sc_row_ne _ _ hk.2.2.1, setR_ne _ _ hk.1, h.1 a b hb]
  · rw [sc_row_ne _ _ (by decide), setR_same, sc_same]; exact hr
  · rw [sc_row_ne _ _ (by decide), setR_ne _ _ (by decide), sc_row_ne _ _ (by decide), setR_ne _ _ (by decide)]; exact h.2.2
theorem cr_grey {A : IA} {s : HS} (h : CR A s) {f : Nat → Int32} {n : Int32} {G : List Int32} (hr : RowR f n G) : CR (sc (setR A 11 f) 19 n) (s.1, s.2.1, G) := by
  refine ⟨fun a b hb => ?_, ?_, ?_⟩
  · have hk := wid_ne hb
    show sc (setR A 11 f) 19 n a b = s.1 a b
    rw [sc_row_ne _ _ hk.2.2.2, setR_ne _ _ hk.2.1, h.1 a b hb]
  · rw [sc_row_ne _ _ (by decide), setR_ne _ _ (by decide), sc_row_ne _ _ (by decide), setR_ne _ _ (by decide)]; exact h.2.1
  · rw [sc_row_ne _ _ (by decide), setR_same, sc_same]; exact hr
theorem MR.rd {S : Nat → Int32} {s : HS} (h : MR S s) {k j : Nat} (hj : j < wid k) (hk : k ≠ 7) : S (lc k j) = s.1 k j := h.1 k j hj (fun q => absurd q hk)
theorem mr_updg {S : Nat → Int32} {s : HS} (h : MR S s) {k j : Nat} (hj : j < wid k) (v : Int32) (hl : ∀ b, b < 64 → ¬ wr s.1 k j v 4 (b / 2) ≤ 0 → S (lc 7 b) = s.1 7 b ∨ (k = 7 ∧ b = j)) : MR (upd S (lc k j) v) (wr s.1 k j v, s.2) := by
  have hb := lc_back hj
  refine ⟨fun a b hab hlb => ?_, ⟨⟨?_, fun i hi => ?_⟩, h.2.1.2⟩, ⟨⟨?_, fun i hi => ?_⟩, h.2.2.2⟩⟩
  · show upd S (lc k j) v (lc a b) = wr s.1 k j v a b
    rw [upd_at, wr_at]
    by_cases e : a = k ∧ b = j
    · rw [if_pos e, if_pos (by rw [e.1, e.2])]
    · rw [if_neg e, if_neg (fun q => e (lc_inj hab hj q))]
      by_cases e7 : a = 7
      · subst e7
        rcases hl b hab (hlb rfl) with q | q
        · exact q
        · exact absurd ⟨q.1.symm, q.2⟩ e
      · exact h.rd hab e7
  · rw [upd_at, if_neg (by omega)]; exact h.2.1.1.1
  · have := h.2.1.2
    have hi2 : i < s.2.1.length := hi
    rw [upd_at, if_neg (by omega)]; exact h.2.1.1.2 i hi
  · rw [upd_at, if_neg (by omega)]; exact h.2.2.1.1
  · have := h.2.2.2
    have hi2 : i < s.2.2.length := hi
    rw [upd_at, if_neg (by omega)]; exact h.2.2.1.2 i hi
theorem mr_upd {S : Nat → Int32} {s : HS} (h : MR S s) {k j : Nat} (hj : j < wid k) (h4 : k ≠ 4) (v : Int32) : MR (upd S (lc k j) v) (wr s.1 k j v, s.2) :=
  mr_updg h hj v (fun b hb' hlb => Or.inl (h.1 7 b hb' (fun _ => by rw [wr_row_ne _ _ _ (fun q => h4 q.symm)] at hlb; exact hlb)))
/-- a thing ends: nothing is asked of its fields any more -/
theorem mr_zero {S : Nat → Int32} {s : HS} (h : MR S s) {t : Nat} (ht : t < 32) : MR (upd S (lc 4 t) 0) (wr s.1 4 t 0, s.2) :=
  mr_updg h (show t < wid 4 from ht) 0 (fun b hb' hlb => by
    rw [wr_at] at hlb
    by_cases e : b / 2 = t
    · rw [if_pos ⟨rfl, e⟩] at hlb; exact absurd (by decide) hlb
    · rw [if_neg (fun q => e q.2)] at hlb; exact Or.inl (h.1 7 b hb' (fun _ => hlb)))
/-- the fields of a thing that isn't there -/
theorem mr_dead0 {S : Nat → Int32} {s : HS} (h : MR S s) {j : Nat} (hd : s.1 4 (j / 2) ≤ 0) (v : Int32) : MR S (wr s.1 7 j v, s.2) := by
  refine ⟨fun a b hab hlb => ?_, h.2⟩
  show S (lc a b) = wr s.1 7 j v a b
  have hlb2 : a = 7 → ¬ s.1 4 (b / 2) ≤ 0 := hlb
  by_cases e : a = 7 ∧ b = j
  · exact absurd (by rw [e.2]; exact hd) (hlb2 e.1)
  · rw [wr_at, if_neg e]; exact h.1 a b hab hlb2
theorem mr_wr {M : IA} {s : HS} (h : MR (M 1) s) {k j n : Nat} (hj : j < wid k) (hn : n = lc k j) (v : Int32) (h4 : k ≠ 4 := by decide) : MR (wr M 1 n v 1) (wr s.1 k j v, s.2) := by
  subst hn
  rw [wr_row]; exact mr_upd h hj h4 v
theorem mr_dirty {M N : IA} {s : HS} (h : MR (M 1) s) {D : List Int32} (hr : RowS (N 1) 238 258 D) (hl : D.length ≤ 20) (hf : ∀ n, n ≠ 258 → (n < 238 ∨ 258 < n) → N 1 n = M 1 n) : MR (N 1) (s.1, D, s.2.2) := by
  refine ⟨fun a b hab hlb => ?_, ⟨hr, hl⟩, ⟨⟨?_, fun i hi => ?_⟩, h.2.2.2⟩⟩
  · have hb := lc_back hab
    rw [hf _ (by omega) (by omega)]; exact h.1 a b hab hlb
  · rw [hf _ (by omega) (by omega)]; exact h.2.2.1.1
  · rw [hf _ (by omega) (by omega)]; exact h.2.2.1.2 i hi
theorem mr_grey {M N : IA} {s : HS} (h : MR (M 1) s) {G : List Int32} (hr : RowS (N 1) 259 291 G) (hl : G.length ≤ 32) (hf : ∀ n, n ≠ 291 → (n < 259 ∨ 291 < n) → N 1 n = M 1 n) : MR (N 1) (s.1, s.2.1, G) := by
  refine ⟨fun a b hab hlb => ?_, ⟨⟨?_, fun i hi => ?_⟩, h.2.1.2⟩, ⟨hr, hl⟩⟩
  · have hb := lc_back hab
    rw [hf _ (by omega) (by omega)]; exact h.1 a b hab hlb
  · rw [hf _ (by omega) (by omega)]; exact h.2.1.1.1
  · have h2 : i < s.2.1.length := hi
    have := h.2.1.2
    rw [hf _ (by omega) (by omega)]; exact h.2.1.1.2 i hi
/-! what each side reads -/
theorem mul6 (t w : Nat) : (6 : Int32) * nI t + nI w = nI (6 * t + w) := by rw [show (6 : Int32) = nI 6 from rfl, pk_mul, nI_add]
theorem mul4 (t w : Nat) : (198 : Int32) + 4 * nI t + nI w = nI (198 + 4 * t + w) := by rw [show (4 : Int32) = nI 4 from rfl, show (198 : Int32) = nI 198 from rfl, pk_mul, nI_add, nI_add]
theorem mul2 (t w : Nat) : (2 : Int32) * nI t + nI w = nI (2 * t + w) := by rw [show (2 : Int32) = nI 2 from rfl, pk_mul, nI_add]
theorem ofThing_at {M : IA} {t w : Nat} (ht : t < 32) (hw : w < 6) : sX7_ofThing M (nI t) (nI w) = some (M 1 (6 * t + w)) := by
  unfold sX7_ofThing
  rw [mul6, ck_nI (by omega) (by omega), nI_clamp (by omega)]
theorem ofRegion_at {M : IA} {r w : Nat} (hr : r < 10) (hw : w < 4) : sX7_ofRegion M (nI r) (nI w) = some (M 1 (198 + 4 * r + w)) := by
  unfold sX7_ofRegion
  rw [mul4, ck_nI (by omega) (by omega), nI_clamp (by omega)]
theorem setsRegion_at {M : IA} {r w : Nat} (hr : r < 10) (hw : w < 4) (v : Int32) : sX7_setsRegion M (nI r) (nI w) v = some (wr M 1 (198 + 4 * r + w) v) := by
  unfold sX7_setsRegion
  rw [mul4, ck_nI (by omega) (by omega), nI_clamp (by omega)]
  rfl
theorem w_th {k t : Nat} (h : t < 32) (h1 : 4 ≤ k) (h2 : k < 9) (h3 : k ≠ 7) : t < wid k := by
  unfold wid
  rw [if_neg (by omega), if_neg h3, if_pos h2]; exact h
theorem w_rg {k r : Nat} (h : r < 10) (h1 : k < 4) : r < wid k := by
  unfold wid
  rw [if_pos h1]; exact h
theorem w_fd {i : Nat} (h : i < 64) : i < wid 7 := h
theorem w_rt {i : Nat} (h : i < 6) : i < wid 9 := h
theorem m_sz {M : IA} {s : HS} (h : MR (M 1) s) {t : Nat} (ht : t < 32) : sX7_ofThing M (nI t) 0 = some (s.1 4 t) := (ofThing_at (w := 0) ht (by omega)).trans (congrArg some (h.rd (k := 4) (w_th ht (by omega) (by omega) (by omega)) (by decide)))
theorem m_pl {M : IA} {s : HS} (h : MR (M 1) s) {t : Nat} (ht : t < 32) : sX7_ofThing M (nI t) 1 = some (s.1 5 t) := (ofThing_at (w := 1) ht (by omega)).trans (congrArg some (h.rd (k := 5) (w_th ht (by omega) (by omega) (by omega)) (by decide)))
theorem m_cl {M : IA} {s : HS} (h : MR (M 1) s) {t : Nat} (ht : t < 32) : sX7_ofThing M (nI t) 2 = some (s.1 6 t) := (ofThing_at (w := 2) ht (by omega)).trans (congrArg some (h.rd (k := 6) (w_th ht (by omega) (by omega) (by omega)) (by decide)))
theorem m_co {M : IA} {s : HS} (h : MR (M 1) s) {t : Nat} (ht : t < 32) : sX7_ofThing M (nI t) 5 = some (s.1 8 t) := (ofThing_at (w := 5) ht (by omega)).trans (congrArg some (h.rd (k := 8) (w_th ht (by omega) (by omega) (by omega)) (by decide)))
theorem lc_fd {t f : Nat} (hf : f < 2) : lc 7 (2 * t + f) = 6 * t + (3 + f) := by
  show 6 * ((2 * t + f) / 2) + 3 + (2 * t + f) % 2 = 6 * t + (3 + f)
  omega
theorem m_fd {M : IA} {s : HS} (h : MR (M 1) s) {t f : Nat} (ht : t < 32) (hf : f < 2) (hl : ¬ s.1 4 t ≤ 0) : sX7_ofThing M (nI t) (3 + nI f) = some (s.1 7 (2 * t + f)) := by
  rw [show (3 : Int32) + nI f = nI (3 + f) from nI_add 3 f, ofThing_at ht (by omega), ← lc_fd hf, h.1 7 _ (w_fd (by omega)) (fun _ => by rw [show (2 * t + f) / 2 = t by omega]; exact hl)]
theorem m_f0 {M : IA} {s : HS} (h : MR (M 1) s) {t : Nat} (ht : t < 32) (hl : ¬ s.1 4 t ≤ 0) : sX7_ofThing M (nI t) 3 = some (s.1 7 (2 * t)) := m_fd h ht (f := 0) (by omega) hl
theorem m_f1 {M : IA} {s : HS} (h : MR (M 1) s) {t : Nat} (ht : t < 32) (hl : ¬ s.1 4 t ≤ 0) : sX7_ofThing M (nI t) 4 = some (s.1 7 (2 * t + 1)) := m_fd h ht (f := 1) (by omega) hl
theorem m_rg {M : IA} {s : HS} (h : MR (M 1) s) {r k : Nat} (hr : r < 10) (hk : k < 4) : sX7_ofRegion M (nI r) (nI k) = some (s.1 k r) := by
  rw [ofRegion_at hr hk, ← h.rd (w_rg hr hk) (show k ≠ 7 by omega)]
  unfold lc
  rw [if_pos hk]
theorem m_kd {M : IA} {s : HS} (h : MR (M 1) s) {r : Nat} (hr : r < 10) : sX7_ofRegion M (nI r) 0 = some (s.1 0 r) := m_rg h hr (k := 0) (by omega)
theorem m_tp {M : IA} {s : HS} (h : MR (M 1) s) {r : Nat} (hr : r < 10) : sX7_ofRegion M (nI r) 1 = some (s.1 1 r) := m_rg h hr (k := 1) (by omega)
theorem m_lv {M : IA} {s : HS} (h : MR (M 1) s) {r : Nat} (hr : r < 10) : sX7_ofRegion M (nI r) 2 = some (s.1 2 r) := m_rg h hr (k := 2) (by omega)
theorem m_mm {M : IA} {s : HS} (h : MR (M 1) s) {r : Nat} (hr : r < 10) : sX7_ofRegion M (nI r) 3 = some (s.1 3 r) := m_rg h hr (k := 3) (by omega)
theorem m_set {M : IA} {s : HS} (h : MR (M 1) s) {r k : Nat} (hr : r < 10) (hk : k < 4) (v : Int32) : ∃ N, sX7_setsRegion M (nI r) (nI k) v = some N ∧ MR (N 1) (wr s.1 k r v, s.2) ∧ Fr M N :=
  ⟨_, setsRegion_at hr hk v, mr_wr h (w_rg hr hk) (by unfold lc; rw [if_pos hk]) v (by omega), fr_wr _ _ _⟩
theorem m_root {M : IA} {s : HS} (h : MR (M 1) s) {r : Nat} (hr : r < 6) : M 1 (192 + r) = s.1 9 r := h.rd (k := 9) (w_rt hr) (by decide)
theorem m_mk {M : IA} {s : HS} (h : MR (M 1) s) : M 1 (Int32.toNatClampNeg 292) = s.1 12 0 := h.rd (k := 12) (j := 0) (by decide) (by decide)
theorem m_pc {M : IA} {s : HS} (h : MR (M 1) s) : M 1 (Int32.toNatClampNeg 293) = s.1 16 0 := h.rd (k := 16) (j := 0) (by decide) (by decide)
theorem m_ct {M : IA} {s : HS} (h : MR (M 1) s) : M 1 (Int32.toNatClampNeg 294) = s.1 17 0 := h.rd (k := 17) (j := 0) (by decide) (by decide)
theorem m_ly {M : IA} {s : HS} (h : MR (M 1) s) : M 1 (Int32.toNatClampNeg 295) = s.1 13 0 := h.rd (k := 13) (j := 0) (by decide) (by decide)
theorem m_dn {M : IA} {s : HS} (h : MR (M 1) s) : M 1 (Int32.toNatClampNeg 258) = nI s.2.1.length := h.2.1.1.1
theorem m_gn {M : IA} {s : HS} (h : MR (M 1) s) : M 1 (Int32.toNatClampNeg 291) = nI s.2.2.length := h.2.2.1.1
/-! a thing is there -/
theorem c_there {A : IA} {s : HS} (h : CR A s) {t : Nat} (ht : t < 32) : sX1_isThere A (nI t) = some (if s.1 4 t ≤ 0 then 0 else 1) := by
  unfold sX1_isThere
  rw [ck_nI ht (by omega), nI_clamp (by omega), h.1 4 t (w_th ht (by omega) (by omega) (by omega)), some_ite]
theorem in_nI {t lo hi : Nat} (hh : hi < 2 ^ 31) (ht : t < 2 ^ 31) (hlo : lo < 2 ^ 31) : sX7_in (nI t) (nI lo) (nI hi) = some (if lo ≤ t ∧ t ≤ hi then 1 else 0) := by
  unfold sX7_in
  by_cases h1 : t < lo
  · rw [if_pos (nI_lt h1 hlo), if_neg (by omega)]
  · rw [if_neg (nI_nlt (by omega) ht)]
    by_cases h2 : hi < t
    · rw [if_pos (nI_lt h2 ht), if_neg (by omega)]
    · rw [if_neg (nI_nlt (by omega) hh), if_pos (by omega)]
theorem m_there {M : IA} {s : HS} (h : MR (M 1) s) {t : Nat} (ht : t < 32) : sX7_isThing M (nI t) = some (if s.1 4 t ≤ 0 then 0 else 1) := by
  unfold sX7_isThing
  rw [show sX7_in (nI t) 0 31 = some (if 0 ≤ t ∧ t ≤ 31 then 1 else 0) from in_nI (lo := 0) (hi := 31) (by omega) (by omega) (by omega), if_pos (show 0 ≤ t ∧ t ≤ 31 by omega), bind_s, if_neg (by decide), show (6 : Int32) * nI t + 0 = nI (6 * t + 0) from mul6 t 0, ck_nI (by omega) (by omega), nI_clamp (by omega), show M 1 (6 * t + 0) = s.1 4 t from h.rd (k := 4) (w_th ht (by omega) (by omega) (by omega)) (by decide), some_ite]
theorem c_in {A : IA} {s : HS} (h : CR A s) {t : Nat} (ht : t < 32) (r : Int32) : sX1_isIn A (nI t) r = some (if s.1 4 t ≤ 0 then 0 else if s.1 5 t = r then 1 else 0) := by
  unfold sX1_isIn
  rw [c_there h ht, bind_s, ite01, ck_nI ht (by omega), nI_clamp (by omega), h.1 5 t (w_th ht (by omega) (by omega) (by omega)), some_ite, some_ite]
theorem c_fd {A : IA} {s : HS} (h : CR A s) {t f : Nat} (ht : t < 32) (hf : f < 2) : sX1_fieldOf A (nI t) (nI f) = some (s.1 7 (2 * t + f)) := by
  unfold sX1_fieldOf
  rw [mul2, ck_nI (by omega) (by omega), nI_clamp (by omega), h.1 7 _ (w_fd (by omega))]
theorem c_f0 {A : IA} {s : HS} (h : CR A s) {t : Nat} (ht : t < 32) : sX1_fieldOf A (nI t) 0 = some (s.1 7 (2 * t)) := c_fd h ht (f := 0) (by omega)
theorem c_f1 {A : IA} {s : HS} (h : CR A s) {t : Nat} (ht : t < 32) : sX1_fieldOf A (nI t) 1 = some (s.1 7 (2 * t + 1)) := c_fd h ht (f := 1) (by omega)
/-! ranges -/
def Rg (n : Nat) (v : Int32) : Prop := ∃ j, j < n ∧ v = nI j
def Nl (v : Int32) : Prop := v = -5 ∨ Rg 32 v
theorem Rg.cl {n : Nat} {v : Int32} (h : Rg n v) (hn : n ≤ 2147483648) : v.toNatClampNeg < n ∧ v = nI v.toNatClampNeg := by
  obtain ⟨j, hj, rfl⟩ := h
  rw [nI_clamp (by omega)]; exact ⟨hj, rfl⟩
/-- what holds of all numbers in a heap -/
def Wf (s : HS) : Prop :=
  (∀ t, t < 32 → Rg 25 (s.1 4 t) ∧ Rg 10 (s.1 5 t) ∧ Rg 8 (s.1 6 t) ∧ Rg 3 (s.1 8 t)) ∧ (∀ i, i < 64 → Nl (s.1 7 i)) ∧ (∀ r, r < 6 → Nl (s.1 9 r)) ∧
  (∀ x, x ∈ s.2.1 → Rg 20 x) ∧ s.2.1.Nodup ∧ (∀ x, x ∈ s.2.2 → Rg 32 x) ∧ s.2.2.Nodup ∧ ∀ x, x ∈ s.2.2 → s.1 8 x.toNatClampNeg = 1
/-- region, cell, card of a thing -/
def pP (h : IA) (t : Nat) : Nat := (h 5 t).toNatClampNeg
def pC (h : IA) (t : Nat) : Nat := (h 6 t).toNatClampNeg
def cdo (h : IA) (t : Nat) : Nat := 2 * pP h t + pC h t / 4
theorem Wf.pl {s : HS} (h : Wf s) {t : Nat} (ht : t < 32) : s.1 5 t = nI (pP s.1 t) ∧ pP s.1 t < 10 := ⟨((h.1 t ht).2.1.cl (by omega)).2, ((h.1 t ht).2.1.cl (by omega)).1⟩
theorem Wf.ce {s : HS} (h : Wf s) {t : Nat} (ht : t < 32) : s.1 6 t = nI (pC s.1 t) ∧ pC s.1 t < 8 := ⟨((h.1 t ht).2.2.1.cl (by omega)).2, ((h.1 t ht).2.2.1.cl (by omega)).1⟩
theorem c_card {A : IA} {s : HS} (h : CR A s) (w : Wf s) {t : Nat} (ht : t < 32) : sX1_cardOfThing A (nI t) = some (nI (cdo s.1 t)) := by
  unfold sX1_cardOfThing sX6_cardOf
  rw [ck_nI ht (by omega), ck_nI ht (by omega), nI_clamp (by omega), h.1 5 t (w_th ht (by omega) (by omega) (by omega)), h.1 6 t (w_th ht (by omega) (by omega) (by omega)), bind_s, (w.pl ht).1, (w.ce ht).1, show nI (pC s.1 t) / (4 : Int32) = nI (pC s.1 t / 4) from pk_div (d := 4) (by have := (w.ce ht).2; omega) (by omega) (by omega), mul2]
  rfl
theorem m_card {M : IA} {s : HS} (h : MR (M 1) s) (w : Wf s) {t : Nat} (ht : t < 32) : sX7_cardOf M (nI t) = some (nI (cdo s.1 t)) := by
  unfold sX7_cardOf
  have hc := (w.ce ht).2
  rw [m_pl h ht, bind_s, m_cl h ht, bind_s, (w.pl ht).1, (w.ce ht).1]
  by_cases h3 : pC s.1 t ≤ 3
  · rw [if_pos (show nI (pC s.1 t) ≤ (3 : Int32) from nI_le (b := 3) h3 (by omega)), show (2 : Int32) * nI (pP s.1 t) + 0 = nI (2 * pP s.1 t + 0) from mul2 _ 0]
    unfold cdo
    rw [show pC s.1 t / 4 = 0 by omega]
  · rw [if_neg (show ¬ nI (pC s.1 t) ≤ (3 : Int32) from nI_ge (a := 3) (by omega) (by omega)), show (2 : Int32) * nI (pP s.1 t) + 1 = nI (2 * pP s.1 t + 1) from mul2 _ 1]
    unfold cdo
    rw [show pC s.1 t / 4 = 1 by omega]
theorem cdo_lt {s : HS} (w : Wf s) {t : Nat} (ht : t < 32) : cdo s.1 t < 20 := by
  have := (w.pl ht).2
  have := (w.ce ht).2
  unfold cdo
  omega
theorem c_on {A : IA} {s : HS} (h : CR A s) (w : Wf s) {t : Nat} (ht : t < 32) (r : Int32) : sX1_isOn A (nI t) r = some (if s.1 4 t ≤ 0 then 0 else if nI (cdo s.1 t) = r then 1 else 0) := by
  unfold sX1_isOn
  rw [c_there h ht, bind_s, ite01, c_card h w ht, bind_s, some_ite, some_ite]
