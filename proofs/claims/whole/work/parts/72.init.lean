/-! ===== 72 the start ===== -/
theorem ms0_all : ∀ k, k < 18 → ∀ j, j < 64 → j < wid k → k ≠ 7 → mS0 (lc k j) = hA0 k j := by decide +kernel
theorem ha0_dead (t : Nat) : ¬ lv hA0 t := fun q => q (by show (0 : Int32) ≤ 0; decide)
theorem inv_start : Inv (hA0, [], []) := by
  refine ⟨⟨⟨fun t ht => ⟨⟨0, by omega, rfl⟩, ⟨0, by omega, rfl⟩, ⟨0, by omega, rfl⟩, ⟨0, by omega, rfl⟩⟩, fun i hi => Or.inl (if_pos hi : (if i < 64 then (-5 : Int32) else _) = -5), fun i hi => Or.inl (if_pos hi : (if i < 6 then (-5 : Int32) else _) = -5), fun x hx => absurd hx List.not_mem_nil, List.nodup_nil, fun x hx => absurd hx List.not_mem_nil, List.nodup_nil, fun x hx => absurd hx List.not_mem_nil⟩, fun r hr => ⟨⟨0, by omega, rfl⟩, ⟨0, by omega, rfl⟩, Or.inl (if_pos hr : (if r < 10 then (-9 : Int32) else _) = -9), M20.zero, fun _ => rfl⟩, fun t _ hl => absurd hl (ha0_dead t), fun t u _ _ hl _ _ _ => absurd hl (ha0_dead t), ⟨fun i hi => Or.inl (if_pos hi : (if i < 64 then (-5 : Int32) else _) = -5), fun i hi => Or.inl (if_pos hi : (if i < 6 then (-5 : Int32) else _) = -5), fun x hx => absurd hx List.not_mem_nil⟩, Or.inl ⟨rfl, rfl⟩, Or.inl rfl⟩, fun t _ hl => absurd hl (ha0_dead t), fun q => absurd (show (0 : Int32) = 1 from q) (by decide)⟩
theorem now_start : Cq hA0 hF0 (mA0 1) (mF0 2 0) (mF0 2 1) := by
  refine ⟨(hA0, [], []), ⟨fun _ _ _ => rfl, ⟨rfl, Nat.zero_le _, fun i hi => absurd hi (Nat.not_lt_zero i)⟩, ⟨rfl, Nat.zero_le _, fun i hi => absurd hi (Nat.not_lt_zero i)⟩⟩, ⟨fun k j hj hl => ?_, ⟨⟨rfl, fun i hi => absurd hi (Nat.not_lt_zero i)⟩, Nat.zero_le _⟩, ⟨⟨rfl, fun i hi => absurd hi (Nat.not_lt_zero i)⟩, Nat.zero_le _⟩⟩, inv_start, rfl, rfl⟩
  by_cases h7 : k = 7
  · exact absurd (hl h7) (ha0_dead (j / 2))
  · exact ms0_all k (wid_lt hj).1 j (wid_lt hj).2 hj h7
theorem rl_start : Rl ((fun _ => 0), 0, 0, 0, (fun _ _ => 0), (fun _ _ => 0), (fun _ _ => 0), 0, 0, (fun _ => hA0), (fun _ => hF0)) mA0 mF0 :=
  ⟨now_start, ⟨0, 0, by omega, by omega, rfl, rfl, rfl, fun j hj => absurd hj (Nat.not_lt_zero j)⟩, fun i _ => Or.inl ⟨rfl, rfl⟩⟩
