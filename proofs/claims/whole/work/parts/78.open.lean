/-! ===== 78 what is still open ===== -/
theorem op_rubbish : OP_rubbish Rl := by
  sorry
theorem op_way : OP_way Rl := by
  sorry
