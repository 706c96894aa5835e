/-- an entry of a boolean row, where it is 0 or 1 -/
def ldZ (μ : Mem) (k n : Nat) (i : Int32) : Option Int32 := (ldI μ k n i).bind fun v => if v = 0 ∨ v = 1 then some v else none
theorem ldZ_I {μ : Mem} {k n : Nat} {i v : Int32} (h : ldZ μ k n i = some v) : ldI μ k n i = some v ∧ narrow .boolean (.int v) = .int v := by
  obtain ⟨w, h1, h2⟩ := op_none h
  split at h2
  · rename_i hz
    cases h2
    refine ⟨h1, ?_⟩
    rcases hz with rfl | rfl <;> decide
  · cases h2
