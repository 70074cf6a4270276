/-- the laws of floats stand in the rest of the library: this row, first of all, sends the rounds there at once -/
theorem wd_probe {A B M : Nat} (hB : 0 < B) (h : M * B ≤ A) : M ≤ FP.Core.nearest A B := FP.Core.nearest_ge hB h
