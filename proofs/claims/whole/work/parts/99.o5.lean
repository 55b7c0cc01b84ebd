/-! the class's constructor -/
theorem run61 : mcall 20 3000 61 [.ref 0] [mnew 8] = some (none, hC0) := f_run mz_new mz_C0 (by decide +kernel)
