/-! the constructors, run by the kernel -/
theorem t113 : (match mcall 10 3000 113 [.ref 0] [mnew 9] with | some (none, h) => h.length == 23 | _ => false) = true := by decide +kernel
