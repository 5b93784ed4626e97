/-- the launch has no stack traces -/
theorem no_trace {l : Launch} {e : Env} (hf : l.flags = flags0) (ha : l.admits e) : e.platform.stackTraces = false := by
  have h1 : l.stackTraces = false := by
    unfold Launch.stackTraces
    rw [hf]
    decide +kernel
  rw [ha.platform]
  exact h1
