/-- a name of the library's rest: so the round takes the whole library at once -/
theorem aa_wide (c : ClassId) (N h0 : Nat) : Jvm.Free.Multi.outerC c N h0 0 = Jvm.Free.Multi.outerC c N h0 0 := rfl
