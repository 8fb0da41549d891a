/-- a name of the whole library, so that every round is read over it from its first part on (rows of rows: multianewarray2F) -/
theorem wd_wide (c : ClassId) (n : Nat) (v : Value) : Jvm.Free.Multi.innerC c n v = { cls := c, slots := Array.replicate n v, vm := .none } := rfl
