/-! names of the rest of the library that part 30a needs: here, so that the first part already is read over the whole of it -/
theorem zw_inner (c : ClassId) (M : Nat) (v : Value) : Jvm.Free.Multi.innerC c M v = Jvm.Free.Multi.innerC c M v := rfl
theorem zw_outer (c : ClassId) (N h0 i : Nat) : Jvm.Free.Multi.outerC c N h0 i = Jvm.Free.Multi.outerC c N h0 i := rfl
