/-! the whole library is read from here on -/
theorem wlib_0 : @Jvm.Free.Multi.outerC = @Jvm.Free.Multi.outerC := rfl
