/-! A name of the library's rest, first of all: a new machine then reads the claim over the whole library from its first part on -/
theorem dl_wide : @Jvm.Free.Multi.outerC = @Jvm.Free.Multi.outerC := rfl
