theorem lib_all : @Jvm.Free.Multi.outerC = @Jvm.Free.Multi.outerC := rfl
