theorem wide0 : @Jvm.Free.Multi.outerC = @Jvm.Free.Multi.outerC := rfl
