/-! A name of the wide library, first: so that no round begins narrow. -/
theorem wide_0 : True := by
  have _x := @Jvm.Free.Multi.outerC
  trivial
