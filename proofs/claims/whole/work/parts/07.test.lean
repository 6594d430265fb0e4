theorem zz_b : True := by
  have := @Jvm.Free.Multi.fill_facts
  have := @Jvm.Stand.multianewarray2F
  trivial
theorem zz_c : True := trivial
