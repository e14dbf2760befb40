theorem zz_test : True := by
  have h := @Stand.multianewarray2F
  have h2 := @Cond.arrayOver_setVmC
  trivial
