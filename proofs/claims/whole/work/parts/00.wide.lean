/-! a name of the whole library: so the first round on a new machine is wide at once -/
theorem xwide : True := by
  have _h := @Jvm.Stand.arrayOver_alikeB
  trivial
