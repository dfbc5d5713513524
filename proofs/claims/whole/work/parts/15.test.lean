theorem zz1 : True := by
  have := @lists_1
  trivial
theorem zz2 : True := by
  have := @start1.atStart
  trivial
theorem zz3 : True := by
  have := @witness_1
  trivial
