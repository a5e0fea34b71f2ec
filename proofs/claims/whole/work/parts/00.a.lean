theorem zz_wide (x : UInt64) : True := by
  have h := @Fl.fin64_iff x
  trivial
