theorem zw_wide : True := by
  have h := @FP.Core.val64_ddiv
  trivial
