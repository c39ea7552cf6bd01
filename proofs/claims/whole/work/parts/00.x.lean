theorem zz_w : True := by have := Jvm.Stand.arrCloneM; trivial
