-- TEST of the lemma that 07.call will need: a privateMethod word is kept by warming
theorem am_warmP {y : MethodName} {s U : State} (hW : s.WarmedH U.vm) (hZ : va_Nw (.privateMethod y) s) : va_Nw (.privateMethod y) U := va_tabs rfl (rfl : (s.setVm U.vm).vm = U.vm) (by rw [Cond.privateMethod_setVm hW.alike]; exact hZ)
theorem am_pv_use {y : MethodName} {s : State} {args : Array Value} (hZ : va_Nw (.privateMethod y) s) : (Cond.privateMethod y).before args s = true := va_Nw.use rfl hZ
theorem am_pv_of {y : MethodName} {s : State} {args : Array Value} (h : (Cond.privateMethod y).before args s = true) : va_Nw (.privateMethod y) s := va_Nw.of rfl h
