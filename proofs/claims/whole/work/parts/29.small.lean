theorem rqI1 {x r : Int32} (h : some x = some r) : some (vI r) = some (vI x) := by rw [Option.some.inj h]
theorem rqL0 {x r : Int64} (h : some x = some r) : some (vL r) = some (vL x) := by rw [Option.some.inj h]
theorem rqR0 {x r : Option Nat} (h : some x = some r) : some (vR r) = some (vR x) := by rw [Option.some.inj h]
