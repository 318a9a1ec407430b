set_option maxRecDepth 1000000 in
set_option maxHeartbeats 0 in
theorem xtry1 : (xrunL (fun pc _ stk hp => cond (Nat.beq pc 23 && (stk.isEmpty && Nat.beq hp.2.1 2102)) (some (9, (0, ([], (hp, 0))))) none) 13 0 [(0, .inr (.inr (.inl 0)))] [] (xheap0 (xscript [.inr (.inr (.inr (.inr (.inr (.inr 0))))), xTop, xTop, xTop, xTop, xTop]))).isSome = true := by decide +kernel
