/-! sets of tokens as bits -/
theorem bt_has : allB (fun v => allB (fun i => decide (((nI v >>> (nI i &&& 31)) &&& 1) = bI (v.testBit i))) 8) 256 = true := by decide +kernel
theorem bt_or : allB (fun v => allB (fun i => decide (nI v ||| ((1 : Int32) <<< (nI i &&& 31)) = nI (v ||| 2 ^ i))) 8) 256 = true := by decide +kernel
theorem bt_sh : allB (fun i => decide (((1 : Int32) <<< (nI i &&& 31)) = nI (2 ^ i))) 9 = true := by decide +kernel
theorem bt_cnt : allB (fun v => decide (mJ6_bitCount_0f7a4 (nI v) = some (nI (cn (fun i => v.testBit i) 8)))) 256 = true := by decide +kernel
theorem bt_and : allB (fun v => allB (fun i => allB (fun j => decide ((((nI v >>> (nI i &&& 31)) &&& (nI v >>> (nI j &&& 31))) &&& 1) = bI (v.testBit i && v.testBit j))) 8) 8) 256 = true := by decide +kernel
theorem bt_sub : allB (fun v => allB (fun w => decide ((nI v &&& (nI w ^^^ (-1))) = 0) == decide (v &&& w = v)) 256) 256 = true := by decide +kernel
