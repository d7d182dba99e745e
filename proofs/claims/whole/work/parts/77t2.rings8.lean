theorem chk8_0 : chkP 7 (Nat.add 0 1) (erU 1985229328 0) (Nat.add 0 (Nat.mul (dN 1985229328 0) (Nat.pow 16 0))) (Nat.add 0 (clN (dN 0) 0 (dN 1985229328 0))) = true := by decide +kernel
theorem chk8_1 : chkP 7 (Nat.add 0 1) (erU 1985229328 1) (Nat.add 0 (Nat.mul (dN 1985229328 1) (Nat.pow 16 0))) (Nat.add 0 (clN (dN 0) 0 (dN 1985229328 1))) = true := by decide +kernel
theorem chk8_2 : chkP 7 (Nat.add 0 1) (erU 1985229328 2) (Nat.add 0 (Nat.mul (dN 1985229328 2) (Nat.pow 16 0))) (Nat.add 0 (clN (dN 0) 0 (dN 1985229328 2))) = true := by decide +kernel
theorem chk8_3 : chkP 7 (Nat.add 0 1) (erU 1985229328 3) (Nat.add 0 (Nat.mul (dN 1985229328 3) (Nat.pow 16 0))) (Nat.add 0 (clN (dN 0) 0 (dN 1985229328 3))) = true := by decide +kernel
theorem chk8_4 : chkP 7 (Nat.add 0 1) (erU 1985229328 4) (Nat.add 0 (Nat.mul (dN 1985229328 4) (Nat.pow 16 0))) (Nat.add 0 (clN (dN 0) 0 (dN 1985229328 4))) = true := by decide +kernel
theorem chk8_5 : chkP 7 (Nat.add 0 1) (erU 1985229328 5) (Nat.add 0 (Nat.mul (dN 1985229328 5) (Nat.pow 16 0))) (Nat.add 0 (clN (dN 0) 0 (dN 1985229328 5))) = true := by decide +kernel
theorem chk8_6 : chkP 7 (Nat.add 0 1) (erU 1985229328 6) (Nat.add 0 (Nat.mul (dN 1985229328 6) (Nat.pow 16 0))) (Nat.add 0 (clN (dN 0) 0 (dN 1985229328 6))) = true := by decide +kernel
theorem chk8_7 : chkP 7 (Nat.add 0 1) (erU 1985229328 7) (Nat.add 0 (Nat.mul (dN 1985229328 7) (Nat.pow 16 0))) (Nat.add 0 (clN (dN 0) 0 (dN 1985229328 7))) = true := by decide +kernel
