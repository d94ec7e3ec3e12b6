def f_X6_announces (fu : Nat) (states : Int32) (now : Nat → Int32) (past : Nat → Int32) (refused : Nat → Int32) (a1 : Int32) (a2 : Int32) (a3 : Int32) : Option (Int32 × Int32 × (Nat → Int32) × (Nat → Int32) × (Nat → Int32)) :=
  if zok 298 401 then ((f_X6_in  a1 0 ((now (Int32.toNatClampNeg 298)) - 1)).bind fun r1 => if (zB r1) = 0 then ((f_X6_bad refused ).bind fun r2 => some (r2.1, states, now, past, r2.2)) else ((f_X6_in  a2 0 1).bind fun r3 => if (zB r3) = 0 then ((f_X6_bad refused ).bind fun r4 => some (r4.1, states, now, past, r4.2)) else ((f_X6_in  a3 0 15).bind fun r5 => if (zB r5) = 0 then ((f_X6_bad refused ).bind fun r12 => some (r12.1, states, now, past, r12.2)) else ((f_X6_flowAt  a1).bind fun r6 => if zok (r6 + 4) 401 then (if (now (Int32.toNatClampNeg (r6 + 4))) = 3 then (if zok 355 401 then (if (now (Int32.toNatClampNeg 355)) = 6 then ((f_X6_full refused ).bind fun r8 => some (r8.1, states, now, past, r8.2)) else ((f_X6_remembers fu states now past ).bind fun r7 => if zok 355 401 then (if zok ((r6 + 1) - a2) 401 then (if zok (356 + (5 * (now (Int32.toNatClampNeg 355)))) 401 then (if zok (r6 + a2) 401 then (if zok ((356 + (5 * (now (Int32.toNatClampNeg 355)))) + 1) 401 then (if zok ((356 + (5 * (now (Int32.toNatClampNeg 355)))) + 2) 401 then (if zok (r6 + 3) 401 then (if zok ((356 + (5 * (now (Int32.toNatClampNeg 355)))) + 3) 401 then (if zok 394 401 then (if zok ((356 + (5 * (now (Int32.toNatClampNeg 355)))) + 4) 401 then (if zok 355 401 then (if zok 355 401 then (if zok 355 401 then (some ((upd (upd (upd (upd (upd (upd now (Int32.toNatClampNeg (356 + (5 * (now (Int32.toNatClampNeg 355))))) (now (Int32.toNatClampNeg ((r6 + 1) - a2)))) (Int32.toNatClampNeg ((356 + (5 * (now (Int32.toNatClampNeg 355)))) + 1)) ((upd now (Int32.toNatClampNeg (356 + (5 * (now (Int32.toNatClampNeg 355))))) (now (Int32.toNatClampNeg ((r6 + 1) - a2)))) (Int32.toNatClampNeg (r6 + a2)))) (Int32.toNatClampNeg ((356 + (5 * (now (Int32.toNatClampNeg 355)))) + 2)) a3) (Int32.toNatClampNeg ((356 + (5 * (now (Int32.toNatClampNeg 355)))) + 3)) ((upd (upd (upd now (Int32.toNatClampNeg (356 + (5 * (now (Int32.toNatClampNeg 355))))) (now (Int32.toNatClampNeg ((r6 + 1) - a2)))) (Int32.toNatClampNeg ((356 + (5 * (now (Int32.toNatClampNeg 355)))) + 1)) ((upd now (Int32.toNatClampNeg (356 + (5 * (now (Int32.toNatClampNeg 355))))) (now (Int32.toNatClampNeg ((r6 + 1) - a2)))) (Int32.toNatClampNeg (r6 + a2)))) (Int32.toNatClampNeg ((356 + (5 * (now (Int32.toNatClampNeg 355)))) + 2)) a3) (Int32.toNatClampNeg (r6 + 3)))) (Int32.toNatClampNeg ((356 + (5 * (now (Int32.toNatClampNeg 355)))) + 4)) (((upd (upd (upd (upd now (Int32.toNatClampNeg (356 + (5 * (now (Int32.toNatClampNeg 355))))) (now (Int32.toNatClampNeg ((r6 + 1) - a2)))) (Int32.toNatClampNeg ((356 + (5 * (now (Int32.toNatClampNeg 355)))) + 1)) ((upd now (Int32.toNatClampNeg (356 + (5 * (now (Int32.toNatClampNeg 355))))) (now (Int32.toNatClampNeg ((r6 + 1) - a2)))) (Int32.toNatClampNeg (r6 + a2)))) (Int32.toNatClampNeg ((356 + (5 * (now (Int32.toNatClampNeg 355)))) + 2)) a3) (Int32.toNatClampNeg ((356 + (5 * (now (Int32.toNatClampNeg 355)))) + 3)) ((upd (upd (upd now (Int32.toNatClampNeg (356 + (5 * (now (Int32.toNatClampNeg 355))))) (now (Int32.toNatClampNeg ((r6 + 1) - a2)))) (Int32.toNatClampNeg ((356 + (5 * (now (Int32.toNatClampNeg 355)))) + 1)) ((upd now (Int32.toNatClampNeg (356 + (5 * (now (Int32.toNatClampNeg 355))))) (now (Int32.toNatClampNeg ((r6 + 1) - a2)))) (Int32.toNatClampNeg (r6 + a2)))) (Int32.toNatClampNeg ((356 + (5 * (now (Int32.toNatClampNeg 355)))) + 2)) a3) (Int32.toNatClampNeg (r6 + 3)))) (Int32.toNatClampNeg 394)) + 10)) (Int32.toNatClampNeg 355) (((upd (upd (upd (upd (upd now (Int32.toNatClampNeg (356 + (5 * (now (Int32.toNatClampNeg 355))))) (now (Int32.toNatClampNeg ((r6 + 1) - a2)))) (Int32.toNatClampNeg ((356 + (5 * (now (Int32.toNatClampNeg 355)))) + 1)) ((upd now (Int32.toNatClampNeg (356 + (5 * (now (Int32.toNatClampNeg 355))))) (now (Int32.toNatClampNeg ((r6 + 1) - a2)))) (Int32.toNatClampNeg (r6 + a2)))) (Int32.toNatClampNeg ((356 + (5 * (now (Int32.toNatClampNeg 355)))) + 2)) a3) (Int32.toNatClampNeg ((356 + (5 * (now (Int32.toNatClampNeg 355)))) + 3)) ((upd (upd (upd now (Int32.toNatClampNeg (356 + (5 * (now (Int32.toNatClampNeg 355))))) (now (Int32.toNatClampNeg ((r6 + 1) - a2)))) (Int32.toNatClampNeg ((356 + (5 * (now (Int32.toNatClampNeg 355)))) + 1)) ((upd now (Int32.toNatClampNeg (356 + (5 * (now (Int32.toNatClampNeg 355))))) (now (Int32.toNatClampNeg ((r6 + 1) - a2)))) (Int32.toNatClampNeg (r6 + a2)))) (Int32.toNatClampNeg ((356 + (5 * (now (Int32.toNatClampNeg 355)))) + 2)) a3) (Int32.toNatClampNeg (r6 + 3)))) (Int32.toNatClampNeg ((356 + (5 * (now (Int32.toNatClampNeg 355)))) + 4)) (((upd (upd (upd (upd now (Int32.toNatClampNeg (356 + (5 * (now (Int32.toNatClampNeg 355))))) (now (Int32.toNatClampNeg ((r6 + 1) - a2)))) (Int32.toNatClampNeg ((356 + (5 * (now (Int32.toNatClampNeg 355)))) + 1)) ((upd now (Int32.toNatClampNeg (356 + (5 * (now (Int32.toNatClampNeg 355))))) (now (Int32.toNatClampNeg ((r6 + 1) - a2)))) (Int32.toNatClampNeg (r6 + a2)))) (Int32.toNatClampNeg ((356 + (5 * (now (Int32.toNatClampNeg 355)))) + 2)) a3) (Int32.toNatClampNeg ((356 + (5 * (now (Int32.toNatClampNeg 355)))) + 3)) ((upd (upd (upd now (Int32.toNatClampNeg (356 + (5 * (now (Int32.toNatClampNeg 355))))) (now (Int32.toNatClampNeg ((r6 + 1) - a2)))) (Int32.toNatClampNeg ((356 + (5 * (now (Int32.toNatClampNeg 355)))) + 1)) ((upd now (Int32.toNatClampNeg (356 + (5 * (now (Int32.toNatClampNeg 355))))) (now (Int32.toNatClampNeg ((r6 + 1) - a2)))) (Int32.toNatClampNeg (r6 + a2)))) (Int32.toNatClampNeg ((356 + (5 * (now (Int32.toNatClampNeg 355)))) + 2)) a3) (Int32.toNatClampNeg (r6 + 3)))) (Int32.toNatClampNeg 394)) + 10)) (Int32.toNatClampNeg 355)) + 1)) (Int32.toNatClampNeg 355), r7.1, upd (upd (upd (upd (upd (upd now (Int32.toNatClampNeg (356 + (5 * (now (Int32.toNatClampNeg 355))))) (now (Int32.toNatClampNeg ((r6 + 1) - a2)))) (Int32.toNatClampNeg ((356 + (5 * (now (Int32.toNatClampNeg 355)))) + 1)) ((upd now (Int32.toNatClampNeg (356 + (5 * (now (Int32.toNatClampNeg 355))))) (now (Int32.toNatClampNeg ((r6 + 1) - a2)))) (Int32.toNatClampNeg (r6 + a2)))) (Int32.toNatClampNeg ((356 + (5 * (now (Int32.toNatClampNeg 355)))) + 2)) a3) (Int32.toNatClampNeg ((356 + (5 * (now (Int32.toNatClampNeg 355)))) + 3)) ((upd (upd (upd now (Int32.toNatClampNeg (356 + (5 * (now (Int32.toNatClampNeg 355))))) (now (Int32.toNatClampNeg ((r6 + 1) - a2)))) (Int32.toNatClampNeg ((356 + (5 * (now (Int32.toNatClampNeg 355)))) + 1)) ((upd now (Int32.toNatClampNeg (356 + (5 * (now (Int32.toNatClampNeg 355))))) (now (Int32.toNatClampNeg ((r6 + 1) - a2)))) (Int32.toNatClampNeg (r6 + a2)))) (Int32.toNatClampNeg ((356 + (5 * (now (Int32.toNatClampNeg 355)))) + 2)) a3) (Int32.toNatClampNeg (r6 + 3)))) (Int32.toNatClampNeg ((356 + (5 * (now (Int32.toNatClampNeg 355)))) + 4)) (((upd (upd (upd (upd now (Int32.toNatClampNeg (356 + (5 * (now (Int32.toNatClampNeg 355))))) (now (Int32.toNatClampNeg ((r6 + 1) - a2)))) (Int32.toNatClampNeg ((356 + (5 * (now (Int32.toNatClampNeg 355)))) + 1)) ((upd now (Int32.toNatClampNeg (356 + (5 * (now (Int32.toNatClampNeg 355))))) (now (Int32.toNatClampNeg ((r6 + 1) - a2)))) (Int32.toNatClampNeg (r6 + a2)))) (Int32.toNatClampNeg ((356 + (5 * (now (Int32.toNatClampNeg 355)))) + 2)) a3) (Int32.toNatClampNeg ((356 + (5 * (now (Int32.toNatClampNeg 355)))) + 3)) ((upd (upd (upd now (Int32.toNatClampNeg (356 + (5 * (now (Int32.toNatClampNeg 355))))) (now (Int32.toNatClampNeg ((r6 + 1) - a2)))) (Int32.toNatClampNeg ((356 + (5 * (now (Int32.toNatClampNeg 355)))) + 1)) ((upd now (Int32.toNatClampNeg (356 + (5 * (now (Int32.toNatClampNeg 355))))) (now (Int32.toNatClampNeg ((r6 + 1) - a2)))) (Int32.toNatClampNeg (r6 + a2)))) (Int32.toNatClampNeg ((356 + (5 * (now (Int32.toNatClampNeg 355)))) + 2)) a3) (Int32.toNatClampNeg (r6 + 3)))) (Int32.toNatClampNeg 394)) + 10)) (Int32.toNatClampNeg 355) (((upd (upd (upd (upd (upd now (Int32.toNatClampNeg (356 + (5 * (now (Int32.toNatClampNeg 355))))) (now (Int32.toNatClampNeg ((r6 + 1) - a2)))) (Int32.toNatClampNeg ((356 + (5 * (now (Int32.toNatClampNeg 355)))) + 1)) ((upd now (Int32.toNatClampNeg (356 + (5 * (now (Int32.toNatClampNeg 355))))) (now (Int32.toNatClampNeg ((r6 + 1) - a2)))) (Int32.toNatClampNeg (r6 + a2)))) (Int32.toNatClampNeg ((356 + (5 * (now (Int32.toNatClampNeg 355)))) + 2)) a3) (Int32.toNatClampNeg ((356 + (5 * (now (Int32.toNatClampNeg 355)))) + 3)) ((upd (upd (upd now (Int32.toNatClampNeg (356 + (5 * (now (Int32.toNatClampNeg 355))))) (now (Int32.toNatClampNeg ((r6 + 1) - a2)))) (Int32.toNatClampNeg ((356 + (5 * (now (Int32.toNatClampNeg 355)))) + 1)) ((upd now (Int32.toNatClampNeg (356 + (5 * (now (Int32.toNatClampNeg 355))))) (now (Int32.toNatClampNeg ((r6 + 1) - a2)))) (Int32.toNatClampNeg (r6 + a2)))) (Int32.toNatClampNeg ((356 + (5 * (now (Int32.toNatClampNeg 355)))) + 2)) a3) (Int32.toNatClampNeg (r6 + 3)))) (Int32.toNatClampNeg ((356 + (5 * (now (Int32.toNatClampNeg 355)))) + 4)) (((upd (upd (upd (upd now (Int32.toNatClampNeg (356 + (5 * (now (Int32.toNatClampNeg 355))))) (now (Int32.toNatClampNeg ((r6 + 1) - a2)))) (Int32.toNatClampNeg ((356 + (5 * (now (Int32.toNatClampNeg 355)))) + 1)) ((upd now (Int32.toNatClampNeg (356 + (5 * (now (Int32.toNatClampNeg 355))))) (now (Int32.toNatClampNeg ((r6 + 1) - a2)))) (Int32.toNatClampNeg (r6 + a2)))) (Int32.toNatClampNeg ((356 + (5 * (now (Int32.toNatClampNeg 355)))) + 2)) a3) (Int32.toNatClampNeg ((356 + (5 * (now (Int32.toNatClampNeg 355)))) + 3)) ((upd (upd (upd now (Int32.toNatClampNeg (356 + (5 * (now (Int32.toNatClampNeg 355))))) (now (Int32.toNatClampNeg ((r6 + 1) - a2)))) (Int32.toNatClampNeg ((356 + (5 * (now (Int32.toNatClampNeg 355)))) + 1)) ((upd now (Int32.toNatClampNeg (356 + (5 * (now (Int32.toNatClampNeg 355))))) (now (Int32.toNatClampNeg ((r6 + 1) - a2)))) (Int32.toNatClampNeg (r6 + a2)))) (Int32.toNatClampNeg ((356 + (5 * (now (Int32.toNatClampNeg 355)))) + 2)) a3) (Int32.toNatClampNeg (r6 + 3)))) (Int32.toNatClampNeg 394)) + 10)) (Int32.toNatClampNeg 355)) + 1), r7.2, refused)) else none) else none) else none) else none) else none) else none) else none) else none) else none) else none) else none) else none) else none)) else none) else (if zok (r6 + 4) 401 then (if (now (Int32.toNatClampNeg (r6 + 4))) = 7 then (if zok 355 401 then (if (now (Int32.toNatClampNeg 355)) = 6 then ((f_X6_full refused ).bind fun r10 => some (r10.1, states, now, past, r10.2)) else ((f_X6_remembers fu states now past ).bind fun r9 => if zok 355 401 then (if zok ((r6 + 1) - a2) 401 then (if zok (356 + (5 * (now (Int32.toNatClampNeg 355)))) 401 then (if zok (r6 + a2) 401 then (if zok ((356 + (5 * (now (Int32.toNatClampNeg 355)))) + 1) 401 then (if zok ((356 + (5 * (now (Int32.toNatClampNeg 355)))) + 2) 401 then (if zok (r6 + 3) 401 then (if zok ((356 + (5 * (now (Int32.toNatClampNeg 355)))) + 3) 401 then (if zok 394 401 then (if zok ((356 + (5 * (now (Int32.toNatClampNeg 355)))) + 4) 401 then (if zok 355 401 then (if zok 355 401 then (if zok 355 401 then (some ((upd (upd (upd (upd (upd (upd now (Int32.toNatClampNeg (356 + (5 * (now (Int32.toNatClampNeg 355))))) (now (Int32.toNatClampNeg ((r6 + 1) - a2)))) (Int32.toNatClampNeg ((356 + (5 * (now (Int32.toNatClampNeg 355)))) + 1)) ((upd now (Int32.toNatClampNeg (356 + (5 * (now (Int32.toNatClampNeg 355))))) (now (Int32.toNatClampNeg ((r6 + 1) - a2)))) (Int32.toNatClampNeg (r6 + a2)))) (Int32.toNatClampNeg ((356 + (5 * (now (Int32.toNatClampNeg 355)))) + 2)) a3) (Int32.toNatClampNeg ((356 + (5 * (now (Int32.toNatClampNeg 355)))) + 3)) ((upd (upd (upd now (Int32.toNatClampNeg (356 + (5 * (now (Int32.toNatClampNeg 355))))) (now (Int32.toNatClampNeg ((r6 + 1) - a2)))) (Int32.toNatClampNeg ((356 + (5 * (now (Int32.toNatClampNeg 355)))) + 1)) ((upd now (Int32.toNatClampNeg (356 + (5 * (now (Int32.toNatClampNeg 355))))) (now (Int32.toNatClampNeg ((r6 + 1) - a2)))) (Int32.toNatClampNeg (r6 + a2)))) (Int32.toNatClampNeg ((356 + (5 * (now (Int32.toNatClampNeg 355)))) + 2)) a3) (Int32.toNatClampNeg (r6 + 3)))) (Int32.toNatClampNeg ((356 + (5 * (now (Int32.toNatClampNeg 355)))) + 4)) (((upd (upd (upd (upd now (Int32.toNatClampNeg (356 + (5 * (now (Int32.toNatClampNeg 355))))) (now (Int32.toNatClampNeg ((r6 + 1) - a2)))) (Int32.toNatClampNeg ((356 + (5 * (now (Int32.toNatClampNeg 355)))) + 1)) ((upd now (Int32.toNatClampNeg (356 + (5 * (now (Int32.toNatClampNeg 355))))) (now (Int32.toNatClampNeg ((r6 + 1) - a2)))) (Int32.toNatClampNeg (r6 + a2)))) (Int32.toNatClampNeg ((356 + (5 * (now (Int32.toNatClampNeg 355)))) + 2)) a3) (Int32.toNatClampNeg ((356 + (5 * (now (Int32.toNatClampNeg 355)))) + 3)) ((upd (upd (upd now (Int32.toNatClampNeg (356 + (5 * (now (Int32.toNatClampNeg 355))))) (now (Int32.toNatClampNeg ((r6 + 1) - a2)))) (Int32.toNatClampNeg ((356 + (5 * (now (Int32.toNatClampNeg 355)))) + 1)) ((upd now (Int32.toNatClampNeg (356 + (5 * (now (Int32.toNatClampNeg 355))))) (now (Int32.toNatClampNeg ((r6 + 1) - a2)))) (Int32.toNatClampNeg (r6 + a2)))) (Int32.toNatClampNeg ((356 + (5 * (now (Int32.toNatClampNeg 355)))) + 2)) a3) (Int32.toNatClampNeg (r6 + 3)))) (Int32.toNatClampNeg 394)) + 10)) (Int32.toNatClampNeg 355) (((upd (upd (upd (upd (upd now (Int32.toNatClampNeg (356 + (5 * (now (Int32.toNatClampNeg 355))))) (now (Int32.toNatClampNeg ((r6 + 1) - a2)))) (Int32.toNatClampNeg ((356 + (5 * (now (Int32.toNatClampNeg 355)))) + 1)) ((upd now (Int32.toNatClampNeg (356 + (5 * (now (Int32.toNatClampNeg 355))))) (now (Int32.toNatClampNeg ((r6 + 1) - a2)))) (Int32.toNatClampNeg (r6 + a2)))) (Int32.toNatClampNeg ((356 + (5 * (now (Int32.toNatClampNeg 355)))) + 2)) a3) (Int32.toNatClampNeg ((356 + (5 * (now (Int32.toNatClampNeg 355)))) + 3)) ((upd (upd (upd now (Int32.toNatClampNeg (356 + (5 * (now (Int32.toNatClampNeg 355))))) (now (Int32.toNatClampNeg ((r6 + 1) - a2)))) (Int32.toNatClampNeg ((356 + (5 * (now (Int32.toNatClampNeg 355)))) + 1)) ((upd now (Int32.toNatClampNeg (356 + (5 * (now (Int32.toNatClampNeg 355))))) (now (Int32.toNatClampNeg ((r6 + 1) - a2)))) (Int32.toNatClampNeg (r6 + a2)))) (Int32.toNatClampNeg ((356 + (5 * (now (Int32.toNatClampNeg 355)))) + 2)) a3) (Int32.toNatClampNeg (r6 + 3)))) (Int32.toNatClampNeg ((356 + (5 * (now (Int32.toNatClampNeg 355)))) + 4)) (((upd (upd (upd (upd now (Int32.toNatClampNeg (356 + (5 * (now (Int32.toNatClampNeg 355))))) (now (Int32.toNatClampNeg ((r6 + 1) - a2)))) (Int32.toNatClampNeg ((356 + (5 * (now (Int32.toNatClampNeg 355)))) + 1)) ((upd now (Int32.toNatClampNeg (356 + (5 * (now (Int32.toNatClampNeg 355))))) (now (Int32.toNatClampNeg ((r6 + 1) - a2)))) (Int32.toNatClampNeg (r6 + a2)))) (Int32.toNatClampNeg ((356 + (5 * (now (Int32.toNatClampNeg 355)))) + 2)) a3) (Int32.toNatClampNeg ((356 + (5 * (now (Int32.toNatClampNeg 355)))) + 3)) ((upd (upd (upd now (Int32.toNatClampNeg (356 + (5 * (now (Int32.toNatClampNeg 355))))) (now (Int32.toNatClampNeg ((r6 + 1) - a2)))) (Int32.toNatClampNeg ((356 + (5 * (now (Int32.toNatClampNeg 355)))) + 1)) ((upd now (Int32.toNatClampNeg (356 + (5 * (now (Int32.toNatClampNeg 355))))) (now (Int32.toNatClampNeg ((r6 + 1) - a2)))) (Int32.toNatClampNeg (r6 + a2)))) (Int32.toNatClampNeg ((356 + (5 * (now (Int32.toNatClampNeg 355)))) + 2)) a3) (Int32.toNatClampNeg (r6 + 3)))) (Int32.toNatClampNeg 394)) + 10)) (Int32.toNatClampNeg 355)) + 1)) (Int32.toNatClampNeg 355), r9.1, upd (upd (upd (upd (upd (upd now (Int32.toNatClampNeg (356 + (5 * (now (Int32.toNatClampNeg 355))))) (now (Int32.toNatClampNeg ((r6 + 1) - a2)))) (Int32.toNatClampNeg ((356 + (5 * (now (Int32.toNatClampNeg 355)))) + 1)) ((upd now (Int32.toNatClampNeg (356 + (5 * (now (Int32.toNatClampNeg 355))))) (now (Int32.toNatClampNeg ((r6 + 1) - a2)))) (Int32.toNatClampNeg (r6 + a2)))) (Int32.toNatClampNeg ((356 + (5 * (now (Int32.toNatClampNeg 355)))) + 2)) a3) (Int32.toNatClampNeg ((356 + (5 * (now (Int32.toNatClampNeg 355)))) + 3)) ((upd (upd (upd now (Int32.toNatClampNeg (356 + (5 * (now (Int32.toNatClampNeg 355))))) (now (Int32.toNatClampNeg ((r6 + 1) - a2)))) (Int32.toNatClampNeg ((356 + (5 * (now (Int32.toNatClampNeg 355)))) + 1)) ((upd now (Int32.toNatClampNeg (356 + (5 * (now (Int32.toNatClampNeg 355))))) (now (Int32.toNatClampNeg ((r6 + 1) - a2)))) (Int32.toNatClampNeg (r6 + a2)))) (Int32.toNatClampNeg ((356 + (5 * (now (Int32.toNatClampNeg 355)))) + 2)) a3) (Int32.toNatClampNeg (r6 + 3)))) (Int32.toNatClampNeg ((356 + (5 * (now (Int32.toNatClampNeg 355)))) + 4)) (((upd (upd (upd (upd now (Int32.toNatClampNeg (356 + (5 * (now (Int32.toNatClampNeg 355))))) (now (Int32.toNatClampNeg ((r6 + 1) - a2)))) (Int32.toNatClampNeg ((356 + (5 * (now (Int32.toNatClampNeg 355)))) + 1)) ((upd now (Int32.toNatClampNeg (356 + (5 * (now (Int32.toNatClampNeg 355))))) (now (Int32.toNatClampNeg ((r6 + 1) - a2)))) (Int32.toNatClampNeg (r6 + a2)))) (Int32.toNatClampNeg ((356 + (5 * (now (Int32.toNatClampNeg 355)))) + 2)) a3) (Int32.toNatClampNeg ((356 + (5 * (now (Int32.toNatClampNeg 355)))) + 3)) ((upd (upd (upd now (Int32.toNatClampNeg (356 + (5 * (now (Int32.toNatClampNeg 355))))) (now (Int32.toNatClampNeg ((r6 + 1) - a2)))) (Int32.toNatClampNeg ((356 + (5 * (now (Int32.toNatClampNeg 355)))) + 1)) ((upd now (Int32.toNatClampNeg (356 + (5 * (now (Int32.toNatClampNeg 355))))) (now (Int32.toNatClampNeg ((r6 + 1) - a2)))) (Int32.toNatClampNeg (r6 + a2)))) (Int32.toNatClampNeg ((356 + (5 * (now (Int32.toNatClampNeg 355)))) + 2)) a3) (Int32.toNatClampNeg (r6 + 3)))) (Int32.toNatClampNeg 394)) + 10)) (Int32.toNatClampNeg 355) (((upd (upd (upd (upd (upd now (Int32.toNatClampNeg (356 + (5 * (now (Int32.toNatClampNeg 355))))) (now (Int32.toNatClampNeg ((r6 + 1) - a2)))) (Int32.toNatClampNeg ((356 + (5 * (now (Int32.toNatClampNeg 355)))) + 1)) ((upd now (Int32.toNatClampNeg (356 + (5 * (now (Int32.toNatClampNeg 355))))) (now (Int32.toNatClampNeg ((r6 + 1) - a2)))) (Int32.toNatClampNeg (r6 + a2)))) (Int32.toNatClampNeg ((356 + (5 * (now (Int32.toNatClampNeg 355)))) + 2)) a3) (Int32.toNatClampNeg ((356 + (5 * (now (Int32.toNatClampNeg 355)))) + 3)) ((upd (upd (upd now (Int32.toNatClampNeg (356 + (5 * (now (Int32.toNatClampNeg 355))))) (now (Int32.toNatClampNeg ((r6 + 1) - a2)))) (Int32.toNatClampNeg ((356 + (5 * (now (Int32.toNatClampNeg 355)))) + 1)) ((upd now (Int32.toNatClampNeg (356 + (5 * (now (Int32.toNatClampNeg 355))))) (now (Int32.toNatClampNeg ((r6 + 1) - a2)))) (Int32.toNatClampNeg (r6 + a2)))) (Int32.toNatClampNeg ((356 + (5 * (now (Int32.toNatClampNeg 355)))) + 2)) a3) (Int32.toNatClampNeg (r6 + 3)))) (Int32.toNatClampNeg ((356 + (5 * (now (Int32.toNatClampNeg 355)))) + 4)) (((upd (upd (upd (upd now (Int32.toNatClampNeg (356 + (5 * (now (Int32.toNatClampNeg 355))))) (now (Int32.toNatClampNeg ((r6 + 1) - a2)))) (Int32.toNatClampNeg ((356 + (5 * (now (Int32.toNatClampNeg 355)))) + 1)) ((upd now (Int32.toNatClampNeg (356 + (5 * (now (Int32.toNatClampNeg 355))))) (now (Int32.toNatClampNeg ((r6 + 1) - a2)))) (Int32.toNatClampNeg (r6 + a2)))) (Int32.toNatClampNeg ((356 + (5 * (now (Int32.toNatClampNeg 355)))) + 2)) a3) (Int32.toNatClampNeg ((356 + (5 * (now (Int32.toNatClampNeg 355)))) + 3)) ((upd (upd (upd now (Int32.toNatClampNeg (356 + (5 * (now (Int32.toNatClampNeg 355))))) (now (Int32.toNatClampNeg ((r6 + 1) - a2)))) (Int32.toNatClampNeg ((356 + (5 * (now (Int32.toNatClampNeg 355)))) + 1)) ((upd now (Int32.toNatClampNeg (356 + (5 * (now (Int32.toNatClampNeg 355))))) (now (Int32.toNatClampNeg ((r6 + 1) - a2)))) (Int32.toNatClampNeg (r6 + a2)))) (Int32.toNatClampNeg ((356 + (5 * (now (Int32.toNatClampNeg 355)))) + 2)) a3) (Int32.toNatClampNeg (r6 + 3)))) (Int32.toNatClampNeg 394)) + 10)) (Int32.toNatClampNeg 355)) + 1), r9.2, refused)) else none) else none) else none) else none) else none) else none) else none) else none) else none) else none) else none) else none) else none)) else none) else ((f_X6_no refused ).bind fun r11 => some (r11.1, states, now, past, r11.2))) else none)) else none)))) else none
abbrev wk_X6_announces : List Cond := Cond.code yX6_announces cX6_announces 6 (some .int) :: WB
abbrev rm_X6_announces : Room := { frames := 1, cells := 0, slots := 0, locals := 22 }
set_option maxHeartbeats 4000000 in
set_option maxRecDepth 100000 in
theorem c_X6_announces (l : Launch) (D : va_G) (k : Nat → Nat) (o on op orr ot oh og od : Nat) (states : Int32) (bytes : Int32) (reading : Int32) (at_ : Int32) (wrongAt : Int32) (number : Int32) (hh : Int64) (now : Nat → Int32) (past : Nat → Int32) (refused : Nat → Int32) (a1 : Int32) (a2 : Int32) (a3 : Int32) (fu : Nat) {res : Int32 × Int32 × (Nat → Int32) × (Nat → Int32) × (Nat → Int32)} (h : f_X6_announces fu states now past refused a1 a2 a3 = some res) : Ci l yX6_announces wk_X6_announces rm_X6_announces D k [.ref o, .int a1, .int a2, .int a3] [(o, .inr (6, [.ref on, .ref op, .int states, .ref orr, .ref ot, .int bytes, .ref oh, .ref og, .ref od, .int reading, .int at_, .int wrongAt, .int number, .long hh])), (on, .inl (k 0, 401, .inl now)), (op, .inl (k 0, 2005, .inl past)), (orr, .inl (k 0, 3, .inl refused))] [(o, .inr (6, [.ref on, .ref op, .int res.2.1, .ref orr, .ref ot, .int bytes, .ref oh, .ref og, .ref od, .int reading, .int at_, .int wrongAt, .int number, .long hh])), (on, .inl (k 0, 401, .inl res.2.2.1)), (op, .inl (k 0, 2005, .inl res.2.2.2.1)), (orr, .inl (k 0, 3, .inl res.2.2.2.2))] res.1 := by
  unfold Ci
  intro sz
  refine Met.ofW (cc := cX6_announces) (maxL := 6) (ret := (some .int)) (by decide) rfl ?_
  intro p e s m args below meth c s₁ B hml hv
  obtain ⟨rfl, hsz, hP, hK, hD0, hm⟩ := hv
  have hx := B.exec
  have hb := B.bytes
  have hr := B.returns
  have ht : ∀ w ∈ WB, w.before _ s = true := fun w hw => atoms_spec (ws := wk_X6_announces) B.pre w (List.mem_cons_of_mem _ hw)
  have hown : s.vm.findClass RX6 = some m.cls := findClass_of_methodNamed B.named
  have hlocks := B.notSynchronized
  subst hsz
  have hD := hD0.self (sz := s.heap.size)
  generalize hAe : va_A [(o, .inr (6, [.ref on, .ref op, .int states, .ref orr, .ref ot, .int bytes, .ref oh, .ref og, .ref od, .int reading, .int at_, .int wrongAt, .int number, .long hh])), (on, .inl (k 0, 401, .inl now)), (op, .inl (k 0, 2005, .inl past)), (orr, .inl (k 0, 3, .inl refused))] s.heap.size = A at hD hm ⊢
  have hA : ∀ q : Nat, s.heap.size ≤ q → A q := fun q h => by rw [← hAe]; exact Or.inr h
  have hS : va_S A s.heap s.heap [] := va_S.rf
  have hl := lv_entry ([.ref o, .int a1, .int a2, .int a3]) (n := 6) (Nat.le_of_ble_eq_true rfl)
  rw [lg_entry_eq]
  generalize (lg_sl ([.ref o, .int a1, .int a2, .int a3]) ++ List.replicate (6 - (lg_sl ([.ref o, .int a1, .int a2, .int a3])).length) Slot.unset).toArray = ls at hl ⊢
  have hl : lv_has ls 6 [(0, .ref o), (1, .int a1), (2, .int a2), (3, .int a3)] := hl
  obtain ⟨H, hH⟩ : ∃ H, H = s.heap := ⟨_, rfl⟩
  rw [← hH] at hP
  have hS : va_S A s.heap H [] := by rw [hH]; exact hS
  suffices hgo : W p l e _ s m _ below meth c H [] 0 0 _ _ by rw [hH] at hgo; exact hgo
  unfold f_X6_announces at h
  refine lv_iload_n hx hb dX6_announces_0 rfl (lv_at hl 1 rfl) ?_
  refine lv_iconst (v := 0) hx hb dX6_announces_1 (by decide) ?_
  refine lv_aload_n hx hb dX6_announces_2 rfl (lv_at hl 0 rfl) ?_
  refine va_get (D := D) (ci := 6) (v := .ref on) (C := RX6) (T := TX6) (N := 14) hx hb ht hiX6 hown hK hP 0 rfl rfl 0 (by decide) (ht _ wb765) (fun _ h9 => h9) rfl dX6_announces_3 ?_
  refine lv_sipush (v := 298) hx hb dX6_announces_6 (by decide) ?_
  obtain ⟨hi1, h⟩ := zg h
  refine va_iald hx hb hK hP 1 0 rfl rfl hi1 dX6_announces_9 ?_
  refine lv_iconst (v := 1) hx hb dX6_announces_10 (by decide) ?_
  refine lv_isub hx hb dX6_announces_11 ?_
  obtain ⟨r1, h1, h⟩ := zb h
  refine zi (zrS (As := [.int a1, .int 0, .int ((now (Int32.toNatClampNeg 298)) - 1)]) (rest := []) ⟨hx, hb, hml, hown, ht⟩ (c_X6_in l D k   a1 0 ((now (Int32.toNatClampNeg 298)) - 1) h1 _) (va_cwS 3 ht (gdS wb820 wb821 wb80 wb822) rfl rfl rfl (by decide +kernel) ⟨Nat.le_of_ble_eq_true rfl, Nat.le_of_ble_eq_true rfl⟩) hK hP hD hS hA hm [] rfl rfl rfl hl.1 rfl (Nat.le_of_ble_eq_true rfl) dX6_announces_12 ⟨Nat.le_refl _, Nat.le_refl _⟩) hP hD hS hA [] rfl rfl (fun H locs hP hD hS => ?_)
  have hP : va_P D vwCl [(o, .inr (6, [.ref on, .ref op, .int states, .ref orr, .ref ot, .int bytes, .ref oh, .ref og, .ref od, .int reading, .int at_, .int wrongAt, .int number, .long hh])), (on, .inl (k 0, 401, .inl now)), (op, .inl (k 0, 2005, .inl past)), (orr, .inl (k 0, 3, .inl refused))] H := hP
  have hD : va_D A [(o, .inr (6, [.ref on, .ref op, .int states, .ref orr, .ref ot, .int bytes, .ref oh, .ref og, .ref od, .int reading, .int at_, .int wrongAt, .int number, .long hh])), (on, .inl (k 0, 401, .inl now)), (op, .inl (k 0, 2005, .inl past)), (orr, .inl (k 0, 3, .inl refused))] := hD
  refine lv_if_eq (tgt := 37) hx hb dX6_announces_15 (by decide) (fun c7 => ?_) (fun c7 => ?_)
  · have h := zt h c7
    refine lv_aload_n hx hb dX6_announces_37 rfl (lv_at hl 0 rfl) ?_
    obtain ⟨r2, h2, h⟩ := zb h
    refine zi (zrV (C := RX6) (T := TX6) (N := 14) (As := []) (rest := []) ⟨hx, hb, hml, hown, ht⟩ (c_X6_bad l D k o on op orr ot oh og od states bytes reading at_ wrongAt number hh refused  h2 _) (cwV 0 ht (gdV wb826 wb828 wb29 wb80 wb829) rfl rfl rfl (by decide +kernel) ⟨Nat.le_of_ble_eq_true rfl, Nat.le_of_ble_eq_true rfl⟩) hK hP hD hS hA hm [0, 3] rfl rfl 0 6 rfl rfl rfl hl.1 rfl (Nat.le_of_ble_eq_true rfl) dX6_announces_38 ⟨Nat.le_refl _, Nat.le_refl _⟩) hP hD hS hA [0, 3] rfl rfl (fun H locs hP hD hS => ?_)
    have hP : va_P D vwCl [(o, .inr (6, [.ref on, .ref op, .int states, .ref orr, .ref ot, .int bytes, .ref oh, .ref og, .ref od, .int reading, .int at_, .int wrongAt, .int number, .long hh])), (on, .inl (k 0, 401, .inl now)), (op, .inl (k 0, 2005, .inl past)), (orr, .inl (k 0, 3, .inl r2.2))] H := hP
    have hD : va_D A [(o, .inr (6, [.ref on, .ref op, .int states, .ref orr, .ref ot, .int bytes, .ref oh, .ref og, .ref od, .int reading, .int at_, .int wrongAt, .int number, .long hh])), (on, .inl (k 0, 401, .inl now)), (op, .inl (k 0, 2005, .inl past)), (orr, .inl (k 0, 3, .inl r2.2))] := hD
    obtain rfl := Option.some.inj h
    exact W.iret (v := r2.1) hx hb hr (fun t ht9 hW => ⟨⟨_, (), rfl, rfl, zend ht9 hP⟩, hS.F ht9⟩) hS.2.2 dX6_announces_41
  · have h := zf h c7
    refine lv_iload_n hx hb dX6_announces_18 rfl (lv_at hl 2 rfl) ?_
    refine lv_iconst (v := 0) hx hb dX6_announces_19 (by decide) ?_
    refine lv_iconst (v := 1) hx hb dX6_announces_20 (by decide) ?_
    obtain ⟨r3, h3, h⟩ := zb h
    refine zi (zrS (As := [.int a2, .int 0, .int 1]) (rest := []) ⟨hx, hb, hml, hown, ht⟩ (c_X6_in l D k   a2 0 1 h3 _) (va_cwS 3 ht (gdS wb820 wb821 wb80 wb822) rfl rfl rfl (by decide +kernel) ⟨Nat.le_of_ble_eq_true rfl, Nat.le_of_ble_eq_true rfl⟩) hK hP hD hS hA hm [] rfl rfl rfl hl.1 rfl (Nat.le_of_ble_eq_true rfl) dX6_announces_21 ⟨Nat.le_refl _, Nat.le_refl _⟩) hP hD hS hA [] rfl rfl (fun H locs hP hD hS => ?_)
    have hP : va_P D vwCl [(o, .inr (6, [.ref on, .ref op, .int states, .ref orr, .ref ot, .int bytes, .ref oh, .ref og, .ref od, .int reading, .int at_, .int wrongAt, .int number, .long hh])), (on, .inl (k 0, 401, .inl now)), (op, .inl (k 0, 2005, .inl past)), (orr, .inl (k 0, 3, .inl refused))] H := hP
    have hD : va_D A [(o, .inr (6, [.ref on, .ref op, .int states, .ref orr, .ref ot, .int bytes, .ref oh, .ref og, .ref od, .int reading, .int at_, .int wrongAt, .int number, .long hh])), (on, .inl (k 0, 401, .inl now)), (op, .inl (k 0, 2005, .inl past)), (orr, .inl (k 0, 3, .inl refused))] := hD
    refine lv_if_eq (tgt := 37) hx hb dX6_announces_24 (by decide) (fun c6 => ?_) (fun c6 => ?_)
    · have h := zt h c6
      refine lv_aload_n hx hb dX6_announces_37 rfl (lv_at hl 0 rfl) ?_
      obtain ⟨r4, h4, h⟩ := zb h
      refine zi (zrV (C := RX6) (T := TX6) (N := 14) (As := []) (rest := []) ⟨hx, hb, hml, hown, ht⟩ (c_X6_bad l D k o on op orr ot oh og od states bytes reading at_ wrongAt number hh refused  h4 _) (cwV 0 ht (gdV wb826 wb828 wb29 wb80 wb829) rfl rfl rfl (by decide +kernel) ⟨Nat.le_of_ble_eq_true rfl, Nat.le_of_ble_eq_true rfl⟩) hK hP hD hS hA hm [0, 3] rfl rfl 0 6 rfl rfl rfl hl.1 rfl (Nat.le_of_ble_eq_true rfl) dX6_announces_38 ⟨Nat.le_refl _, Nat.le_refl _⟩) hP hD hS hA [0, 3] rfl rfl (fun H locs hP hD hS => ?_)
      have hP : va_P D vwCl [(o, .inr (6, [.ref on, .ref op, .int states, .ref orr, .ref ot, .int bytes, .ref oh, .ref og, .ref od, .int reading, .int at_, .int wrongAt, .int number, .long hh])), (on, .inl (k 0, 401, .inl now)), (op, .inl (k 0, 2005, .inl past)), (orr, .inl (k 0, 3, .inl r4.2))] H := hP
      have hD : va_D A [(o, .inr (6, [.ref on, .ref op, .int states, .ref orr, .ref ot, .int bytes, .ref oh, .ref og, .ref od, .int reading, .int at_, .int wrongAt, .int number, .long hh])), (on, .inl (k 0, 401, .inl now)), (op, .inl (k 0, 2005, .inl past)), (orr, .inl (k 0, 3, .inl r4.2))] := hD
      obtain rfl := Option.some.inj h
      exact W.iret (v := r4.1) hx hb hr (fun t ht9 hW => ⟨⟨_, (), rfl, rfl, zend ht9 hP⟩, hS.F ht9⟩) hS.2.2 dX6_announces_41
    · have h := zf h c6
      refine lv_iload_n hx hb dX6_announces_27 rfl (lv_at hl 3 rfl) ?_
      refine lv_iconst (v := 0) hx hb dX6_announces_28 (by decide) ?_
      refine lv_bipush (v := 15) hx hb dX6_announces_29 (by decide) ?_
      obtain ⟨r5, h5, h⟩ := zb h
      refine zi (zrS (As := [.int a3, .int 0, .int 15]) (rest := []) ⟨hx, hb, hml, hown, ht⟩ (c_X6_in l D k   a3 0 15 h5 _) (va_cwS 3 ht (gdS wb820 wb821 wb80 wb822) rfl rfl rfl (by decide +kernel) ⟨Nat.le_of_ble_eq_true rfl, Nat.le_of_ble_eq_true rfl⟩) hK hP hD hS hA hm [] rfl rfl rfl hl.1 rfl (Nat.le_of_ble_eq_true rfl) dX6_announces_31 ⟨Nat.le_refl _, Nat.le_refl _⟩) hP hD hS hA [] rfl rfl (fun H locs hP hD hS => ?_)
      have hP : va_P D vwCl [(o, .inr (6, [.ref on, .ref op, .int states, .ref orr, .ref ot, .int bytes, .ref oh, .ref og, .ref od, .int reading, .int at_, .int wrongAt, .int number, .long hh])), (on, .inl (k 0, 401, .inl now)), (op, .inl (k 0, 2005, .inl past)), (orr, .inl (k 0, 3, .inl refused))] H := hP
      have hD : va_D A [(o, .inr (6, [.ref on, .ref op, .int states, .ref orr, .ref ot, .int bytes, .ref oh, .ref og, .ref od, .int reading, .int at_, .int wrongAt, .int number, .long hh])), (on, .inl (k 0, 401, .inl now)), (op, .inl (k 0, 2005, .inl past)), (orr, .inl (k 0, 3, .inl refused))] := hD
      refine lv_if_ne (tgt := 42) hx hb dX6_announces_34 (by decide) (fun c5 => ?_) (fun c5 => ?_)
      · have h := zf h c5
        refine lv_aload_n hx hb dX6_announces_42 rfl (lv_at hl 0 rfl) ?_
        refine lv_iload_n hx hb dX6_announces_43 rfl (lv_at hl 1 rfl) ?_
        obtain ⟨r6, h6, h⟩ := zb h
        refine zi (zrV (C := RX6) (T := TX6) (N := 14) (As := [.int a1]) (rest := []) ⟨hx, hb, hml, hown, ht⟩ (c_X6_flowAt l D k o on op orr ot oh og od states bytes reading at_ wrongAt number hh a1 h6 _) (cwV 1 ht (gdV wb987 wb989 wb48 wb80 wb990) rfl rfl rfl (by decide +kernel) ⟨Nat.le_of_ble_eq_true rfl, Nat.le_of_ble_eq_true rfl⟩) hK hP hD hS hA hm [0] rfl rfl 0 6 rfl rfl rfl hl.1 rfl (Nat.le_of_ble_eq_true rfl) dX6_announces_44 ⟨Nat.le_refl _, Nat.le_refl _⟩) hP hD hS hA [0] rfl rfl (fun H locs hP hD hS => ?_)
        have hP : va_P D vwCl [(o, .inr (6, [.ref on, .ref op, .int states, .ref orr, .ref ot, .int bytes, .ref oh, .ref og, .ref od, .int reading, .int at_, .int wrongAt, .int number, .long hh])), (on, .inl (k 0, 401, .inl now)), (op, .inl (k 0, 2005, .inl past)), (orr, .inl (k 0, 3, .inl refused))] H := hP
        have hD : va_D A [(o, .inr (6, [.ref on, .ref op, .int states, .ref orr, .ref ot, .int bytes, .ref oh, .ref og, .ref od, .int reading, .int at_, .int wrongAt, .int number, .long hh])), (on, .inl (k 0, 401, .inl now)), (op, .inl (k 0, 2005, .inl past)), (orr, .inl (k 0, 3, .inl refused))] := hD
        refine lv_istore (lv' := [(4, .int r6), (0, .ref o), (1, .int a1), (2, .int a2), (3, .int a3)]) hx hb dX6_announces_47 hl (by decide) rfl (fun ls hl => ?_)
        refine lv_aload_n hx hb dX6_announces_49 rfl (lv_at hl 1 rfl) ?_
        refine va_get (D := D) (ci := 6) (v := .ref on) (C := RX6) (T := TX6) (N := 14) hx hb ht hiX6 hown hK hP 0 rfl rfl 0 (by decide) (ht _ wb765) (fun _ h9 => h9) rfl dX6_announces_50 ?_
        refine lv_iload hx hb dX6_announces_53 (lv_at hl 0 rfl) ?_
        refine lv_iconst (v := 4) hx hb dX6_announces_55 (by decide) ?_
        refine lv_iadd hx hb dX6_announces_56 ?_
        obtain ⟨hi2, h⟩ := zg h
        refine va_iald hx hb hK hP 1 0 rfl rfl hi2 dX6_announces_57 ?_
        refine lv_iconst (v := 3) hx hb dX6_announces_58 (by decide) ?_
        refine lv_icmp_eq (tgt := 81) hx hb dX6_announces_59 (by decide) (fun c4 => ?_) (fun c4 => ?_)
        · have h := zt h c4
          refine lv_aload_n hx hb dX6_announces_81 rfl (lv_at hl 1 rfl) ?_
          refine va_get (D := D) (ci := 6) (v := .ref on) (C := RX6) (T := TX6) (N := 14) hx hb ht hiX6 hown hK hP 0 rfl rfl 0 (by decide) (ht _ wb765) (fun _ h9 => h9) rfl dX6_announces_82 ?_
          refine lv_sipush (v := 355) hx hb dX6_announces_85 (by decide) ?_
          obtain ⟨hi3, h⟩ := zg h
          refine va_iald hx hb hK hP 1 0 rfl rfl hi3 dX6_announces_88 ?_
          refine lv_bipush (v := 6) hx hb dX6_announces_89 (by decide) ?_
          refine lv_icmp_ne (tgt := 99) hx hb dX6_announces_91 (by decide) (fun c1 => ?_) (fun c1 => ?_)
          · have h := zf h c1
            refine lv_aload_n hx hb dX6_announces_99 rfl (lv_at hl 1 rfl) ?_
            obtain ⟨r7, h7, h⟩ := zb h
            refine zv (zrV (C := RX6) (T := TX6) (N := 14) (As := []) (rest := []) ⟨hx, hb, hml, hown, ht⟩ (c_X6_remembers l D k o on op orr ot oh og od states bytes reading at_ wrongAt number hh now past  fu h7 _) (cwV 0 ht (gdV wb830 wb832 wb30 wb80 wb833) rfl rfl rfl (by decide +kernel) ⟨Nat.le_of_ble_eq_true rfl, Nat.le_of_ble_eq_true rfl⟩) hK hP hD hS hA hm [0, 1, 2] rfl rfl 0 6 rfl rfl rfl hl.1 rfl (Nat.le_of_ble_eq_true rfl) dX6_announces_100 ⟨Nat.le_refl _, Nat.le_refl _⟩) hP hD hS hA [0, 1, 2] rfl rfl (fun H locs hP hD hS => ?_)
            have hP : va_P D vwCl [(o, .inr (6, [.ref on, .ref op, .int r7.1, .ref orr, .ref ot, .int bytes, .ref oh, .ref og, .ref od, .int reading, .int at_, .int wrongAt, .int number, .long hh])), (on, .inl (k 0, 401, .inl now)), (op, .inl (k 0, 2005, .inl r7.2)), (orr, .inl (k 0, 3, .inl refused))] H := hP
            have hD : va_D A [(o, .inr (6, [.ref on, .ref op, .int r7.1, .ref orr, .ref ot, .int bytes, .ref oh, .ref og, .ref od, .int reading, .int at_, .int wrongAt, .int number, .long hh])), (on, .inl (k 0, 401, .inl now)), (op, .inl (k 0, 2005, .inl r7.2)), (orr, .inl (k 0, 3, .inl refused))] := hD
            refine lv_sipush (v := 356) hx hb dX6_announces_103 (by decide) ?_
            refine lv_iconst (v := 5) hx hb dX6_announces_106 (by decide) ?_
            refine lv_aload_n hx hb dX6_announces_107 rfl (lv_at hl 1 rfl) ?_
            refine va_get (D := D) (ci := 6) (v := .ref on) (C := RX6) (T := TX6) (N := 14) hx hb ht hiX6 hown hK hP 0 rfl rfl 0 (by decide) (ht _ wb765) (fun _ h9 => h9) rfl dX6_announces_108 ?_
            refine lv_sipush (v := 355) hx hb dX6_announces_111 (by decide) ?_
            obtain ⟨hi4, h⟩ := zg h
            refine va_iald hx hb hK hP 1 0 rfl rfl hi4 dX6_announces_114 ?_
            refine lv_imul hx hb dX6_announces_115 ?_
            refine lv_iadd hx hb dX6_announces_116 ?_
            refine lv_istore (lv' := [(5, .int (356 + (5 * (now (Int32.toNatClampNeg 355))))), (4, .int r6), (0, .ref o), (1, .int a1), (2, .int a2), (3, .int a3)]) hx hb dX6_announces_117 hl (by decide) rfl (fun ls hl => ?_)
            refine lv_aload_n hx hb dX6_announces_119 rfl (lv_at hl 2 rfl) ?_
            refine va_get (D := D) (ci := 6) (v := .ref on) (C := RX6) (T := TX6) (N := 14) hx hb ht hiX6 hown hK hP 0 rfl rfl 0 (by decide) (ht _ wb765) (fun _ h9 => h9) rfl dX6_announces_120 ?_
            refine lv_iload hx hb dX6_announces_123 (lv_at hl 0 rfl) ?_
            refine lv_aload_n hx hb dX6_announces_125 rfl (lv_at hl 2 rfl) ?_
            refine va_get (D := D) (ci := 6) (v := .ref on) (C := RX6) (T := TX6) (N := 14) hx hb ht hiX6 hown hK hP 0 rfl rfl 0 (by decide) (ht _ wb765) (fun _ h9 => h9) rfl dX6_announces_126 ?_
            refine lv_iload hx hb dX6_announces_129 (lv_at hl 1 rfl) ?_
            refine lv_iconst (v := 1) hx hb dX6_announces_131 (by decide) ?_
            refine lv_iadd hx hb dX6_announces_132 ?_
            refine lv_iload_n hx hb dX6_announces_133 rfl (lv_at hl 4 rfl) ?_
            refine lv_isub hx hb dX6_announces_134 ?_
            obtain ⟨hi5, h⟩ := zg h
            refine va_iald hx hb hK hP 1 0 rfl rfl hi5 dX6_announces_135 ?_
            obtain ⟨hi6, h⟩ := zg h
            refine va_iast hx hb hK hP hD hS 1 0 rfl rfl hi6 dX6_announces_136 (fun H locs hP hD hS => ?_)
            have hP : va_P D vwCl [(o, .inr (6, [.ref on, .ref op, .int r7.1, .ref orr, .ref ot, .int bytes, .ref oh, .ref og, .ref od, .int reading, .int at_, .int wrongAt, .int number, .long hh])), (on, .inl (k 0, 401, .inl (upd now (Int32.toNatClampNeg (356 + (5 * (now (Int32.toNatClampNeg 355))))) (now (Int32.toNatClampNeg ((r6 + 1) - a2)))))), (op, .inl (k 0, 2005, .inl r7.2)), (orr, .inl (k 0, 3, .inl refused))] H := hP
            have hD : va_D A [(o, .inr (6, [.ref on, .ref op, .int r7.1, .ref orr, .ref ot, .int bytes, .ref oh, .ref og, .ref od, .int reading, .int at_, .int wrongAt, .int number, .long hh])), (on, .inl (k 0, 401, .inl (upd now (Int32.toNatClampNeg (356 + (5 * (now (Int32.toNatClampNeg 355))))) (now (Int32.toNatClampNeg ((r6 + 1) - a2)))))), (op, .inl (k 0, 2005, .inl r7.2)), (orr, .inl (k 0, 3, .inl refused))] := hD
            refine lv_aload_n hx hb dX6_announces_137 rfl (lv_at hl 2 rfl) ?_
            refine va_get (D := D) (ci := 6) (v := .ref on) (C := RX6) (T := TX6) (N := 14) hx hb ht hiX6 hown hK hP 0 rfl rfl 0 (by decide) (ht _ wb765) (fun _ h9 => h9) rfl dX6_announces_138 ?_
            refine lv_iload hx hb dX6_announces_141 (lv_at hl 0 rfl) ?_
            refine lv_iconst (v := 1) hx hb dX6_announces_143 (by decide) ?_
            refine lv_iadd hx hb dX6_announces_144 ?_
            refine lv_aload_n hx hb dX6_announces_145 rfl (lv_at hl 2 rfl) ?_
            refine va_get (D := D) (ci := 6) (v := .ref on) (C := RX6) (T := TX6) (N := 14) hx hb ht hiX6 hown hK hP 0 rfl rfl 0 (by decide) (ht _ wb765) (fun _ h9 => h9) rfl dX6_announces_146 ?_
            refine lv_iload hx hb dX6_announces_149 (lv_at hl 1 rfl) ?_
            refine lv_iload_n hx hb dX6_announces_151 rfl (lv_at hl 4 rfl) ?_
            refine lv_iadd hx hb dX6_announces_152 ?_
            obtain ⟨hi7, h⟩ := zg h
            refine va_iald hx hb hK hP 1 0 rfl rfl hi7 dX6_announces_153 ?_
            obtain ⟨hi8, h⟩ := zg h
            refine va_iast hx hb hK hP hD hS 1 0 rfl rfl hi8 dX6_announces_154 (fun H locs hP hD hS => ?_)
            have hP : va_P D vwCl [(o, .inr (6, [.ref on, .ref op, .int r7.1, .ref orr, .ref ot, .int bytes, .ref oh, .ref og, .ref od, .int reading, .int at_, .int wrongAt, .int number, .long hh])), (on, .inl (k 0, 401, .inl (upd (upd now (Int32.toNatClampNeg (356 + (5 * (now (Int32.toNatClampNeg 355))))) (now (Int32.toNatClampNeg ((r6 + 1) - a2)))) (Int32.toNatClampNeg ((356 + (5 * (now (Int32.toNatClampNeg 355)))) + 1)) ((upd now (Int32.toNatClampNeg (356 + (5 * (now (Int32.toNatClampNeg 355))))) (now (Int32.toNatClampNeg ((r6 + 1) - a2)))) (Int32.toNatClampNeg (r6 + a2)))))), (op, .inl (k 0, 2005, .inl r7.2)), (orr, .inl (k 0, 3, .inl refused))] H := hP
            have hD : va_D A [(o, .inr (6, [.ref on, .ref op, .int r7.1, .ref orr, .ref ot, .int bytes, .ref oh, .ref og, .ref od, .int reading, .int at_, .int wrongAt, .int number, .long hh])), (on, .inl (k 0, 401, .inl (upd (upd now (Int32.toNatClampNeg (356 + (5 * (now (Int32.toNatClampNeg 355))))) (now (Int32.toNatClampNeg ((r6 + 1) - a2)))) (Int32.toNatClampNeg ((356 + (5 * (now (Int32.toNatClampNeg 355)))) + 1)) ((upd now (Int32.toNatClampNeg (356 + (5 * (now (Int32.toNatClampNeg 355))))) (now (Int32.toNatClampNeg ((r6 + 1) - a2)))) (Int32.toNatClampNeg (r6 + a2)))))), (op, .inl (k 0, 2005, .inl r7.2)), (orr, .inl (k 0, 3, .inl refused))] := hD
            refine lv_aload_n hx hb dX6_announces_155 rfl (lv_at hl 2 rfl) ?_
            refine va_get (D := D) (ci := 6) (v := .ref on) (C := RX6) (T := TX6) (N := 14) hx hb ht hiX6 hown hK hP 0 rfl rfl 0 (by decide) (ht _ wb765) (fun _ h9 => h9) rfl dX6_announces_156 ?_
            refine lv_iload hx hb dX6_announces_159 (lv_at hl 0 rfl) ?_
            refine lv_iconst (v := 2) hx hb dX6_announces_161 (by decide) ?_
            refine lv_iadd hx hb dX6_announces_162 ?_
            refine lv_iload_n hx hb dX6_announces_163 rfl (lv_at hl 5 rfl) ?_
            obtain ⟨hi9, h⟩ := zg h
            refine va_iast hx hb hK hP hD hS 1 0 rfl rfl hi9 dX6_announces_164 (fun H locs hP hD hS => ?_)
            have hP : va_P D vwCl [(o, .inr (6, [.ref on, .ref op, .int r7.1, .ref orr, .ref ot, .int bytes, .ref oh, .ref og, .ref od, .int reading, .int at_, .int wrongAt, .int number, .long hh])), (on, .inl (k 0, 401, .inl (upd (upd (upd now (Int32.toNatClampNeg (356 + (5 * (now (Int32.toNatClampNeg 355))))) (now (Int32.toNatClampNeg ((r6 + 1) - a2)))) (Int32.toNatClampNeg ((356 + (5 * (now (Int32.toNatClampNeg 355)))) + 1)) ((upd now (Int32.toNatClampNeg (356 + (5 * (now (Int32.toNatClampNeg 355))))) (now (Int32.toNatClampNeg ((r6 + 1) - a2)))) (Int32.toNatClampNeg (r6 + a2)))) (Int32.toNatClampNeg ((356 + (5 * (now (Int32.toNatClampNeg 355)))) + 2)) a3))), (op, .inl (k 0, 2005, .inl r7.2)), (orr, .inl (k 0, 3, .inl refused))] H := hP
            have hD : va_D A [(o, .inr (6, [.ref on, .ref op, .int r7.1, .ref orr, .ref ot, .int bytes, .ref oh, .ref og, .ref od, .int reading, .int at_, .int wrongAt, .int number, .long hh])), (on, .inl (k 0, 401, .inl (upd (upd (upd now (Int32.toNatClampNeg (356 + (5 * (now (Int32.toNatClampNeg 355))))) (now (Int32.toNatClampNeg ((r6 + 1) - a2)))) (Int32.toNatClampNeg ((356 + (5 * (now (Int32.toNatClampNeg 355)))) + 1)) ((upd now (Int32.toNatClampNeg (356 + (5 * (now (Int32.toNatClampNeg 355))))) (now (Int32.toNatClampNeg ((r6 + 1) - a2)))) (Int32.toNatClampNeg (r6 + a2)))) (Int32.toNatClampNeg ((356 + (5 * (now (Int32.toNatClampNeg 355)))) + 2)) a3))), (op, .inl (k 0, 2005, .inl r7.2)), (orr, .inl (k 0, 3, .inl refused))] := hD
            refine lv_aload_n hx hb dX6_announces_165 rfl (lv_at hl 2 rfl) ?_
            refine va_get (D := D) (ci := 6) (v := .ref on) (C := RX6) (T := TX6) (N := 14) hx hb ht hiX6 hown hK hP 0 rfl rfl 0 (by decide) (ht _ wb765) (fun _ h9 => h9) rfl dX6_announces_166 ?_
            refine lv_iload hx hb dX6_announces_169 (lv_at hl 0 rfl) ?_
            refine lv_iconst (v := 3) hx hb dX6_announces_171 (by decide) ?_
            refine lv_iadd hx hb dX6_announces_172 ?_
            refine lv_aload_n hx hb dX6_announces_173 rfl (lv_at hl 2 rfl) ?_
            refine va_get (D := D) (ci := 6) (v := .ref on) (C := RX6) (T := TX6) (N := 14) hx hb ht hiX6 hown hK hP 0 rfl rfl 0 (by decide) (ht _ wb765) (fun _ h9 => h9) rfl dX6_announces_174 ?_
            refine lv_iload hx hb dX6_announces_177 (lv_at hl 1 rfl) ?_
            refine lv_iconst (v := 3) hx hb dX6_announces_179 (by decide) ?_
            refine lv_iadd hx hb dX6_announces_180 ?_
            obtain ⟨hi10, h⟩ := zg h
            refine va_iald hx hb hK hP 1 0 rfl rfl hi10 dX6_announces_181 ?_
            obtain ⟨hi11, h⟩ := zg h
            refine va_iast hx hb hK hP hD hS 1 0 rfl rfl hi11 dX6_announces_182 (fun H locs hP hD hS => ?_)
            have hP : va_P D vwCl [(o, .inr (6, [.ref on, .ref op, .int r7.1, .ref orr, .ref ot, .int bytes, .ref oh, .ref og, .ref od, .int reading, .int at_, .int wrongAt, .int number, .long hh])), (on, .inl (k 0, 401, .inl (upd (upd (upd (upd now (Int32.toNatClampNeg (356 + (5 * (now (Int32.toNatClampNeg 355))))) (now (Int32.toNatClampNeg ((r6 + 1) - a2)))) (Int32.toNatClampNeg ((356 + (5 * (now (Int32.toNatClampNeg 355)))) + 1)) ((upd now (Int32.toNatClampNeg (356 + (5 * (now (Int32.toNatClampNeg 355))))) (now (Int32.toNatClampNeg ((r6 + 1) - a2)))) (Int32.toNatClampNeg (r6 + a2)))) (Int32.toNatClampNeg ((356 + (5 * (now (Int32.toNatClampNeg 355)))) + 2)) a3) (Int32.toNatClampNeg ((356 + (5 * (now (Int32.toNatClampNeg 355)))) + 3)) ((upd (upd (upd now (Int32.toNatClampNeg (356 + (5 * (now (Int32.toNatClampNeg 355))))) (now (Int32.toNatClampNeg ((r6 + 1) - a2)))) (Int32.toNatClampNeg ((356 + (5 * (now (Int32.toNatClampNeg 355)))) + 1)) ((upd now (Int32.toNatClampNeg (356 + (5 * (now (Int32.toNatClampNeg 355))))) (now (Int32.toNatClampNeg ((r6 + 1) - a2)))) (Int32.toNatClampNeg (r6 + a2)))) (Int32.toNatClampNeg ((356 + (5 * (now (Int32.toNatClampNeg 355)))) + 2)) a3) (Int32.toNatClampNeg (r6 + 3)))))), (op, .inl (k 0, 2005, .inl r7.2)), (orr, .inl (k 0, 3, .inl refused))] H := hP
            have hD : va_D A [(o, .inr (6, [.ref on, .ref op, .int r7.1, .ref orr, .ref ot, .int bytes, .ref oh, .ref og, .ref od, .int reading, .int at_, .int wrongAt, .int number, .long hh])), (on, .inl (k 0, 401, .inl (upd (upd (upd (upd now (Int32.toNatClampNeg (356 + (5 * (now (Int32.toNatClampNeg 355))))) (now (Int32.toNatClampNeg ((r6 + 1) - a2)))) (Int32.toNatClampNeg ((356 + (5 * (now (Int32.toNatClampNeg 355)))) + 1)) ((upd now (Int32.toNatClampNeg (356 + (5 * (now (Int32.toNatClampNeg 355))))) (now (Int32.toNatClampNeg ((r6 + 1) - a2)))) (Int32.toNatClampNeg (r6 + a2)))) (Int32.toNatClampNeg ((356 + (5 * (now (Int32.toNatClampNeg 355)))) + 2)) a3) (Int32.toNatClampNeg ((356 + (5 * (now (Int32.toNatClampNeg 355)))) + 3)) ((upd (upd (upd now (Int32.toNatClampNeg (356 + (5 * (now (Int32.toNatClampNeg 355))))) (now (Int32.toNatClampNeg ((r6 + 1) - a2)))) (Int32.toNatClampNeg ((356 + (5 * (now (Int32.toNatClampNeg 355)))) + 1)) ((upd now (Int32.toNatClampNeg (356 + (5 * (now (Int32.toNatClampNeg 355))))) (now (Int32.toNatClampNeg ((r6 + 1) - a2)))) (Int32.toNatClampNeg (r6 + a2)))) (Int32.toNatClampNeg ((356 + (5 * (now (Int32.toNatClampNeg 355)))) + 2)) a3) (Int32.toNatClampNeg (r6 + 3)))))), (op, .inl (k 0, 2005, .inl r7.2)), (orr, .inl (k 0, 3, .inl refused))] := hD
            refine lv_aload_n hx hb dX6_announces_183 rfl (lv_at hl 2 rfl) ?_
            refine va_get (D := D) (ci := 6) (v := .ref on) (C := RX6) (T := TX6) (N := 14) hx hb ht hiX6 hown hK hP 0 rfl rfl 0 (by decide) (ht _ wb765) (fun _ h9 => h9) rfl dX6_announces_184 ?_
            refine lv_iload hx hb dX6_announces_187 (lv_at hl 0 rfl) ?_
            refine lv_iconst (v := 4) hx hb dX6_announces_189 (by decide) ?_
            refine lv_iadd hx hb dX6_announces_190 ?_
            refine lv_aload_n hx hb dX6_announces_191 rfl (lv_at hl 2 rfl) ?_
            refine va_get (D := D) (ci := 6) (v := .ref on) (C := RX6) (T := TX6) (N := 14) hx hb ht hiX6 hown hK hP 0 rfl rfl 0 (by decide) (ht _ wb765) (fun _ h9 => h9) rfl dX6_announces_192 ?_
            refine lv_sipush (v := 394) hx hb dX6_announces_195 (by decide) ?_
            obtain ⟨hi12, h⟩ := zg h
            refine va_iald hx hb hK hP 1 0 rfl rfl hi12 dX6_announces_198 ?_
            refine lv_bipush (v := 10) hx hb dX6_announces_199 (by decide) ?_
            refine lv_iadd hx hb dX6_announces_201 ?_
            obtain ⟨hi13, h⟩ := zg h
            refine va_iast hx hb hK hP hD hS 1 0 rfl rfl hi13 dX6_announces_202 (fun H locs hP hD hS => ?_)
            have hP : va_P D vwCl [(o, .inr (6, [.ref on, .ref op, .int r7.1, .ref orr, .ref ot, .int bytes, .ref oh, .ref og, .ref od, .int reading, .int at_, .int wrongAt, .int number, .long hh])), (on, .inl (k 0, 401, .inl (upd (upd (upd (upd (upd now (Int32.toNatClampNeg (356 + (5 * (now (Int32.toNatClampNeg 355))))) (now (Int32.toNatClampNeg ((r6 + 1) - a2)))) (Int32.toNatClampNeg ((356 + (5 * (now (Int32.toNatClampNeg 355)))) + 1)) ((upd now (Int32.toNatClampNeg (356 + (5 * (now (Int32.toNatClampNeg 355))))) (now (Int32.toNatClampNeg ((r6 + 1) - a2)))) (Int32.toNatClampNeg (r6 + a2)))) (Int32.toNatClampNeg ((356 + (5 * (now (Int32.toNatClampNeg 355)))) + 2)) a3) (Int32.toNatClampNeg ((356 + (5 * (now (Int32.toNatClampNeg 355)))) + 3)) ((upd (upd (upd now (Int32.toNatClampNeg (356 + (5 * (now (Int32.toNatClampNeg 355))))) (now (Int32.toNatClampNeg ((r6 + 1) - a2)))) (Int32.toNatClampNeg ((356 + (5 * (now (Int32.toNatClampNeg 355)))) + 1)) ((upd now (Int32.toNatClampNeg (356 + (5 * (now (Int32.toNatClampNeg 355))))) (now (Int32.toNatClampNeg ((r6 + 1) - a2)))) (Int32.toNatClampNeg (r6 + a2)))) (Int32.toNatClampNeg ((356 + (5 * (now (Int32.toNatClampNeg 355)))) + 2)) a3) (Int32.toNatClampNeg (r6 + 3)))) (Int32.toNatClampNeg ((356 + (5 * (now (Int32.toNatClampNeg 355)))) + 4)) (((upd (upd (upd (upd now (Int32.toNatClampNeg (356 + (5 * (now (Int32.toNatClampNeg 355))))) (now (Int32.toNatClampNeg ((r6 + 1) - a2)))) (Int32.toNatClampNeg ((356 + (5 * (now (Int32.toNatClampNeg 355)))) + 1)) ((upd now (Int32.toNatClampNeg (356 + (5 * (now (Int32.toNatClampNeg 355))))) (now (Int32.toNatClampNeg ((r6 + 1) - a2)))) (Int32.toNatClampNeg (r6 + a2)))) (Int32.toNatClampNeg ((356 + (5 * (now (Int32.toNatClampNeg 355)))) + 2)) a3) (Int32.toNatClampNeg ((356 + (5 * (now (Int32.toNatClampNeg 355)))) + 3)) ((upd (upd (upd now (Int32.toNatClampNeg (356 + (5 * (now (Int32.toNatClampNeg 355))))) (now (Int32.toNatClampNeg ((r6 + 1) - a2)))) (Int32.toNatClampNeg ((356 + (5 * (now (Int32.toNatClampNeg 355)))) + 1)) ((upd now (Int32.toNatClampNeg (356 + (5 * (now (Int32.toNatClampNeg 355))))) (now (Int32.toNatClampNeg ((r6 + 1) - a2)))) (Int32.toNatClampNeg (r6 + a2)))) (Int32.toNatClampNeg ((356 + (5 * (now (Int32.toNatClampNeg 355)))) + 2)) a3) (Int32.toNatClampNeg (r6 + 3)))) (Int32.toNatClampNeg 394)) + 10)))), (op, .inl (k 0, 2005, .inl r7.2)), (orr, .inl (k 0, 3, .inl refused))] H := hP
            have hD : va_D A [(o, .inr (6, [.ref on, .ref op, .int r7.1, .ref orr, .ref ot, .int bytes, .ref oh, .ref og, .ref od, .int reading, .int at_, .int wrongAt, .int number, .long hh])), (on, .inl (k 0, 401, .inl (upd (upd (upd (upd (upd now (Int32.toNatClampNeg (356 + (5 * (now (Int32.toNatClampNeg 355))))) (now (Int32.toNatClampNeg ((r6 + 1) - a2)))) (Int32.toNatClampNeg ((356 + (5 * (now (Int32.toNatClampNeg 355)))) + 1)) ((upd now (Int32.toNatClampNeg (356 + (5 * (now (Int32.toNatClampNeg 355))))) (now (Int32.toNatClampNeg ((r6 + 1) - a2)))) (Int32.toNatClampNeg (r6 + a2)))) (Int32.toNatClampNeg ((356 + (5 * (now (Int32.toNatClampNeg 355)))) + 2)) a3) (Int32.toNatClampNeg ((356 + (5 * (now (Int32.toNatClampNeg 355)))) + 3)) ((upd (upd (upd now (Int32.toNatClampNeg (356 + (5 * (now (Int32.toNatClampNeg 355))))) (now (Int32.toNatClampNeg ((r6 + 1) - a2)))) (Int32.toNatClampNeg ((356 + (5 * (now (Int32.toNatClampNeg 355)))) + 1)) ((upd now (Int32.toNatClampNeg (356 + (5 * (now (Int32.toNatClampNeg 355))))) (now (Int32.toNatClampNeg ((r6 + 1) - a2)))) (Int32.toNatClampNeg (r6 + a2)))) (Int32.toNatClampNeg ((356 + (5 * (now (Int32.toNatClampNeg 355)))) + 2)) a3) (Int32.toNatClampNeg (r6 + 3)))) (Int32.toNatClampNeg ((356 + (5 * (now (Int32.toNatClampNeg 355)))) + 4)) (((upd (upd (upd (upd now (Int32.toNatClampNeg (356 + (5 * (now (Int32.toNatClampNeg 355))))) (now (Int32.toNatClampNeg ((r6 + 1) - a2)))) (Int32.toNatClampNeg ((356 + (5 * (now (Int32.toNatClampNeg 355)))) + 1)) ((upd now (Int32.toNatClampNeg (356 + (5 * (now (Int32.toNatClampNeg 355))))) (now (Int32.toNatClampNeg ((r6 + 1) - a2)))) (Int32.toNatClampNeg (r6 + a2)))) (Int32.toNatClampNeg ((356 + (5 * (now (Int32.toNatClampNeg 355)))) + 2)) a3) (Int32.toNatClampNeg ((356 + (5 * (now (Int32.toNatClampNeg 355)))) + 3)) ((upd (upd (upd now (Int32.toNatClampNeg (356 + (5 * (now (Int32.toNatClampNeg 355))))) (now (Int32.toNatClampNeg ((r6 + 1) - a2)))) (Int32.toNatClampNeg ((356 + (5 * (now (Int32.toNatClampNeg 355)))) + 1)) ((upd now (Int32.toNatClampNeg (356 + (5 * (now (Int32.toNatClampNeg 355))))) (now (Int32.toNatClampNeg ((r6 + 1) - a2)))) (Int32.toNatClampNeg (r6 + a2)))) (Int32.toNatClampNeg ((356 + (5 * (now (Int32.toNatClampNeg 355)))) + 2)) a3) (Int32.toNatClampNeg (r6 + 3)))) (Int32.toNatClampNeg 394)) + 10)))), (op, .inl (k 0, 2005, .inl r7.2)), (orr, .inl (k 0, 3, .inl refused))] := hD
            refine lv_aload_n hx hb dX6_announces_203 rfl (lv_at hl 2 rfl) ?_
            refine va_get (D := D) (ci := 6) (v := .ref on) (C := RX6) (T := TX6) (N := 14) hx hb ht hiX6 hown hK hP 0 rfl rfl 0 (by decide) (ht _ wb765) (fun _ h9 => h9) rfl dX6_announces_204 ?_
            refine lv_sipush (v := 355) hx hb dX6_announces_207 (by decide) ?_
            refine lv_dup2_11 hx hb dX6_announces_210 rfl rfl ?_
            obtain ⟨hi14, h⟩ := zg h
            refine va_iald hx hb hK hP 1 0 rfl rfl hi14 dX6_announces_211 ?_
            refine lv_iconst (v := 1) hx hb dX6_announces_212 (by decide) ?_
            refine lv_iadd hx hb dX6_announces_213 ?_
            obtain ⟨hi15, h⟩ := zg h
            refine va_iast hx hb hK hP hD hS 1 0 rfl rfl hi15 dX6_announces_214 (fun H locs hP hD hS => ?_)
            have hP : va_P D vwCl [(o, .inr (6, [.ref on, .ref op, .int r7.1, .ref orr, .ref ot, .int bytes, .ref oh, .ref og, .ref od, .int reading, .int at_, .int wrongAt, .int number, .long hh])), (on, .inl (k 0, 401, .inl (upd (upd (upd (upd (upd (upd now (Int32.toNatClampNeg (356 + (5 * (now (Int32.toNatClampNeg 355))))) (now (Int32.toNatClampNeg ((r6 + 1) - a2)))) (Int32.toNatClampNeg ((356 + (5 * (now (Int32.toNatClampNeg 355)))) + 1)) ((upd now (Int32.toNatClampNeg (356 + (5 * (now (Int32.toNatClampNeg 355))))) (now (Int32.toNatClampNeg ((r6 + 1) - a2)))) (Int32.toNatClampNeg (r6 + a2)))) (Int32.toNatClampNeg ((356 + (5 * (now (Int32.toNatClampNeg 355)))) + 2)) a3) (Int32.toNatClampNeg ((356 + (5 * (now (Int32.toNatClampNeg 355)))) + 3)) ((upd (upd (upd now (Int32.toNatClampNeg (356 + (5 * (now (Int32.toNatClampNeg 355))))) (now (Int32.toNatClampNeg ((r6 + 1) - a2)))) (Int32.toNatClampNeg ((356 + (5 * (now (Int32.toNatClampNeg 355)))) + 1)) ((upd now (Int32.toNatClampNeg (356 + (5 * (now (Int32.toNatClampNeg 355))))) (now (Int32.toNatClampNeg ((r6 + 1) - a2)))) (Int32.toNatClampNeg (r6 + a2)))) (Int32.toNatClampNeg ((356 + (5 * (now (Int32.toNatClampNeg 355)))) + 2)) a3) (Int32.toNatClampNeg (r6 + 3)))) (Int32.toNatClampNeg ((356 + (5 * (now (Int32.toNatClampNeg 355)))) + 4)) (((upd (upd (upd (upd now (Int32.toNatClampNeg (356 + (5 * (now (Int32.toNatClampNeg 355))))) (now (Int32.toNatClampNeg ((r6 + 1) - a2)))) (Int32.toNatClampNeg ((356 + (5 * (now (Int32.toNatClampNeg 355)))) + 1)) ((upd now (Int32.toNatClampNeg (356 + (5 * (now (Int32.toNatClampNeg 355))))) (now (Int32.toNatClampNeg ((r6 + 1) - a2)))) (Int32.toNatClampNeg (r6 + a2)))) (Int32.toNatClampNeg ((356 + (5 * (now (Int32.toNatClampNeg 355)))) + 2)) a3) (Int32.toNatClampNeg ((356 + (5 * (now (Int32.toNatClampNeg 355)))) + 3)) ((upd (upd (upd now (Int32.toNatClampNeg (356 + (5 * (now (Int32.toNatClampNeg 355))))) (now (Int32.toNatClampNeg ((r6 + 1) - a2)))) (Int32.toNatClampNeg ((356 + (5 * (now (Int32.toNatClampNeg 355)))) + 1)) ((upd now (Int32.toNatClampNeg (356 + (5 * (now (Int32.toNatClampNeg 355))))) (now (Int32.toNatClampNeg ((r6 + 1) - a2)))) (Int32.toNatClampNeg (r6 + a2)))) (Int32.toNatClampNeg ((356 + (5 * (now (Int32.toNatClampNeg 355)))) + 2)) a3) (Int32.toNatClampNeg (r6 + 3)))) (Int32.toNatClampNeg 394)) + 10)) (Int32.toNatClampNeg 355) (((upd (upd (upd (upd (upd now (Int32.toNatClampNeg (356 + (5 * (now (Int32.toNatClampNeg 355))))) (now (Int32.toNatClampNeg ((r6 + 1) - a2)))) (Int32.toNatClampNeg ((356 + (5 * (now (Int32.toNatClampNeg 355)))) + 1)) ((upd now (Int32.toNatClampNeg (356 + (5 * (now (Int32.toNatClampNeg 355))))) (now (Int32.toNatClampNeg ((r6 + 1) - a2)))) (Int32.toNatClampNeg (r6 + a2)))) (Int32.toNatClampNeg ((356 + (5 * (now (Int32.toNatClampNeg 355)))) + 2)) a3) (Int32.toNatClampNeg ((356 + (5 * (now (Int32.toNatClampNeg 355)))) + 3)) ((upd (upd (upd now (Int32.toNatClampNeg (356 + (5 * (now (Int32.toNatClampNeg 355))))) (now (Int32.toNatClampNeg ((r6 + 1) - a2)))) (Int32.toNatClampNeg ((356 + (5 * (now (Int32.toNatClampNeg 355)))) + 1)) ((upd now (Int32.toNatClampNeg (356 + (5 * (now (Int32.toNatClampNeg 355))))) (now (Int32.toNatClampNeg ((r6 + 1) - a2)))) (Int32.toNatClampNeg (r6 + a2)))) (Int32.toNatClampNeg ((356 + (5 * (now (Int32.toNatClampNeg 355)))) + 2)) a3) (Int32.toNatClampNeg (r6 + 3)))) (Int32.toNatClampNeg ((356 + (5 * (now (Int32.toNatClampNeg 355)))) + 4)) (((upd (upd (upd (upd now (Int32.toNatClampNeg (356 + (5 * (now (Int32.toNatClampNeg 355))))) (now (Int32.toNatClampNeg ((r6 + 1) - a2)))) (Int32.toNatClampNeg ((356 + (5 * (now (Int32.toNatClampNeg 355)))) + 1)) ((upd now (Int32.toNatClampNeg (356 + (5 * (now (Int32.toNatClampNeg 355))))) (now (Int32.toNatClampNeg ((r6 + 1) - a2)))) (Int32.toNatClampNeg (r6 + a2)))) (Int32.toNatClampNeg ((356 + (5 * (now (Int32.toNatClampNeg 355)))) + 2)) a3) (Int32.toNatClampNeg ((356 + (5 * (now (Int32.toNatClampNeg 355)))) + 3)) ((upd (upd (upd now (Int32.toNatClampNeg (356 + (5 * (now (Int32.toNatClampNeg 355))))) (now (Int32.toNatClampNeg ((r6 + 1) - a2)))) (Int32.toNatClampNeg ((356 + (5 * (now (Int32.toNatClampNeg 355)))) + 1)) ((upd now (Int32.toNatClampNeg (356 + (5 * (now (Int32.toNatClampNeg 355))))) (now (Int32.toNatClampNeg ((r6 + 1) - a2)))) (Int32.toNatClampNeg (r6 + a2)))) (Int32.toNatClampNeg ((356 + (5 * (now (Int32.toNatClampNeg 355)))) + 2)) a3) (Int32.toNatClampNeg (r6 + 3)))) (Int32.toNatClampNeg 394)) + 10)) (Int32.toNatClampNeg 355)) + 1)))), (op, .inl (k 0, 2005, .inl r7.2)), (orr, .inl (k 0, 3, .inl refused))] H := hP
            have hD : va_D A [(o, .inr (6, [.ref on, .ref op, .int r7.1, .ref orr, .ref ot, .int bytes, .ref oh, .ref og, .ref od, .int reading, .int at_, .int wrongAt, .int number, .long hh])), (on, .inl (k 0, 401, .inl (upd (upd (upd (upd (upd (upd now (Int32.toNatClampNeg (356 + (5 * (now (Int32.toNatClampNeg 355))))) (now (Int32.toNatClampNeg ((r6 + 1) - a2)))) (Int32.toNatClampNeg ((356 + (5 * (now (Int32.toNatClampNeg 355)))) + 1)) ((upd now (Int32.toNatClampNeg (356 + (5 * (now (Int32.toNatClampNeg 355))))) (now (Int32.toNatClampNeg ((r6 + 1) - a2)))) (Int32.toNatClampNeg (r6 + a2)))) (Int32.toNatClampNeg ((356 + (5 * (now (Int32.toNatClampNeg 355)))) + 2)) a3) (Int32.toNatClampNeg ((356 + (5 * (now (Int32.toNatClampNeg 355)))) + 3)) ((upd (upd (upd now (Int32.toNatClampNeg (356 + (5 * (now (Int32.toNatClampNeg 355))))) (now (Int32.toNatClampNeg ((r6 + 1) - a2)))) (Int32.toNatClampNeg ((356 + (5 * (now (Int32.toNatClampNeg 355)))) + 1)) ((upd now (Int32.toNatClampNeg (356 + (5 * (now (Int32.toNatClampNeg 355))))) (now (Int32.toNatClampNeg ((r6 + 1) - a2)))) (Int32.toNatClampNeg (r6 + a2)))) (Int32.toNatClampNeg ((356 + (5 * (now (Int32.toNatClampNeg 355)))) + 2)) a3) (Int32.toNatClampNeg (r6 + 3)))) (Int32.toNatClampNeg ((356 + (5 * (now (Int32.toNatClampNeg 355)))) + 4)) (((upd (upd (upd (upd now (Int32.toNatClampNeg (356 + (5 * (now (Int32.toNatClampNeg 355))))) (now (Int32.toNatClampNeg ((r6 + 1) - a2)))) (Int32.toNatClampNeg ((356 + (5 * (now (Int32.toNatClampNeg 355)))) + 1)) ((upd now (Int32.toNatClampNeg (356 + (5 * (now (Int32.toNatClampNeg 355))))) (now (Int32.toNatClampNeg ((r6 + 1) - a2)))) (Int32.toNatClampNeg (r6 + a2)))) (Int32.toNatClampNeg ((356 + (5 * (now (Int32.toNatClampNeg 355)))) + 2)) a3) (Int32.toNatClampNeg ((356 + (5 * (now (Int32.toNatClampNeg 355)))) + 3)) ((upd (upd (upd now (Int32.toNatClampNeg (356 + (5 * (now (Int32.toNatClampNeg 355))))) (now (Int32.toNatClampNeg ((r6 + 1) - a2)))) (Int32.toNatClampNeg ((356 + (5 * (now (Int32.toNatClampNeg 355)))) + 1)) ((upd now (Int32.toNatClampNeg (356 + (5 * (now (Int32.toNatClampNeg 355))))) (now (Int32.toNatClampNeg ((r6 + 1) - a2)))) (Int32.toNatClampNeg (r6 + a2)))) (Int32.toNatClampNeg ((356 + (5 * (now (Int32.toNatClampNeg 355)))) + 2)) a3) (Int32.toNatClampNeg (r6 + 3)))) (Int32.toNatClampNeg 394)) + 10)) (Int32.toNatClampNeg 355) (((upd (upd (upd (upd (upd now (Int32.toNatClampNeg (356 + (5 * (now (Int32.toNatClampNeg 355))))) (now (Int32.toNatClampNeg ((r6 + 1) - a2)))) (Int32.toNatClampNeg ((356 + (5 * (now (Int32.toNatClampNeg 355)))) + 1)) ((upd now (Int32.toNatClampNeg (356 + (5 * (now (Int32.toNatClampNeg 355))))) (now (Int32.toNatClampNeg ((r6 + 1) - a2)))) (Int32.toNatClampNeg (r6 + a2)))) (Int32.toNatClampNeg ((356 + (5 * (now (Int32.toNatClampNeg 355)))) + 2)) a3) (Int32.toNatClampNeg ((356 + (5 * (now (Int32.toNatClampNeg 355)))) + 3)) ((upd (upd (upd now (Int32.toNatClampNeg (356 + (5 * (now (Int32.toNatClampNeg 355))))) (now (Int32.toNatClampNeg ((r6 + 1) - a2)))) (Int32.toNatClampNeg ((356 + (5 * (now (Int32.toNatClampNeg 355)))) + 1)) ((upd now (Int32.toNatClampNeg (356 + (5 * (now (Int32.toNatClampNeg 355))))) (now (Int32.toNatClampNeg ((r6 + 1) - a2)))) (Int32.toNatClampNeg (r6 + a2)))) (Int32.toNatClampNeg ((356 + (5 * (now (Int32.toNatClampNeg 355)))) + 2)) a3) (Int32.toNatClampNeg (r6 + 3)))) (Int32.toNatClampNeg ((356 + (5 * (now (Int32.toNatClampNeg 355)))) + 4)) (((upd (upd (upd (upd now (Int32.toNatClampNeg (356 + (5 * (now (Int32.toNatClampNeg 355))))) (now (Int32.toNatClampNeg ((r6 + 1) - a2)))) (Int32.toNatClampNeg ((356 + (5 * (now (Int32.toNatClampNeg 355)))) + 1)) ((upd now (Int32.toNatClampNeg (356 + (5 * (now (Int32.toNatClampNeg 355))))) (now (Int32.toNatClampNeg ((r6 + 1) - a2)))) (Int32.toNatClampNeg (r6 + a2)))) (Int32.toNatClampNeg ((356 + (5 * (now (Int32.toNatClampNeg 355)))) + 2)) a3) (Int32.toNatClampNeg ((356 + (5 * (now (Int32.toNatClampNeg 355)))) + 3)) ((upd (upd (upd now (Int32.toNatClampNeg (356 + (5 * (now (Int32.toNatClampNeg 355))))) (now (Int32.toNatClampNeg ((r6 + 1) - a2)))) (Int32.toNatClampNeg ((356 + (5 * (now (Int32.toNatClampNeg 355)))) + 1)) ((upd now (Int32.toNatClampNeg (356 + (5 * (now (Int32.toNatClampNeg 355))))) (now (Int32.toNatClampNeg ((r6 + 1) - a2)))) (Int32.toNatClampNeg (r6 + a2)))) (Int32.toNatClampNeg ((356 + (5 * (now (Int32.toNatClampNeg 355)))) + 2)) a3) (Int32.toNatClampNeg (r6 + 3)))) (Int32.toNatClampNeg 394)) + 10)) (Int32.toNatClampNeg 355)) + 1)))), (op, .inl (k 0, 2005, .inl r7.2)), (orr, .inl (k 0, 3, .inl refused))] := hD
            refine lv_aload_n hx hb dX6_announces_215 rfl (lv_at hl 2 rfl) ?_
            refine va_get (D := D) (ci := 6) (v := .ref on) (C := RX6) (T := TX6) (N := 14) hx hb ht hiX6 hown hK hP 0 rfl rfl 0 (by decide) (ht _ wb765) (fun _ h9 => h9) rfl dX6_announces_216 ?_
            refine lv_sipush (v := 355) hx hb dX6_announces_219 (by decide) ?_
            obtain ⟨hi16, h⟩ := zg h
            refine va_iald hx hb hK hP 1 0 rfl rfl hi16 dX6_announces_222 ?_
            obtain rfl := Option.some.inj h
            exact W.iret (v := (upd (upd (upd (upd (upd (upd now (Int32.toNatClampNeg (356 + (5 * (now (Int32.toNatClampNeg 355))))) (now (Int32.toNatClampNeg ((r6 + 1) - a2)))) (Int32.toNatClampNeg ((356 + (5 * (now (Int32.toNatClampNeg 355)))) + 1)) ((upd now (Int32.toNatClampNeg (356 + (5 * (now (Int32.toNatClampNeg 355))))) (now (Int32.toNatClampNeg ((r6 + 1) - a2)))) (Int32.toNatClampNeg (r6 + a2)))) (Int32.toNatClampNeg ((356 + (5 * (now (Int32.toNatClampNeg 355)))) + 2)) a3) (Int32.toNatClampNeg ((356 + (5 * (now (Int32.toNatClampNeg 355)))) + 3)) ((upd (upd (upd now (Int32.toNatClampNeg (356 + (5 * (now (Int32.toNatClampNeg 355))))) (now (Int32.toNatClampNeg ((r6 + 1) - a2)))) (Int32.toNatClampNeg ((356 + (5 * (now (Int32.toNatClampNeg 355)))) + 1)) ((upd now (Int32.toNatClampNeg (356 + (5 * (now (Int32.toNatClampNeg 355))))) (now (Int32.toNatClampNeg ((r6 + 1) - a2)))) (Int32.toNatClampNeg (r6 + a2)))) (Int32.toNatClampNeg ((356 + (5 * (now (Int32.toNatClampNeg 355)))) + 2)) a3) (Int32.toNatClampNeg (r6 + 3)))) (Int32.toNatClampNeg ((356 + (5 * (now (Int32.toNatClampNeg 355)))) + 4)) (((upd (upd (upd (upd now (Int32.toNatClampNeg (356 + (5 * (now (Int32.toNatClampNeg 355))))) (now (Int32.toNatClampNeg ((r6 + 1) - a2)))) (Int32.toNatClampNeg ((356 + (5 * (now (Int32.toNatClampNeg 355)))) + 1)) ((upd now (Int32.toNatClampNeg (356 + (5 * (now (Int32.toNatClampNeg 355))))) (now (Int32.toNatClampNeg ((r6 + 1) - a2)))) (Int32.toNatClampNeg (r6 + a2)))) (Int32.toNatClampNeg ((356 + (5 * (now (Int32.toNatClampNeg 355)))) + 2)) a3) (Int32.toNatClampNeg ((356 + (5 * (now (Int32.toNatClampNeg 355)))) + 3)) ((upd (upd (upd now (Int32.toNatClampNeg (356 + (5 * (now (Int32.toNatClampNeg 355))))) (now (Int32.toNatClampNeg ((r6 + 1) - a2)))) (Int32.toNatClampNeg ((356 + (5 * (now (Int32.toNatClampNeg 355)))) + 1)) ((upd now (Int32.toNatClampNeg (356 + (5 * (now (Int32.toNatClampNeg 355))))) (now (Int32.toNatClampNeg ((r6 + 1) - a2)))) (Int32.toNatClampNeg (r6 + a2)))) (Int32.toNatClampNeg ((356 + (5 * (now (Int32.toNatClampNeg 355)))) + 2)) a3) (Int32.toNatClampNeg (r6 + 3)))) (Int32.toNatClampNeg 394)) + 10)) (Int32.toNatClampNeg 355) (((upd (upd (upd (upd (upd now (Int32.toNatClampNeg (356 + (5 * (now (Int32.toNatClampNeg 355))))) (now (Int32.toNatClampNeg ((r6 + 1) - a2)))) (Int32.toNatClampNeg ((356 + (5 * (now (Int32.toNatClampNeg 355)))) + 1)) ((upd now (Int32.toNatClampNeg (356 + (5 * (now (Int32.toNatClampNeg 355))))) (now (Int32.toNatClampNeg ((r6 + 1) - a2)))) (Int32.toNatClampNeg (r6 + a2)))) (Int32.toNatClampNeg ((356 + (5 * (now (Int32.toNatClampNeg 355)))) + 2)) a3) (Int32.toNatClampNeg ((356 + (5 * (now (Int32.toNatClampNeg 355)))) + 3)) ((upd (upd (upd now (Int32.toNatClampNeg (356 + (5 * (now (Int32.toNatClampNeg 355))))) (now (Int32.toNatClampNeg ((r6 + 1) - a2)))) (Int32.toNatClampNeg ((356 + (5 * (now (Int32.toNatClampNeg 355)))) + 1)) ((upd now (Int32.toNatClampNeg (356 + (5 * (now (Int32.toNatClampNeg 355))))) (now (Int32.toNatClampNeg ((r6 + 1) - a2)))) (Int32.toNatClampNeg (r6 + a2)))) (Int32.toNatClampNeg ((356 + (5 * (now (Int32.toNatClampNeg 355)))) + 2)) a3) (Int32.toNatClampNeg (r6 + 3)))) (Int32.toNatClampNeg ((356 + (5 * (now (Int32.toNatClampNeg 355)))) + 4)) (((upd (upd (upd (upd now (Int32.toNatClampNeg (356 + (5 * (now (Int32.toNatClampNeg 355))))) (now (Int32.toNatClampNeg ((r6 + 1) - a2)))) (Int32.toNatClampNeg ((356 + (5 * (now (Int32.toNatClampNeg 355)))) + 1)) ((upd now (Int32.toNatClampNeg (356 + (5 * (now (Int32.toNatClampNeg 355))))) (now (Int32.toNatClampNeg ((r6 + 1) - a2)))) (Int32.toNatClampNeg (r6 + a2)))) (Int32.toNatClampNeg ((356 + (5 * (now (Int32.toNatClampNeg 355)))) + 2)) a3) (Int32.toNatClampNeg ((356 + (5 * (now (Int32.toNatClampNeg 355)))) + 3)) ((upd (upd (upd now (Int32.toNatClampNeg (356 + (5 * (now (Int32.toNatClampNeg 355))))) (now (Int32.toNatClampNeg ((r6 + 1) - a2)))) (Int32.toNatClampNeg ((356 + (5 * (now (Int32.toNatClampNeg 355)))) + 1)) ((upd now (Int32.toNatClampNeg (356 + (5 * (now (Int32.toNatClampNeg 355))))) (now (Int32.toNatClampNeg ((r6 + 1) - a2)))) (Int32.toNatClampNeg (r6 + a2)))) (Int32.toNatClampNeg ((356 + (5 * (now (Int32.toNatClampNeg 355)))) + 2)) a3) (Int32.toNatClampNeg (r6 + 3)))) (Int32.toNatClampNeg 394)) + 10)) (Int32.toNatClampNeg 355)) + 1)) (Int32.toNatClampNeg 355)) hx hb hr (fun t ht9 hW => ⟨⟨_, (), rfl, rfl, zend ht9 hP⟩, hS.F ht9⟩) hS.2.2 dX6_announces_223
          · have h := zt h c1
            refine lv_aload_n hx hb dX6_announces_94 rfl (lv_at hl 1 rfl) ?_
            obtain ⟨r8, h8, h⟩ := zb h
            refine zi (zrV (C := RX6) (T := TX6) (N := 14) (As := []) (rest := []) ⟨hx, hb, hml, hown, ht⟩ (c_X6_full l D k o on op orr ot oh og od states bytes reading at_ wrongAt number hh refused  h8 _) (cwV 0 ht (gdV wb842 wb844 wb31 wb80 wb845) rfl rfl rfl (by decide +kernel) ⟨Nat.le_of_ble_eq_true rfl, Nat.le_of_ble_eq_true rfl⟩) hK hP hD hS hA hm [0, 3] rfl rfl 0 6 rfl rfl rfl hl.1 rfl (Nat.le_of_ble_eq_true rfl) dX6_announces_95 ⟨Nat.le_refl _, Nat.le_refl _⟩) hP hD hS hA [0, 3] rfl rfl (fun H locs hP hD hS => ?_)
            have hP : va_P D vwCl [(o, .inr (6, [.ref on, .ref op, .int states, .ref orr, .ref ot, .int bytes, .ref oh, .ref og, .ref od, .int reading, .int at_, .int wrongAt, .int number, .long hh])), (on, .inl (k 0, 401, .inl now)), (op, .inl (k 0, 2005, .inl past)), (orr, .inl (k 0, 3, .inl r8.2))] H := hP
            have hD : va_D A [(o, .inr (6, [.ref on, .ref op, .int states, .ref orr, .ref ot, .int bytes, .ref oh, .ref og, .ref od, .int reading, .int at_, .int wrongAt, .int number, .long hh])), (on, .inl (k 0, 401, .inl now)), (op, .inl (k 0, 2005, .inl past)), (orr, .inl (k 0, 3, .inl r8.2))] := hD
            obtain rfl := Option.some.inj h
            exact W.iret (v := r8.1) hx hb hr (fun t ht9 hW => ⟨⟨_, (), rfl, rfl, zend ht9 hP⟩, hS.F ht9⟩) hS.2.2 dX6_announces_98
        · have h := zf h c4
          refine lv_aload_n hx hb dX6_announces_62 rfl (lv_at hl 1 rfl) ?_
          refine va_get (D := D) (ci := 6) (v := .ref on) (C := RX6) (T := TX6) (N := 14) hx hb ht hiX6 hown hK hP 0 rfl rfl 0 (by decide) (ht _ wb765) (fun _ h9 => h9) rfl dX6_announces_63 ?_
          refine lv_iload hx hb dX6_announces_66 (lv_at hl 0 rfl) ?_
          refine lv_iconst (v := 4) hx hb dX6_announces_68 (by decide) ?_
          refine lv_iadd hx hb dX6_announces_69 ?_
          obtain ⟨hi17, h⟩ := zg h
          refine va_iald hx hb hK hP 1 0 rfl rfl hi17 dX6_announces_70 ?_
          refine lv_bipush (v := 7) hx hb dX6_announces_71 (by decide) ?_
          refine lv_icmp_eq (tgt := 81) hx hb dX6_announces_73 (by decide) (fun c3 => ?_) (fun c3 => ?_)
          · have h := zt h c3
            refine lv_aload_n hx hb dX6_announces_81 rfl (lv_at hl 1 rfl) ?_
            refine va_get (D := D) (ci := 6) (v := .ref on) (C := RX6) (T := TX6) (N := 14) hx hb ht hiX6 hown hK hP 0 rfl rfl 0 (by decide) (ht _ wb765) (fun _ h9 => h9) rfl dX6_announces_82 ?_
            refine lv_sipush (v := 355) hx hb dX6_announces_85 (by decide) ?_
            obtain ⟨hi18, h⟩ := zg h
            refine va_iald hx hb hK hP 1 0 rfl rfl hi18 dX6_announces_88 ?_
            refine lv_bipush (v := 6) hx hb dX6_announces_89 (by decide) ?_
            refine lv_icmp_ne (tgt := 99) hx hb dX6_announces_91 (by decide) (fun c2 => ?_) (fun c2 => ?_)
            · have h := zf h c2
              refine lv_aload_n hx hb dX6_announces_99 rfl (lv_at hl 1 rfl) ?_
              obtain ⟨r9, h9, h⟩ := zb h
              refine zv (zrV (C := RX6) (T := TX6) (N := 14) (As := []) (rest := []) ⟨hx, hb, hml, hown, ht⟩ (c_X6_remembers l D k o on op orr ot oh og od states bytes reading at_ wrongAt number hh now past  fu h9 _) (cwV 0 ht (gdV wb830 wb832 wb30 wb80 wb833) rfl rfl rfl (by decide +kernel) ⟨Nat.le_of_ble_eq_true rfl, Nat.le_of_ble_eq_true rfl⟩) hK hP hD hS hA hm [0, 1, 2] rfl rfl 0 6 rfl rfl rfl hl.1 rfl (Nat.le_of_ble_eq_true rfl) dX6_announces_100 ⟨Nat.le_refl _, Nat.le_refl _⟩) hP hD hS hA [0, 1, 2] rfl rfl (fun H locs hP hD hS => ?_)
              have hP : va_P D vwCl [(o, .inr (6, [.ref on, .ref op, .int r9.1, .ref orr, .ref ot, .int bytes, .ref oh, .ref og, .ref od, .int reading, .int at_, .int wrongAt, .int number, .long hh])), (on, .inl (k 0, 401, .inl now)), (op, .inl (k 0, 2005, .inl r9.2)), (orr, .inl (k 0, 3, .inl refused))] H := hP
              have hD : va_D A [(o, .inr (6, [.ref on, .ref op, .int r9.1, .ref orr, .ref ot, .int bytes, .ref oh, .ref og, .ref od, .int reading, .int at_, .int wrongAt, .int number, .long hh])), (on, .inl (k 0, 401, .inl now)), (op, .inl (k 0, 2005, .inl r9.2)), (orr, .inl (k 0, 3, .inl refused))] := hD
              refine lv_sipush (v := 356) hx hb dX6_announces_103 (by decide) ?_
              refine lv_iconst (v := 5) hx hb dX6_announces_106 (by decide) ?_
              refine lv_aload_n hx hb dX6_announces_107 rfl (lv_at hl 1 rfl) ?_
              refine va_get (D := D) (ci := 6) (v := .ref on) (C := RX6) (T := TX6) (N := 14) hx hb ht hiX6 hown hK hP 0 rfl rfl 0 (by decide) (ht _ wb765) (fun _ h9 => h9) rfl dX6_announces_108 ?_
              refine lv_sipush (v := 355) hx hb dX6_announces_111 (by decide) ?_
              obtain ⟨hi19, h⟩ := zg h
              refine va_iald hx hb hK hP 1 0 rfl rfl hi19 dX6_announces_114 ?_
              refine lv_imul hx hb dX6_announces_115 ?_
              refine lv_iadd hx hb dX6_announces_116 ?_
              refine lv_istore (lv' := [(5, .int (356 + (5 * (now (Int32.toNatClampNeg 355))))), (4, .int r6), (0, .ref o), (1, .int a1), (2, .int a2), (3, .int a3)]) hx hb dX6_announces_117 hl (by decide) rfl (fun ls hl => ?_)
              refine lv_aload_n hx hb dX6_announces_119 rfl (lv_at hl 2 rfl) ?_
              refine va_get (D := D) (ci := 6) (v := .ref on) (C := RX6) (T := TX6) (N := 14) hx hb ht hiX6 hown hK hP 0 rfl rfl 0 (by decide) (ht _ wb765) (fun _ h9 => h9) rfl dX6_announces_120 ?_
              refine lv_iload hx hb dX6_announces_123 (lv_at hl 0 rfl) ?_
              refine lv_aload_n hx hb dX6_announces_125 rfl (lv_at hl 2 rfl) ?_
              refine va_get (D := D) (ci := 6) (v := .ref on) (C := RX6) (T := TX6) (N := 14) hx hb ht hiX6 hown hK hP 0 rfl rfl 0 (by decide) (ht _ wb765) (fun _ h9 => h9) rfl dX6_announces_126 ?_
              refine lv_iload hx hb dX6_announces_129 (lv_at hl 1 rfl) ?_
              refine lv_iconst (v := 1) hx hb dX6_announces_131 (by decide) ?_
              refine lv_iadd hx hb dX6_announces_132 ?_
              refine lv_iload_n hx hb dX6_announces_133 rfl (lv_at hl 4 rfl) ?_
              refine lv_isub hx hb dX6_announces_134 ?_
              obtain ⟨hi20, h⟩ := zg h
              refine va_iald hx hb hK hP 1 0 rfl rfl hi20 dX6_announces_135 ?_
              obtain ⟨hi21, h⟩ := zg h
              refine va_iast hx hb hK hP hD hS 1 0 rfl rfl hi21 dX6_announces_136 (fun H locs hP hD hS => ?_)
              have hP : va_P D vwCl [(o, .inr (6, [.ref on, .ref op, .int r9.1, .ref orr, .ref ot, .int bytes, .ref oh, .ref og, .ref od, .int reading, .int at_, .int wrongAt, .int number, .long hh])), (on, .inl (k 0, 401, .inl (upd now (Int32.toNatClampNeg (356 + (5 * (now (Int32.toNatClampNeg 355))))) (now (Int32.toNatClampNeg ((r6 + 1) - a2)))))), (op, .inl (k 0, 2005, .inl r9.2)), (orr, .inl (k 0, 3, .inl refused))] H := hP
              have hD : va_D A [(o, .inr (6, [.ref on, .ref op, .int r9.1, .ref orr, .ref ot, .int bytes, .ref oh, .ref og, .ref od, .int reading, .int at_, .int wrongAt, .int number, .long hh])), (on, .inl (k 0, 401, .inl (upd now (Int32.toNatClampNeg (356 + (5 * (now (Int32.toNatClampNeg 355))))) (now (Int32.toNatClampNeg ((r6 + 1) - a2)))))), (op, .inl (k 0, 2005, .inl r9.2)), (orr, .inl (k 0, 3, .inl refused))] := hD
              refine lv_aload_n hx hb dX6_announces_137 rfl (lv_at hl 2 rfl) ?_
              refine va_get (D := D) (ci := 6) (v := .ref on) (C := RX6) (T := TX6) (N := 14) hx hb ht hiX6 hown hK hP 0 rfl rfl 0 (by decide) (ht _ wb765) (fun _ h9 => h9) rfl dX6_announces_138 ?_
              refine lv_iload hx hb dX6_announces_141 (lv_at hl 0 rfl) ?_
              refine lv_iconst (v := 1) hx hb dX6_announces_143 (by decide) ?_
              refine lv_iadd hx hb dX6_announces_144 ?_
              refine lv_aload_n hx hb dX6_announces_145 rfl (lv_at hl 2 rfl) ?_
              refine va_get (D := D) (ci := 6) (v := .ref on) (C := RX6) (T := TX6) (N := 14) hx hb ht hiX6 hown hK hP 0 rfl rfl 0 (by decide) (ht _ wb765) (fun _ h9 => h9) rfl dX6_announces_146 ?_
              refine lv_iload hx hb dX6_announces_149 (lv_at hl 1 rfl) ?_
              refine lv_iload_n hx hb dX6_announces_151 rfl (lv_at hl 4 rfl) ?_
              refine lv_iadd hx hb dX6_announces_152 ?_
              obtain ⟨hi22, h⟩ := zg h
              refine va_iald hx hb hK hP 1 0 rfl rfl hi22 dX6_announces_153 ?_
              obtain ⟨hi23, h⟩ := zg h
              refine va_iast hx hb hK hP hD hS 1 0 rfl rfl hi23 dX6_announces_154 (fun H locs hP hD hS => ?_)
              have hP : va_P D vwCl [(o, .inr (6, [.ref on, .ref op, .int r9.1, .ref orr, .ref ot, .int bytes, .ref oh, .ref og, .ref od, .int reading, .int at_, .int wrongAt, .int number, .long hh])), (on, .inl (k 0, 401, .inl (upd (upd now (Int32.toNatClampNeg (356 + (5 * (now (Int32.toNatClampNeg 355))))) (now (Int32.toNatClampNeg ((r6 + 1) - a2)))) (Int32.toNatClampNeg ((356 + (5 * (now (Int32.toNatClampNeg 355)))) + 1)) ((upd now (Int32.toNatClampNeg (356 + (5 * (now (Int32.toNatClampNeg 355))))) (now (Int32.toNatClampNeg ((r6 + 1) - a2)))) (Int32.toNatClampNeg (r6 + a2)))))), (op, .inl (k 0, 2005, .inl r9.2)), (orr, .inl (k 0, 3, .inl refused))] H := hP
              have hD : va_D A [(o, .inr (6, [.ref on, .ref op, .int r9.1, .ref orr, .ref ot, .int bytes, .ref oh, .ref og, .ref od, .int reading, .int at_, .int wrongAt, .int number, .long hh])), (on, .inl (k 0, 401, .inl (upd (upd now (Int32.toNatClampNeg (356 + (5 * (now (Int32.toNatClampNeg 355))))) (now (Int32.toNatClampNeg ((r6 + 1) - a2)))) (Int32.toNatClampNeg ((356 + (5 * (now (Int32.toNatClampNeg 355)))) + 1)) ((upd now (Int32.toNatClampNeg (356 + (5 * (now (Int32.toNatClampNeg 355))))) (now (Int32.toNatClampNeg ((r6 + 1) - a2)))) (Int32.toNatClampNeg (r6 + a2)))))), (op, .inl (k 0, 2005, .inl r9.2)), (orr, .inl (k 0, 3, .inl refused))] := hD
              refine lv_aload_n hx hb dX6_announces_155 rfl (lv_at hl 2 rfl) ?_
              refine va_get (D := D) (ci := 6) (v := .ref on) (C := RX6) (T := TX6) (N := 14) hx hb ht hiX6 hown hK hP 0 rfl rfl 0 (by decide) (ht _ wb765) (fun _ h9 => h9) rfl dX6_announces_156 ?_
              refine lv_iload hx hb dX6_announces_159 (lv_at hl 0 rfl) ?_
              refine lv_iconst (v := 2) hx hb dX6_announces_161 (by decide) ?_
              refine lv_iadd hx hb dX6_announces_162 ?_
              refine lv_iload_n hx hb dX6_announces_163 rfl (lv_at hl 5 rfl) ?_
              obtain ⟨hi24, h⟩ := zg h
              refine va_iast hx hb hK hP hD hS 1 0 rfl rfl hi24 dX6_announces_164 (fun H locs hP hD hS => ?_)
              have hP : va_P D vwCl [(o, .inr (6, [.ref on, .ref op, .int r9.1, .ref orr, .ref ot, .int bytes, .ref oh, .ref og, .ref od, .int reading, .int at_, .int wrongAt, .int number, .long hh])), (on, .inl (k 0, 401, .inl (upd (upd (upd now (Int32.toNatClampNeg (356 + (5 * (now (Int32.toNatClampNeg 355))))) (now (Int32.toNatClampNeg ((r6 + 1) - a2)))) (Int32.toNatClampNeg ((356 + (5 * (now (Int32.toNatClampNeg 355)))) + 1)) ((upd now (Int32.toNatClampNeg (356 + (5 * (now (Int32.toNatClampNeg 355))))) (now (Int32.toNatClampNeg ((r6 + 1) - a2)))) (Int32.toNatClampNeg (r6 + a2)))) (Int32.toNatClampNeg ((356 + (5 * (now (Int32.toNatClampNeg 355)))) + 2)) a3))), (op, .inl (k 0, 2005, .inl r9.2)), (orr, .inl (k 0, 3, .inl refused))] H := hP
              have hD : va_D A [(o, .inr (6, [.ref on, .ref op, .int r9.1, .ref orr, .ref ot, .int bytes, .ref oh, .ref og, .ref od, .int reading, .int at_, .int wrongAt, .int number, .long hh])), (on, .inl (k 0, 401, .inl (upd (upd (upd now (Int32.toNatClampNeg (356 + (5 * (now (Int32.toNatClampNeg 355))))) (now (Int32.toNatClampNeg ((r6 + 1) - a2)))) (Int32.toNatClampNeg ((356 + (5 * (now (Int32.toNatClampNeg 355)))) + 1)) ((upd now (Int32.toNatClampNeg (356 + (5 * (now (Int32.toNatClampNeg 355))))) (now (Int32.toNatClampNeg ((r6 + 1) - a2)))) (Int32.toNatClampNeg (r6 + a2)))) (Int32.toNatClampNeg ((356 + (5 * (now (Int32.toNatClampNeg 355)))) + 2)) a3))), (op, .inl (k 0, 2005, .inl r9.2)), (orr, .inl (k 0, 3, .inl refused))] := hD
              refine lv_aload_n hx hb dX6_announces_165 rfl (lv_at hl 2 rfl) ?_
              refine va_get (D := D) (ci := 6) (v := .ref on) (C := RX6) (T := TX6) (N := 14) hx hb ht hiX6 hown hK hP 0 rfl rfl 0 (by decide) (ht _ wb765) (fun _ h9 => h9) rfl dX6_announces_166 ?_
              refine lv_iload hx hb dX6_announces_169 (lv_at hl 0 rfl) ?_
              refine lv_iconst (v := 3) hx hb dX6_announces_171 (by decide) ?_
              refine lv_iadd hx hb dX6_announces_172 ?_
              refine lv_aload_n hx hb dX6_announces_173 rfl (lv_at hl 2 rfl) ?_
              refine va_get (D := D) (ci := 6) (v := .ref on) (C := RX6) (T := TX6) (N := 14) hx hb ht hiX6 hown hK hP 0 rfl rfl 0 (by decide) (ht _ wb765) (fun _ h9 => h9) rfl dX6_announces_174 ?_
              refine lv_iload hx hb dX6_announces_177 (lv_at hl 1 rfl) ?_
              refine lv_iconst (v := 3) hx hb dX6_announces_179 (by decide) ?_
              refine lv_iadd hx hb dX6_announces_180 ?_
              obtain ⟨hi25, h⟩ := zg h
              refine va_iald hx hb hK hP 1 0 rfl rfl hi25 dX6_announces_181 ?_
              obtain ⟨hi26, h⟩ := zg h
              refine va_iast hx hb hK hP hD hS 1 0 rfl rfl hi26 dX6_announces_182 (fun H locs hP hD hS => ?_)
              have hP : va_P D vwCl [(o, .inr (6, [.ref on, .ref op, .int r9.1, .ref orr, .ref ot, .int bytes, .ref oh, .ref og, .ref od, .int reading, .int at_, .int wrongAt, .int number, .long hh])), (on, .inl (k 0, 401, .inl (upd (upd (upd (upd now (Int32.toNatClampNeg (356 + (5 * (now (Int32.toNatClampNeg 355))))) (now (Int32.toNatClampNeg ((r6 + 1) - a2)))) (Int32.toNatClampNeg ((356 + (5 * (now (Int32.toNatClampNeg 355)))) + 1)) ((upd now (Int32.toNatClampNeg (356 + (5 * (now (Int32.toNatClampNeg 355))))) (now (Int32.toNatClampNeg ((r6 + 1) - a2)))) (Int32.toNatClampNeg (r6 + a2)))) (Int32.toNatClampNeg ((356 + (5 * (now (Int32.toNatClampNeg 355)))) + 2)) a3) (Int32.toNatClampNeg ((356 + (5 * (now (Int32.toNatClampNeg 355)))) + 3)) ((upd (upd (upd now (Int32.toNatClampNeg (356 + (5 * (now (Int32.toNatClampNeg 355))))) (now (Int32.toNatClampNeg ((r6 + 1) - a2)))) (Int32.toNatClampNeg ((356 + (5 * (now (Int32.toNatClampNeg 355)))) + 1)) ((upd now (Int32.toNatClampNeg (356 + (5 * (now (Int32.toNatClampNeg 355))))) (now (Int32.toNatClampNeg ((r6 + 1) - a2)))) (Int32.toNatClampNeg (r6 + a2)))) (Int32.toNatClampNeg ((356 + (5 * (now (Int32.toNatClampNeg 355)))) + 2)) a3) (Int32.toNatClampNeg (r6 + 3)))))), (op, .inl (k 0, 2005, .inl r9.2)), (orr, .inl (k 0, 3, .inl refused))] H := hP
              have hD : va_D A [(o, .inr (6, [.ref on, .ref op, .int r9.1, .ref orr, .ref ot, .int bytes, .ref oh, .ref og, .ref od, .int reading, .int at_, .int wrongAt, .int number, .long hh])), (on, .inl (k 0, 401, .inl (upd (upd (upd (upd now (Int32.toNatClampNeg (356 + (5 * (now (Int32.toNatClampNeg 355))))) (now (Int32.toNatClampNeg ((r6 + 1) - a2)))) (Int32.toNatClampNeg ((356 + (5 * (now (Int32.toNatClampNeg 355)))) + 1)) ((upd now (Int32.toNatClampNeg (356 + (5 * (now (Int32.toNatClampNeg 355))))) (now (Int32.toNatClampNeg ((r6 + 1) - a2)))) (Int32.toNatClampNeg (r6 + a2)))) (Int32.toNatClampNeg ((356 + (5 * (now (Int32.toNatClampNeg 355)))) + 2)) a3) (Int32.toNatClampNeg ((356 + (5 * (now (Int32.toNatClampNeg 355)))) + 3)) ((upd (upd (upd now (Int32.toNatClampNeg (356 + (5 * (now (Int32.toNatClampNeg 355))))) (now (Int32.toNatClampNeg ((r6 + 1) - a2)))) (Int32.toNatClampNeg ((356 + (5 * (now (Int32.toNatClampNeg 355)))) + 1)) ((upd now (Int32.toNatClampNeg (356 + (5 * (now (Int32.toNatClampNeg 355))))) (now (Int32.toNatClampNeg ((r6 + 1) - a2)))) (Int32.toNatClampNeg (r6 + a2)))) (Int32.toNatClampNeg ((356 + (5 * (now (Int32.toNatClampNeg 355)))) + 2)) a3) (Int32.toNatClampNeg (r6 + 3)))))), (op, .inl (k 0, 2005, .inl r9.2)), (orr, .inl (k 0, 3, .inl refused))] := hD
              refine lv_aload_n hx hb dX6_announces_183 rfl (lv_at hl 2 rfl) ?_
              refine va_get (D := D) (ci := 6) (v := .ref on) (C := RX6) (T := TX6) (N := 14) hx hb ht hiX6 hown hK hP 0 rfl rfl 0 (by decide) (ht _ wb765) (fun _ h9 => h9) rfl dX6_announces_184 ?_
              refine lv_iload hx hb dX6_announces_187 (lv_at hl 0 rfl) ?_
              refine lv_iconst (v := 4) hx hb dX6_announces_189 (by decide) ?_
              refine lv_iadd hx hb dX6_announces_190 ?_
              refine lv_aload_n hx hb dX6_announces_191 rfl (lv_at hl 2 rfl) ?_
              refine va_get (D := D) (ci := 6) (v := .ref on) (C := RX6) (T := TX6) (N := 14) hx hb ht hiX6 hown hK hP 0 rfl rfl 0 (by decide) (ht _ wb765) (fun _ h9 => h9) rfl dX6_announces_192 ?_
              refine lv_sipush (v := 394) hx hb dX6_announces_195 (by decide) ?_
              obtain ⟨hi27, h⟩ := zg h
              refine va_iald hx hb hK hP 1 0 rfl rfl hi27 dX6_announces_198 ?_
              refine lv_bipush (v := 10) hx hb dX6_announces_199 (by decide) ?_
              refine lv_iadd hx hb dX6_announces_201 ?_
              obtain ⟨hi28, h⟩ := zg h
              refine va_iast hx hb hK hP hD hS 1 0 rfl rfl hi28 dX6_announces_202 (fun H locs hP hD hS => ?_)
              have hP : va_P D vwCl [(o, .inr (6, [.ref on, .ref op, .int r9.1, .ref orr, .ref ot, .int bytes, .ref oh, .ref og, .ref od, .int reading, .int at_, .int wrongAt, .int number, .long hh])), (on, .inl (k 0, 401, .inl (upd (upd (upd (upd (upd now (Int32.toNatClampNeg (356 + (5 * (now (Int32.toNatClampNeg 355))))) (now (Int32.toNatClampNeg ((r6 + 1) - a2)))) (Int32.toNatClampNeg ((356 + (5 * (now (Int32.toNatClampNeg 355)))) + 1)) ((upd now (Int32.toNatClampNeg (356 + (5 * (now (Int32.toNatClampNeg 355))))) (now (Int32.toNatClampNeg ((r6 + 1) - a2)))) (Int32.toNatClampNeg (r6 + a2)))) (Int32.toNatClampNeg ((356 + (5 * (now (Int32.toNatClampNeg 355)))) + 2)) a3) (Int32.toNatClampNeg ((356 + (5 * (now (Int32.toNatClampNeg 355)))) + 3)) ((upd (upd (upd now (Int32.toNatClampNeg (356 + (5 * (now (Int32.toNatClampNeg 355))))) (now (Int32.toNatClampNeg ((r6 + 1) - a2)))) (Int32.toNatClampNeg ((356 + (5 * (now (Int32.toNatClampNeg 355)))) + 1)) ((upd now (Int32.toNatClampNeg (356 + (5 * (now (Int32.toNatClampNeg 355))))) (now (Int32.toNatClampNeg ((r6 + 1) - a2)))) (Int32.toNatClampNeg (r6 + a2)))) (Int32.toNatClampNeg ((356 + (5 * (now (Int32.toNatClampNeg 355)))) + 2)) a3) (Int32.toNatClampNeg (r6 + 3)))) (Int32.toNatClampNeg ((356 + (5 * (now (Int32.toNatClampNeg 355)))) + 4)) (((upd (upd (upd (upd now (Int32.toNatClampNeg (356 + (5 * (now (Int32.toNatClampNeg 355))))) (now (Int32.toNatClampNeg ((r6 + 1) - a2)))) (Int32.toNatClampNeg ((356 + (5 * (now (Int32.toNatClampNeg 355)))) + 1)) ((upd now (Int32.toNatClampNeg (356 + (5 * (now (Int32.toNatClampNeg 355))))) (now (Int32.toNatClampNeg ((r6 + 1) - a2)))) (Int32.toNatClampNeg (r6 + a2)))) (Int32.toNatClampNeg ((356 + (5 * (now (Int32.toNatClampNeg 355)))) + 2)) a3) (Int32.toNatClampNeg ((356 + (5 * (now (Int32.toNatClampNeg 355)))) + 3)) ((upd (upd (upd now (Int32.toNatClampNeg (356 + (5 * (now (Int32.toNatClampNeg 355))))) (now (Int32.toNatClampNeg ((r6 + 1) - a2)))) (Int32.toNatClampNeg ((356 + (5 * (now (Int32.toNatClampNeg 355)))) + 1)) ((upd now (Int32.toNatClampNeg (356 + (5 * (now (Int32.toNatClampNeg 355))))) (now (Int32.toNatClampNeg ((r6 + 1) - a2)))) (Int32.toNatClampNeg (r6 + a2)))) (Int32.toNatClampNeg ((356 + (5 * (now (Int32.toNatClampNeg 355)))) + 2)) a3) (Int32.toNatClampNeg (r6 + 3)))) (Int32.toNatClampNeg 394)) + 10)))), (op, .inl (k 0, 2005, .inl r9.2)), (orr, .inl (k 0, 3, .inl refused))] H := hP
              have hD : va_D A [(o, .inr (6, [.ref on, .ref op, .int r9.1, .ref orr, .ref ot, .int bytes, .ref oh, .ref og, .ref od, .int reading, .int at_, .int wrongAt, .int number, .long hh])), (on, .inl (k 0, 401, .inl (upd (upd (upd (upd (upd now (Int32.toNatClampNeg (356 + (5 * (now (Int32.toNatClampNeg 355))))) (now (Int32.toNatClampNeg ((r6 + 1) - a2)))) (Int32.toNatClampNeg ((356 + (5 * (now (Int32.toNatClampNeg 355)))) + 1)) ((upd now (Int32.toNatClampNeg (356 + (5 * (now (Int32.toNatClampNeg 355))))) (now (Int32.toNatClampNeg ((r6 + 1) - a2)))) (Int32.toNatClampNeg (r6 + a2)))) (Int32.toNatClampNeg ((356 + (5 * (now (Int32.toNatClampNeg 355)))) + 2)) a3) (Int32.toNatClampNeg ((356 + (5 * (now (Int32.toNatClampNeg 355)))) + 3)) ((upd (upd (upd now (Int32.toNatClampNeg (356 + (5 * (now (Int32.toNatClampNeg 355))))) (now (Int32.toNatClampNeg ((r6 + 1) - a2)))) (Int32.toNatClampNeg ((356 + (5 * (now (Int32.toNatClampNeg 355)))) + 1)) ((upd now (Int32.toNatClampNeg (356 + (5 * (now (Int32.toNatClampNeg 355))))) (now (Int32.toNatClampNeg ((r6 + 1) - a2)))) (Int32.toNatClampNeg (r6 + a2)))) (Int32.toNatClampNeg ((356 + (5 * (now (Int32.toNatClampNeg 355)))) + 2)) a3) (Int32.toNatClampNeg (r6 + 3)))) (Int32.toNatClampNeg ((356 + (5 * (now (Int32.toNatClampNeg 355)))) + 4)) (((upd (upd (upd (upd now (Int32.toNatClampNeg (356 + (5 * (now (Int32.toNatClampNeg 355))))) (now (Int32.toNatClampNeg ((r6 + 1) - a2)))) (Int32.toNatClampNeg ((356 + (5 * (now (Int32.toNatClampNeg 355)))) + 1)) ((upd now (Int32.toNatClampNeg (356 + (5 * (now (Int32.toNatClampNeg 355))))) (now (Int32.toNatClampNeg ((r6 + 1) - a2)))) (Int32.toNatClampNeg (r6 + a2)))) (Int32.toNatClampNeg ((356 + (5 * (now (Int32.toNatClampNeg 355)))) + 2)) a3) (Int32.toNatClampNeg ((356 + (5 * (now (Int32.toNatClampNeg 355)))) + 3)) ((upd (upd (upd now (Int32.toNatClampNeg (356 + (5 * (now (Int32.toNatClampNeg 355))))) (now (Int32.toNatClampNeg ((r6 + 1) - a2)))) (Int32.toNatClampNeg ((356 + (5 * (now (Int32.toNatClampNeg 355)))) + 1)) ((upd now (Int32.toNatClampNeg (356 + (5 * (now (Int32.toNatClampNeg 355))))) (now (Int32.toNatClampNeg ((r6 + 1) - a2)))) (Int32.toNatClampNeg (r6 + a2)))) (Int32.toNatClampNeg ((356 + (5 * (now (Int32.toNatClampNeg 355)))) + 2)) a3) (Int32.toNatClampNeg (r6 + 3)))) (Int32.toNatClampNeg 394)) + 10)))), (op, .inl (k 0, 2005, .inl r9.2)), (orr, .inl (k 0, 3, .inl refused))] := hD
              refine lv_aload_n hx hb dX6_announces_203 rfl (lv_at hl 2 rfl) ?_
              refine va_get (D := D) (ci := 6) (v := .ref on) (C := RX6) (T := TX6) (N := 14) hx hb ht hiX6 hown hK hP 0 rfl rfl 0 (by decide) (ht _ wb765) (fun _ h9 => h9) rfl dX6_announces_204 ?_
              refine lv_sipush (v := 355) hx hb dX6_announces_207 (by decide) ?_
              refine lv_dup2_11 hx hb dX6_announces_210 rfl rfl ?_
              obtain ⟨hi29, h⟩ := zg h
              refine va_iald hx hb hK hP 1 0 rfl rfl hi29 dX6_announces_211 ?_
              refine lv_iconst (v := 1) hx hb dX6_announces_212 (by decide) ?_
              refine lv_iadd hx hb dX6_announces_213 ?_
              obtain ⟨hi30, h⟩ := zg h
              refine va_iast hx hb hK hP hD hS 1 0 rfl rfl hi30 dX6_announces_214 (fun H locs hP hD hS => ?_)
              have hP : va_P D vwCl [(o, .inr (6, [.ref on, .ref op, .int r9.1, .ref orr, .ref ot, .int bytes, .ref oh, .ref og, .ref od, .int reading, .int at_, .int wrongAt, .int number, .long hh])), (on, .inl (k 0, 401, .inl (upd (upd (upd (upd (upd (upd now (Int32.toNatClampNeg (356 + (5 * (now (Int32.toNatClampNeg 355))))) (now (Int32.toNatClampNeg ((r6 + 1) - a2)))) (Int32.toNatClampNeg ((356 + (5 * (now (Int32.toNatClampNeg 355)))) + 1)) ((upd now (Int32.toNatClampNeg (356 + (5 * (now (Int32.toNatClampNeg 355))))) (now (Int32.toNatClampNeg ((r6 + 1) - a2)))) (Int32.toNatClampNeg (r6 + a2)))) (Int32.toNatClampNeg ((356 + (5 * (now (Int32.toNatClampNeg 355)))) + 2)) a3) (Int32.toNatClampNeg ((356 + (5 * (now (Int32.toNatClampNeg 355)))) + 3)) ((upd (upd (upd now (Int32.toNatClampNeg (356 + (5 * (now (Int32.toNatClampNeg 355))))) (now (Int32.toNatClampNeg ((r6 + 1) - a2)))) (Int32.toNatClampNeg ((356 + (5 * (now (Int32.toNatClampNeg 355)))) + 1)) ((upd now (Int32.toNatClampNeg (356 + (5 * (now (Int32.toNatClampNeg 355))))) (now (Int32.toNatClampNeg ((r6 + 1) - a2)))) (Int32.toNatClampNeg (r6 + a2)))) (Int32.toNatClampNeg ((356 + (5 * (now (Int32.toNatClampNeg 355)))) + 2)) a3) (Int32.toNatClampNeg (r6 + 3)))) (Int32.toNatClampNeg ((356 + (5 * (now (Int32.toNatClampNeg 355)))) + 4)) (((upd (upd (upd (upd now (Int32.toNatClampNeg (356 + (5 * (now (Int32.toNatClampNeg 355))))) (now (Int32.toNatClampNeg ((r6 + 1) - a2)))) (Int32.toNatClampNeg ((356 + (5 * (now (Int32.toNatClampNeg 355)))) + 1)) ((upd now (Int32.toNatClampNeg (356 + (5 * (now (Int32.toNatClampNeg 355))))) (now (Int32.toNatClampNeg ((r6 + 1) - a2)))) (Int32.toNatClampNeg (r6 + a2)))) (Int32.toNatClampNeg ((356 + (5 * (now (Int32.toNatClampNeg 355)))) + 2)) a3) (Int32.toNatClampNeg ((356 + (5 * (now (Int32.toNatClampNeg 355)))) + 3)) ((upd (upd (upd now (Int32.toNatClampNeg (356 + (5 * (now (Int32.toNatClampNeg 355))))) (now (Int32.toNatClampNeg ((r6 + 1) - a2)))) (Int32.toNatClampNeg ((356 + (5 * (now (Int32.toNatClampNeg 355)))) + 1)) ((upd now (Int32.toNatClampNeg (356 + (5 * (now (Int32.toNatClampNeg 355))))) (now (Int32.toNatClampNeg ((r6 + 1) - a2)))) (Int32.toNatClampNeg (r6 + a2)))) (Int32.toNatClampNeg ((356 + (5 * (now (Int32.toNatClampNeg 355)))) + 2)) a3) (Int32.toNatClampNeg (r6 + 3)))) (Int32.toNatClampNeg 394)) + 10)) (Int32.toNatClampNeg 355) (((upd (upd (upd (upd (upd now (Int32.toNatClampNeg (356 + (5 * (now (Int32.toNatClampNeg 355))))) (now (Int32.toNatClampNeg ((r6 + 1) - a2)))) (Int32.toNatClampNeg ((356 + (5 * (now (Int32.toNatClampNeg 355)))) + 1)) ((upd now (Int32.toNatClampNeg (356 + (5 * (now (Int32.toNatClampNeg 355))))) (now (Int32.toNatClampNeg ((r6 + 1) - a2)))) (Int32.toNatClampNeg (r6 + a2)))) (Int32.toNatClampNeg ((356 + (5 * (now (Int32.toNatClampNeg 355)))) + 2)) a3) (Int32.toNatClampNeg ((356 + (5 * (now (Int32.toNatClampNeg 355)))) + 3)) ((upd (upd (upd now (Int32.toNatClampNeg (356 + (5 * (now (Int32.toNatClampNeg 355))))) (now (Int32.toNatClampNeg ((r6 + 1) - a2)))) (Int32.toNatClampNeg ((356 + (5 * (now (Int32.toNatClampNeg 355)))) + 1)) ((upd now (Int32.toNatClampNeg (356 + (5 * (now (Int32.toNatClampNeg 355))))) (now (Int32.toNatClampNeg ((r6 + 1) - a2)))) (Int32.toNatClampNeg (r6 + a2)))) (Int32.toNatClampNeg ((356 + (5 * (now (Int32.toNatClampNeg 355)))) + 2)) a3) (Int32.toNatClampNeg (r6 + 3)))) (Int32.toNatClampNeg ((356 + (5 * (now (Int32.toNatClampNeg 355)))) + 4)) (((upd (upd (upd (upd now (Int32.toNatClampNeg (356 + (5 * (now (Int32.toNatClampNeg 355))))) (now (Int32.toNatClampNeg ((r6 + 1) - a2)))) (Int32.toNatClampNeg ((356 + (5 * (now (Int32.toNatClampNeg 355)))) + 1)) ((upd now (Int32.toNatClampNeg (356 + (5 * (now (Int32.toNatClampNeg 355))))) (now (Int32.toNatClampNeg ((r6 + 1) - a2)))) (Int32.toNatClampNeg (r6 + a2)))) (Int32.toNatClampNeg ((356 + (5 * (now (Int32.toNatClampNeg 355)))) + 2)) a3) (Int32.toNatClampNeg ((356 + (5 * (now (Int32.toNatClampNeg 355)))) + 3)) ((upd (upd (upd now (Int32.toNatClampNeg (356 + (5 * (now (Int32.toNatClampNeg 355))))) (now (Int32.toNatClampNeg ((r6 + 1) - a2)))) (Int32.toNatClampNeg ((356 + (5 * (now (Int32.toNatClampNeg 355)))) + 1)) ((upd now (Int32.toNatClampNeg (356 + (5 * (now (Int32.toNatClampNeg 355))))) (now (Int32.toNatClampNeg ((r6 + 1) - a2)))) (Int32.toNatClampNeg (r6 + a2)))) (Int32.toNatClampNeg ((356 + (5 * (now (Int32.toNatClampNeg 355)))) + 2)) a3) (Int32.toNatClampNeg (r6 + 3)))) (Int32.toNatClampNeg 394)) + 10)) (Int32.toNatClampNeg 355)) + 1)))), (op, .inl (k 0, 2005, .inl r9.2)), (orr, .inl (k 0, 3, .inl refused))] H := hP
              have hD : va_D A [(o, .inr (6, [.ref on, .ref op, .int r9.1, .ref orr, .ref ot, .int bytes, .ref oh, .ref og, .ref od, .int reading, .int at_, .int wrongAt, .int number, .long hh])), (on, .inl (k 0, 401, .inl (upd (upd (upd (upd (upd (upd now (Int32.toNatClampNeg (356 + (5 * (now (Int32.toNatClampNeg 355))))) (now (Int32.toNatClampNeg ((r6 + 1) - a2)))) (Int32.toNatClampNeg ((356 + (5 * (now (Int32.toNatClampNeg 355)))) + 1)) ((upd now (Int32.toNatClampNeg (356 + (5 * (now (Int32.toNatClampNeg 355))))) (now (Int32.toNatClampNeg ((r6 + 1) - a2)))) (Int32.toNatClampNeg (r6 + a2)))) (Int32.toNatClampNeg ((356 + (5 * (now (Int32.toNatClampNeg 355)))) + 2)) a3) (Int32.toNatClampNeg ((356 + (5 * (now (Int32.toNatClampNeg 355)))) + 3)) ((upd (upd (upd now (Int32.toNatClampNeg (356 + (5 * (now (Int32.toNatClampNeg 355))))) (now (Int32.toNatClampNeg ((r6 + 1) - a2)))) (Int32.toNatClampNeg ((356 + (5 * (now (Int32.toNatClampNeg 355)))) + 1)) ((upd now (Int32.toNatClampNeg (356 + (5 * (now (Int32.toNatClampNeg 355))))) (now (Int32.toNatClampNeg ((r6 + 1) - a2)))) (Int32.toNatClampNeg (r6 + a2)))) (Int32.toNatClampNeg ((356 + (5 * (now (Int32.toNatClampNeg 355)))) + 2)) a3) (Int32.toNatClampNeg (r6 + 3)))) (Int32.toNatClampNeg ((356 + (5 * (now (Int32.toNatClampNeg 355)))) + 4)) (((upd (upd (upd (upd now (Int32.toNatClampNeg (356 + (5 * (now (Int32.toNatClampNeg 355))))) (now (Int32.toNatClampNeg ((r6 + 1) - a2)))) (Int32.toNatClampNeg ((356 + (5 * (now (Int32.toNatClampNeg 355)))) + 1)) ((upd now (Int32.toNatClampNeg (356 + (5 * (now (Int32.toNatClampNeg 355))))) (now (Int32.toNatClampNeg ((r6 + 1) - a2)))) (Int32.toNatClampNeg (r6 + a2)))) (Int32.toNatClampNeg ((356 + (5 * (now (Int32.toNatClampNeg 355)))) + 2)) a3) (Int32.toNatClampNeg ((356 + (5 * (now (Int32.toNatClampNeg 355)))) + 3)) ((upd (upd (upd now (Int32.toNatClampNeg (356 + (5 * (now (Int32.toNatClampNeg 355))))) (now (Int32.toNatClampNeg ((r6 + 1) - a2)))) (Int32.toNatClampNeg ((356 + (5 * (now (Int32.toNatClampNeg 355)))) + 1)) ((upd now (Int32.toNatClampNeg (356 + (5 * (now (Int32.toNatClampNeg 355))))) (now (Int32.toNatClampNeg ((r6 + 1) - a2)))) (Int32.toNatClampNeg (r6 + a2)))) (Int32.toNatClampNeg ((356 + (5 * (now (Int32.toNatClampNeg 355)))) + 2)) a3) (Int32.toNatClampNeg (r6 + 3)))) (Int32.toNatClampNeg 394)) + 10)) (Int32.toNatClampNeg 355) (((upd (upd (upd (upd (upd now (Int32.toNatClampNeg (356 + (5 * (now (Int32.toNatClampNeg 355))))) (now (Int32.toNatClampNeg ((r6 + 1) - a2)))) (Int32.toNatClampNeg ((356 + (5 * (now (Int32.toNatClampNeg 355)))) + 1)) ((upd now (Int32.toNatClampNeg (356 + (5 * (now (Int32.toNatClampNeg 355))))) (now (Int32.toNatClampNeg ((r6 + 1) - a2)))) (Int32.toNatClampNeg (r6 + a2)))) (Int32.toNatClampNeg ((356 + (5 * (now (Int32.toNatClampNeg 355)))) + 2)) a3) (Int32.toNatClampNeg ((356 + (5 * (now (Int32.toNatClampNeg 355)))) + 3)) ((upd (upd (upd now (Int32.toNatClampNeg (356 + (5 * (now (Int32.toNatClampNeg 355))))) (now (Int32.toNatClampNeg ((r6 + 1) - a2)))) (Int32.toNatClampNeg ((356 + (5 * (now (Int32.toNatClampNeg 355)))) + 1)) ((upd now (Int32.toNatClampNeg (356 + (5 * (now (Int32.toNatClampNeg 355))))) (now (Int32.toNatClampNeg ((r6 + 1) - a2)))) (Int32.toNatClampNeg (r6 + a2)))) (Int32.toNatClampNeg ((356 + (5 * (now (Int32.toNatClampNeg 355)))) + 2)) a3) (Int32.toNatClampNeg (r6 + 3)))) (Int32.toNatClampNeg ((356 + (5 * (now (Int32.toNatClampNeg 355)))) + 4)) (((upd (upd (upd (upd now (Int32.toNatClampNeg (356 + (5 * (now (Int32.toNatClampNeg 355))))) (now (Int32.toNatClampNeg ((r6 + 1) - a2)))) (Int32.toNatClampNeg ((356 + (5 * (now (Int32.toNatClampNeg 355)))) + 1)) ((upd now (Int32.toNatClampNeg (356 + (5 * (now (Int32.toNatClampNeg 355))))) (now (Int32.toNatClampNeg ((r6 + 1) - a2)))) (Int32.toNatClampNeg (r6 + a2)))) (Int32.toNatClampNeg ((356 + (5 * (now (Int32.toNatClampNeg 355)))) + 2)) a3) (Int32.toNatClampNeg ((356 + (5 * (now (Int32.toNatClampNeg 355)))) + 3)) ((upd (upd (upd now (Int32.toNatClampNeg (356 + (5 * (now (Int32.toNatClampNeg 355))))) (now (Int32.toNatClampNeg ((r6 + 1) - a2)))) (Int32.toNatClampNeg ((356 + (5 * (now (Int32.toNatClampNeg 355)))) + 1)) ((upd now (Int32.toNatClampNeg (356 + (5 * (now (Int32.toNatClampNeg 355))))) (now (Int32.toNatClampNeg ((r6 + 1) - a2)))) (Int32.toNatClampNeg (r6 + a2)))) (Int32.toNatClampNeg ((356 + (5 * (now (Int32.toNatClampNeg 355)))) + 2)) a3) (Int32.toNatClampNeg (r6 + 3)))) (Int32.toNatClampNeg 394)) + 10)) (Int32.toNatClampNeg 355)) + 1)))), (op, .inl (k 0, 2005, .inl r9.2)), (orr, .inl (k 0, 3, .inl refused))] := hD
              refine lv_aload_n hx hb dX6_announces_215 rfl (lv_at hl 2 rfl) ?_
              refine va_get (D := D) (ci := 6) (v := .ref on) (C := RX6) (T := TX6) (N := 14) hx hb ht hiX6 hown hK hP 0 rfl rfl 0 (by decide) (ht _ wb765) (fun _ h9 => h9) rfl dX6_announces_216 ?_
              refine lv_sipush (v := 355) hx hb dX6_announces_219 (by decide) ?_
              obtain ⟨hi31, h⟩ := zg h
              refine va_iald hx hb hK hP 1 0 rfl rfl hi31 dX6_announces_222 ?_
              obtain rfl := Option.some.inj h
              exact W.iret (v := (upd (upd (upd (upd (upd (upd now (Int32.toNatClampNeg (356 + (5 * (now (Int32.toNatClampNeg 355))))) (now (Int32.toNatClampNeg ((r6 + 1) - a2)))) (Int32.toNatClampNeg ((356 + (5 * (now (Int32.toNatClampNeg 355)))) + 1)) ((upd now (Int32.toNatClampNeg (356 + (5 * (now (Int32.toNatClampNeg 355))))) (now (Int32.toNatClampNeg ((r6 + 1) - a2)))) (Int32.toNatClampNeg (r6 + a2)))) (Int32.toNatClampNeg ((356 + (5 * (now (Int32.toNatClampNeg 355)))) + 2)) a3) (Int32.toNatClampNeg ((356 + (5 * (now (Int32.toNatClampNeg 355)))) + 3)) ((upd (upd (upd now (Int32.toNatClampNeg (356 + (5 * (now (Int32.toNatClampNeg 355))))) (now (Int32.toNatClampNeg ((r6 + 1) - a2)))) (Int32.toNatClampNeg ((356 + (5 * (now (Int32.toNatClampNeg 355)))) + 1)) ((upd now (Int32.toNatClampNeg (356 + (5 * (now (Int32.toNatClampNeg 355))))) (now (Int32.toNatClampNeg ((r6 + 1) - a2)))) (Int32.toNatClampNeg (r6 + a2)))) (Int32.toNatClampNeg ((356 + (5 * (now (Int32.toNatClampNeg 355)))) + 2)) a3) (Int32.toNatClampNeg (r6 + 3)))) (Int32.toNatClampNeg ((356 + (5 * (now (Int32.toNatClampNeg 355)))) + 4)) (((upd (upd (upd (upd now (Int32.toNatClampNeg (356 + (5 * (now (Int32.toNatClampNeg 355))))) (now (Int32.toNatClampNeg ((r6 + 1) - a2)))) (Int32.toNatClampNeg ((356 + (5 * (now (Int32.toNatClampNeg 355)))) + 1)) ((upd now (Int32.toNatClampNeg (356 + (5 * (now (Int32.toNatClampNeg 355))))) (now (Int32.toNatClampNeg ((r6 + 1) - a2)))) (Int32.toNatClampNeg (r6 + a2)))) (Int32.toNatClampNeg ((356 + (5 * (now (Int32.toNatClampNeg 355)))) + 2)) a3) (Int32.toNatClampNeg ((356 + (5 * (now (Int32.toNatClampNeg 355)))) + 3)) ((upd (upd (upd now (Int32.toNatClampNeg (356 + (5 * (now (Int32.toNatClampNeg 355))))) (now (Int32.toNatClampNeg ((r6 + 1) - a2)))) (Int32.toNatClampNeg ((356 + (5 * (now (Int32.toNatClampNeg 355)))) + 1)) ((upd now (Int32.toNatClampNeg (356 + (5 * (now (Int32.toNatClampNeg 355))))) (now (Int32.toNatClampNeg ((r6 + 1) - a2)))) (Int32.toNatClampNeg (r6 + a2)))) (Int32.toNatClampNeg ((356 + (5 * (now (Int32.toNatClampNeg 355)))) + 2)) a3) (Int32.toNatClampNeg (r6 + 3)))) (Int32.toNatClampNeg 394)) + 10)) (Int32.toNatClampNeg 355) (((upd (upd (upd (upd (upd now (Int32.toNatClampNeg (356 + (5 * (now (Int32.toNatClampNeg 355))))) (now (Int32.toNatClampNeg ((r6 + 1) - a2)))) (Int32.toNatClampNeg ((356 + (5 * (now (Int32.toNatClampNeg 355)))) + 1)) ((upd now (Int32.toNatClampNeg (356 + (5 * (now (Int32.toNatClampNeg 355))))) (now (Int32.toNatClampNeg ((r6 + 1) - a2)))) (Int32.toNatClampNeg (r6 + a2)))) (Int32.toNatClampNeg ((356 + (5 * (now (Int32.toNatClampNeg 355)))) + 2)) a3) (Int32.toNatClampNeg ((356 + (5 * (now (Int32.toNatClampNeg 355)))) + 3)) ((upd (upd (upd now (Int32.toNatClampNeg (356 + (5 * (now (Int32.toNatClampNeg 355))))) (now (Int32.toNatClampNeg ((r6 + 1) - a2)))) (Int32.toNatClampNeg ((356 + (5 * (now (Int32.toNatClampNeg 355)))) + 1)) ((upd now (Int32.toNatClampNeg (356 + (5 * (now (Int32.toNatClampNeg 355))))) (now (Int32.toNatClampNeg ((r6 + 1) - a2)))) (Int32.toNatClampNeg (r6 + a2)))) (Int32.toNatClampNeg ((356 + (5 * (now (Int32.toNatClampNeg 355)))) + 2)) a3) (Int32.toNatClampNeg (r6 + 3)))) (Int32.toNatClampNeg ((356 + (5 * (now (Int32.toNatClampNeg 355)))) + 4)) (((upd (upd (upd (upd now (Int32.toNatClampNeg (356 + (5 * (now (Int32.toNatClampNeg 355))))) (now (Int32.toNatClampNeg ((r6 + 1) - a2)))) (Int32.toNatClampNeg ((356 + (5 * (now (Int32.toNatClampNeg 355)))) + 1)) ((upd now (Int32.toNatClampNeg (356 + (5 * (now (Int32.toNatClampNeg 355))))) (now (Int32.toNatClampNeg ((r6 + 1) - a2)))) (Int32.toNatClampNeg (r6 + a2)))) (Int32.toNatClampNeg ((356 + (5 * (now (Int32.toNatClampNeg 355)))) + 2)) a3) (Int32.toNatClampNeg ((356 + (5 * (now (Int32.toNatClampNeg 355)))) + 3)) ((upd (upd (upd now (Int32.toNatClampNeg (356 + (5 * (now (Int32.toNatClampNeg 355))))) (now (Int32.toNatClampNeg ((r6 + 1) - a2)))) (Int32.toNatClampNeg ((356 + (5 * (now (Int32.toNatClampNeg 355)))) + 1)) ((upd now (Int32.toNatClampNeg (356 + (5 * (now (Int32.toNatClampNeg 355))))) (now (Int32.toNatClampNeg ((r6 + 1) - a2)))) (Int32.toNatClampNeg (r6 + a2)))) (Int32.toNatClampNeg ((356 + (5 * (now (Int32.toNatClampNeg 355)))) + 2)) a3) (Int32.toNatClampNeg (r6 + 3)))) (Int32.toNatClampNeg 394)) + 10)) (Int32.toNatClampNeg 355)) + 1)) (Int32.toNatClampNeg 355)) hx hb hr (fun t ht9 hW => ⟨⟨_, (), rfl, rfl, zend ht9 hP⟩, hS.F ht9⟩) hS.2.2 dX6_announces_223
            · have h := zt h c2
              refine lv_aload_n hx hb dX6_announces_94 rfl (lv_at hl 1 rfl) ?_
              obtain ⟨r10, h10, h⟩ := zb h
              refine zi (zrV (C := RX6) (T := TX6) (N := 14) (As := []) (rest := []) ⟨hx, hb, hml, hown, ht⟩ (c_X6_full l D k o on op orr ot oh og od states bytes reading at_ wrongAt number hh refused  h10 _) (cwV 0 ht (gdV wb842 wb844 wb31 wb80 wb845) rfl rfl rfl (by decide +kernel) ⟨Nat.le_of_ble_eq_true rfl, Nat.le_of_ble_eq_true rfl⟩) hK hP hD hS hA hm [0, 3] rfl rfl 0 6 rfl rfl rfl hl.1 rfl (Nat.le_of_ble_eq_true rfl) dX6_announces_95 ⟨Nat.le_refl _, Nat.le_refl _⟩) hP hD hS hA [0, 3] rfl rfl (fun H locs hP hD hS => ?_)
              have hP : va_P D vwCl [(o, .inr (6, [.ref on, .ref op, .int states, .ref orr, .ref ot, .int bytes, .ref oh, .ref og, .ref od, .int reading, .int at_, .int wrongAt, .int number, .long hh])), (on, .inl (k 0, 401, .inl now)), (op, .inl (k 0, 2005, .inl past)), (orr, .inl (k 0, 3, .inl r10.2))] H := hP
              have hD : va_D A [(o, .inr (6, [.ref on, .ref op, .int states, .ref orr, .ref ot, .int bytes, .ref oh, .ref og, .ref od, .int reading, .int at_, .int wrongAt, .int number, .long hh])), (on, .inl (k 0, 401, .inl now)), (op, .inl (k 0, 2005, .inl past)), (orr, .inl (k 0, 3, .inl r10.2))] := hD
              obtain rfl := Option.some.inj h
              exact W.iret (v := r10.1) hx hb hr (fun t ht9 hW => ⟨⟨_, (), rfl, rfl, zend ht9 hP⟩, hS.F ht9⟩) hS.2.2 dX6_announces_98
          · have h := zf h c3
            refine lv_aload_n hx hb dX6_announces_76 rfl (lv_at hl 1 rfl) ?_
            obtain ⟨r11, h11, h⟩ := zb h
            refine zi (zrV (C := RX6) (T := TX6) (N := 14) (As := []) (rest := []) ⟨hx, hb, hml, hown, ht⟩ (c_X6_no l D k o on op orr ot oh og od states bytes reading at_ wrongAt number hh refused  h11 _) (cwV 0 ht (gdV wb812 wb814 wb28 wb80 wb815) rfl rfl rfl (by decide +kernel) ⟨Nat.le_of_ble_eq_true rfl, Nat.le_of_ble_eq_true rfl⟩) hK hP hD hS hA hm [0, 3] rfl rfl 0 6 rfl rfl rfl hl.1 rfl (Nat.le_of_ble_eq_true rfl) dX6_announces_77 ⟨Nat.le_refl _, Nat.le_refl _⟩) hP hD hS hA [0, 3] rfl rfl (fun H locs hP hD hS => ?_)
            have hP : va_P D vwCl [(o, .inr (6, [.ref on, .ref op, .int states, .ref orr, .ref ot, .int bytes, .ref oh, .ref og, .ref od, .int reading, .int at_, .int wrongAt, .int number, .long hh])), (on, .inl (k 0, 401, .inl now)), (op, .inl (k 0, 2005, .inl past)), (orr, .inl (k 0, 3, .inl r11.2))] H := hP
            have hD : va_D A [(o, .inr (6, [.ref on, .ref op, .int states, .ref orr, .ref ot, .int bytes, .ref oh, .ref og, .ref od, .int reading, .int at_, .int wrongAt, .int number, .long hh])), (on, .inl (k 0, 401, .inl now)), (op, .inl (k 0, 2005, .inl past)), (orr, .inl (k 0, 3, .inl r11.2))] := hD
            obtain rfl := Option.some.inj h
            exact W.iret (v := r11.1) hx hb hr (fun t ht9 hW => ⟨⟨_, (), rfl, rfl, zend ht9 hP⟩, hS.F ht9⟩) hS.2.2 dX6_announces_80
      · have h := zt h c5
        refine lv_aload_n hx hb dX6_announces_37 rfl (lv_at hl 0 rfl) ?_
        obtain ⟨r12, h12, h⟩ := zb h
        refine zi (zrV (C := RX6) (T := TX6) (N := 14) (As := []) (rest := []) ⟨hx, hb, hml, hown, ht⟩ (c_X6_bad l D k o on op orr ot oh og od states bytes reading at_ wrongAt number hh refused  h12 _) (cwV 0 ht (gdV wb826 wb828 wb29 wb80 wb829) rfl rfl rfl (by decide +kernel) ⟨Nat.le_of_ble_eq_true rfl, Nat.le_of_ble_eq_true rfl⟩) hK hP hD hS hA hm [0, 3] rfl rfl 0 6 rfl rfl rfl hl.1 rfl (Nat.le_of_ble_eq_true rfl) dX6_announces_38 ⟨Nat.le_refl _, Nat.le_refl _⟩) hP hD hS hA [0, 3] rfl rfl (fun H locs hP hD hS => ?_)
        have hP : va_P D vwCl [(o, .inr (6, [.ref on, .ref op, .int states, .ref orr, .ref ot, .int bytes, .ref oh, .ref og, .ref od, .int reading, .int at_, .int wrongAt, .int number, .long hh])), (on, .inl (k 0, 401, .inl now)), (op, .inl (k 0, 2005, .inl past)), (orr, .inl (k 0, 3, .inl r12.2))] H := hP
        have hD : va_D A [(o, .inr (6, [.ref on, .ref op, .int states, .ref orr, .ref ot, .int bytes, .ref oh, .ref og, .ref od, .int reading, .int at_, .int wrongAt, .int number, .long hh])), (on, .inl (k 0, 401, .inl now)), (op, .inl (k 0, 2005, .inl past)), (orr, .inl (k 0, 3, .inl r12.2))] := hD
        obtain rfl := Option.some.inj h
        exact W.iret (v := r12.1) hx hb hr (fun t ht9 hW => ⟨⟨_, (), rfl, rfl, zend ht9 hP⟩, hS.F ht9⟩) hS.2.2 dX6_announces_41
def f_X6_ticks_L42 (fu : Nat) (K : Int32 → (Nat → Int32) → Option (Int32 × Int32 × (Nat → Int32) × (Nat → Int32) × (Nat → Int32)))  : Nat → Int32 → (Nat → Int32) → Option (Int32 × Int32 × (Nat → Int32) × (Nat → Int32) × (Nat → Int32))
  | 0, _, _ => none
  | n + 1, v2, now =>
  if v2 < 0 then (K v2 now) else ((f_X6_flowAt  v2).bind fun r3 => if zok (r3 + 5) 401 then (if zok 394 401 then (if (now (Int32.toNatClampNeg 394)) < (now (Int32.toNatClampNeg (r3 + 5))) then (f_X6_ticks_L42 fu K  n (v2 + (-1)) now) else ((f_X6_flowGoes fu now v2).bind fun r4 => if zok 400 401 then (if zok 400 401 then (f_X6_ticks_L42 fu K  n (v2 + (-1)) (upd r4 (Int32.toNatClampNeg 400) ((r4 (Int32.toNatClampNeg 400)) + 1))) else none) else none)) else none) else none)
def f_X6_ticks_L103 (fu : Nat) (K : Int32 → (Nat → Int32) → Option (Int32 × Int32 × (Nat → Int32) × (Nat → Int32) × (Nat → Int32)))  : Nat → Int32 → (Nat → Int32) → Option (Int32 × Int32 × (Nat → Int32) × (Nat → Int32) × (Nat → Int32))
  | 0, _, _ => none
  | n + 1, v2, now =>
  if v2 < 0 then (K v2 now) else (if zok ((356 + (5 * v2)) + 4) 401 then (if zok 394 401 then (if (now (Int32.toNatClampNeg 394)) < (now (Int32.toNatClampNeg ((356 + (5 * v2)) + 4))) then (f_X6_ticks_L103 fu K  n (v2 + (-1)) now) else ((f_X6_saidGoes fu now v2).bind fun r5 => f_X6_ticks_L103 fu K  n (v2 + (-1)) r5)) else none) else none)
def f_X6_ticks (fu : Nat) (states : Int32) (now : Nat → Int32) (past : Nat → Int32) (refused : Nat → Int32) (a1 : Int32) : Option (Int32 × Int32 × (Nat → Int32) × (Nat → Int32) × (Nat → Int32)) :=
  (f_X6_in  a1 1 100).bind fun r1 => if (zB r1) = 0 then ((f_X6_bad refused ).bind fun r6 => some (r6.1, states, now, past, r6.2)) else ((f_X6_remembers fu states now past ).bind fun r2 => if zok 394 401 then (if zok 394 401 then (if zok 298 401 then (f_X6_ticks_L42 fu (fun (x1 : Int32) (x2 : Nat → Int32) => if zok 355 401 then (f_X6_ticks_L103 fu (fun (x3 : Int32) (x4 : Nat → Int32) => if zok 298 401 then (some (x4 (Int32.toNatClampNeg 298), r2.1, x4, r2.2, refused)) else none)  fu ((x2 (Int32.toNatClampNeg 355)) - 1) x2) else none)  fu (((upd now (Int32.toNatClampNeg 394) ((now (Int32.toNatClampNeg 394)) + a1)) (Int32.toNatClampNeg 298)) - 1) (upd now (Int32.toNatClampNeg 394) ((now (Int32.toNatClampNeg 394)) + a1))) else none) else none) else none)
abbrev wk_X6_ticks : List Cond := Cond.code yX6_ticks cX6_ticks 3 (some .int) :: WB
abbrev rm_X6_ticks : Room := { frames := 2, cells := 0, slots := 0, locals := 43 }
set_option maxHeartbeats 4000000 in
set_option maxRecDepth 100000 in
theorem c_X6_ticks (l : Launch) (D : va_G) (k : Nat → Nat) (o on op orr ot oh og od : Nat) (states : Int32) (bytes : Int32) (reading : Int32) (at_ : Int32) (wrongAt : Int32) (number : Int32) (hh : Int64) (now : Nat → Int32) (past : Nat → Int32) (refused : Nat → Int32) (a1 : Int32) (fu : Nat) {res : Int32 × Int32 × (Nat → Int32) × (Nat → Int32) × (Nat → Int32)} (h : f_X6_ticks fu states now past refused a1 = some res) : Ci l yX6_ticks wk_X6_ticks rm_X6_ticks D k [.ref o, .int a1] [(o, .inr (6, [.ref on, .ref op, .int states, .ref orr, .ref ot, .int bytes, .ref oh, .ref og, .ref od, .int reading, .int at_, .int wrongAt, .int number, .long hh])), (on, .inl (k 0, 401, .inl now)), (op, .inl (k 0, 2005, .inl past)), (orr, .inl (k 0, 3, .inl refused))] [(o, .inr (6, [.ref on, .ref op, .int res.2.1, .ref orr, .ref ot, .int bytes, .ref oh, .ref og, .ref od, .int reading, .int at_, .int wrongAt, .int number, .long hh])), (on, .inl (k 0, 401, .inl res.2.2.1)), (op, .inl (k 0, 2005, .inl res.2.2.2.1)), (orr, .inl (k 0, 3, .inl res.2.2.2.2))] res.1 := by
  unfold Ci
  intro sz
  refine Met.ofW (cc := cX6_ticks) (maxL := 3) (ret := (some .int)) (by decide) rfl ?_
  intro p e s m args below meth c s₁ B hml hv
  obtain ⟨rfl, hsz, hP, hK, hD0, hm⟩ := hv
  have hx := B.exec
  have hb := B.bytes
  have hr := B.returns
  have ht : ∀ w ∈ WB, w.before _ s = true := fun w hw => atoms_spec (ws := wk_X6_ticks) B.pre w (List.mem_cons_of_mem _ hw)
  have hown : s.vm.findClass RX6 = some m.cls := findClass_of_methodNamed B.named
  have hlocks := B.notSynchronized
  subst hsz
  have hD := hD0.self (sz := s.heap.size)
  generalize hAe : va_A [(o, .inr (6, [.ref on, .ref op, .int states, .ref orr, .ref ot, .int bytes, .ref oh, .ref og, .ref od, .int reading, .int at_, .int wrongAt, .int number, .long hh])), (on, .inl (k 0, 401, .inl now)), (op, .inl (k 0, 2005, .inl past)), (orr, .inl (k 0, 3, .inl refused))] s.heap.size = A at hD hm ⊢
  have hA : ∀ q : Nat, s.heap.size ≤ q → A q := fun q h => by rw [← hAe]; exact Or.inr h
  have hS : va_S A s.heap s.heap [] := va_S.rf
  have hl := lv_entry ([.ref o, .int a1]) (n := 3) (Nat.le_of_ble_eq_true rfl)
  rw [lg_entry_eq]
  generalize (lg_sl ([.ref o, .int a1]) ++ List.replicate (3 - (lg_sl ([.ref o, .int a1])).length) Slot.unset).toArray = ls at hl ⊢
  have hl : lv_has ls 3 [(0, .ref o), (1, .int a1)] := hl
  obtain ⟨H, hH⟩ : ∃ H, H = s.heap := ⟨_, rfl⟩
  rw [← hH] at hP
  have hS : va_S A s.heap H [] := by rw [hH]; exact hS
  suffices hgo : W p l e _ s m _ below meth c H [] 0 0 _ _ by rw [hH] at hgo; exact hgo
  unfold f_X6_ticks at h
  refine lv_iload_n hx hb dX6_ticks_0 rfl (lv_at hl 1 rfl) ?_
  refine lv_iconst (v := 1) hx hb dX6_ticks_1 (by decide) ?_
  refine lv_bipush (v := 100) hx hb dX6_ticks_2 (by decide) ?_
  obtain ⟨r1, h1, h⟩ := zb h
  refine zi (zrS (As := [.int a1, .int 1, .int 100]) (rest := []) ⟨hx, hb, hml, hown, ht⟩ (c_X6_in l D k   a1 1 100 h1 _) (va_cwS 3 ht (gdS wb820 wb821 wb80 wb822) rfl rfl rfl (by decide +kernel) ⟨Nat.le_of_ble_eq_true rfl, Nat.le_of_ble_eq_true rfl⟩) hK hP hD hS hA hm [] rfl rfl rfl hl.1 rfl (Nat.le_of_ble_eq_true rfl) dX6_ticks_4 ⟨Nat.le_refl _, Nat.le_refl _⟩) hP hD hS hA [] rfl rfl (fun H locs hP hD hS => ?_)
  have hP : va_P D vwCl [(o, .inr (6, [.ref on, .ref op, .int states, .ref orr, .ref ot, .int bytes, .ref oh, .ref og, .ref od, .int reading, .int at_, .int wrongAt, .int number, .long hh])), (on, .inl (k 0, 401, .inl now)), (op, .inl (k 0, 2005, .inl past)), (orr, .inl (k 0, 3, .inl refused))] H := hP
  have hD : va_D A [(o, .inr (6, [.ref on, .ref op, .int states, .ref orr, .ref ot, .int bytes, .ref oh, .ref og, .ref od, .int reading, .int at_, .int wrongAt, .int number, .long hh])), (on, .inl (k 0, 401, .inl now)), (op, .inl (k 0, 2005, .inl past)), (orr, .inl (k 0, 3, .inl refused))] := hD
  refine lv_if_ne (tgt := 15) hx hb dX6_ticks_7 (by decide) (fun c5 => ?_) (fun c5 => ?_)
  · have h := zf h c5
    refine lv_aload_n hx hb dX6_ticks_15 rfl (lv_at hl 0 rfl) ?_
    obtain ⟨r2, h2, h⟩ := zb h
    refine zv (zrV (C := RX6) (T := TX6) (N := 14) (As := []) (rest := []) ⟨hx, hb, hml, hown, ht⟩ (c_X6_remembers l D k o on op orr ot oh og od states bytes reading at_ wrongAt number hh now past  fu h2 _) (cwV 0 ht (gdV wb830 wb832 wb30 wb80 wb833) rfl rfl rfl (by decide +kernel) ⟨Nat.le_of_ble_eq_true rfl, Nat.le_of_ble_eq_true rfl⟩) hK hP hD hS hA hm [0, 1, 2] rfl rfl 0 6 rfl rfl rfl hl.1 rfl (Nat.le_of_ble_eq_true rfl) dX6_ticks_16 ⟨Nat.le_refl _, Nat.le_refl _⟩) hP hD hS hA [0, 1, 2] rfl rfl (fun H locs hP hD hS => ?_)
    have hP : va_P D vwCl [(o, .inr (6, [.ref on, .ref op, .int r2.1, .ref orr, .ref ot, .int bytes, .ref oh, .ref og, .ref od, .int reading, .int at_, .int wrongAt, .int number, .long hh])), (on, .inl (k 0, 401, .inl now)), (op, .inl (k 0, 2005, .inl r2.2)), (orr, .inl (k 0, 3, .inl refused))] H := hP
    have hD : va_D A [(o, .inr (6, [.ref on, .ref op, .int r2.1, .ref orr, .ref ot, .int bytes, .ref oh, .ref og, .ref od, .int reading, .int at_, .int wrongAt, .int number, .long hh])), (on, .inl (k 0, 401, .inl now)), (op, .inl (k 0, 2005, .inl r2.2)), (orr, .inl (k 0, 3, .inl refused))] := hD
    refine lv_aload_n hx hb dX6_ticks_19 rfl (lv_at hl 0 rfl) ?_
    refine va_get (D := D) (ci := 6) (v := .ref on) (C := RX6) (T := TX6) (N := 14) hx hb ht hiX6 hown hK hP 0 rfl rfl 0 (by decide) (ht _ wb765) (fun _ h9 => h9) rfl dX6_ticks_20 ?_
    refine lv_sipush (v := 394) hx hb dX6_ticks_23 (by decide) ?_
    refine lv_dup2_11 hx hb dX6_ticks_26 rfl rfl ?_
    obtain ⟨hi1, h⟩ := zg h
    refine va_iald hx hb hK hP 1 0 rfl rfl hi1 dX6_ticks_27 ?_
    refine lv_iload_n hx hb dX6_ticks_28 rfl (lv_at hl 1 rfl) ?_
    refine lv_iadd hx hb dX6_ticks_29 ?_
    obtain ⟨hi2, h⟩ := zg h
    refine va_iast hx hb hK hP hD hS 1 0 rfl rfl hi2 dX6_ticks_30 (fun H locs hP hD hS => ?_)
    have hP : va_P D vwCl [(o, .inr (6, [.ref on, .ref op, .int r2.1, .ref orr, .ref ot, .int bytes, .ref oh, .ref og, .ref od, .int reading, .int at_, .int wrongAt, .int number, .long hh])), (on, .inl (k 0, 401, .inl (upd now (Int32.toNatClampNeg 394) ((now (Int32.toNatClampNeg 394)) + a1)))), (op, .inl (k 0, 2005, .inl r2.2)), (orr, .inl (k 0, 3, .inl refused))] H := hP
    have hD : va_D A [(o, .inr (6, [.ref on, .ref op, .int r2.1, .ref orr, .ref ot, .int bytes, .ref oh, .ref og, .ref od, .int reading, .int at_, .int wrongAt, .int number, .long hh])), (on, .inl (k 0, 401, .inl (upd now (Int32.toNatClampNeg 394) ((now (Int32.toNatClampNeg 394)) + a1)))), (op, .inl (k 0, 2005, .inl r2.2)), (orr, .inl (k 0, 3, .inl refused))] := hD
    refine lv_aload_n hx hb dX6_ticks_31 rfl (lv_at hl 0 rfl) ?_
    refine va_get (D := D) (ci := 6) (v := .ref on) (C := RX6) (T := TX6) (N := 14) hx hb ht hiX6 hown hK hP 0 rfl rfl 0 (by decide) (ht _ wb765) (fun _ h9 => h9) rfl dX6_ticks_32 ?_
    refine lv_sipush (v := 298) hx hb dX6_ticks_35 (by decide) ?_
    obtain ⟨hi3, h⟩ := zg h
    refine va_iald hx hb hK hP 1 0 rfl rfl hi3 dX6_ticks_38 ?_
    refine lv_iconst (v := 1) hx hb dX6_ticks_39 (by decide) ?_
    refine lv_isub hx hb dX6_ticks_40 ?_
    refine lv_istore_n (lv' := [(2, .int (((upd now (Int32.toNatClampNeg 394) ((now (Int32.toNatClampNeg 394)) + a1)) (Int32.toNatClampNeg 298)) - 1)), (0, .ref o), (1, .int a1)]) hx hb dX6_ticks_41 rfl hl (by decide) rfl (fun ls hl => ?_)
    have loop42 : ∀ (v1 : Int32) (states : Int32) (bytes : Int32) (reading : Int32) (at_ : Int32) (wrongAt : Int32) (number : Int32) (hh : Int64) (past : Nat → Int32) (refused : Nat → Int32), ∀ (K : Int32 → (Nat → Int32) → Option (Int32 × Int32 × (Nat → Int32) × (Nat → Int32) × (Nat → Int32))), (∀ (v2 : Int32) (now : Nat → Int32), K v2 now = some res → ∀ (H : Heap) (locs : List Loc), va_P D vwCl [(o, .inr (6, [.ref on, .ref op, .int states, .ref orr, .ref ot, .int bytes, .ref oh, .ref og, .ref od, .int reading, .int at_, .int wrongAt, .int number, .long hh])), (on, .inl (k 0, 401, .inl now)), (op, .inl (k 0, 2005, .inl past)), (orr, .inl (k 0, 3, .inl refused))] H → va_D A [(o, .inr (6, [.ref on, .ref op, .int states, .ref orr, .ref ot, .int bytes, .ref oh, .ref og, .ref od, .int reading, .int at_, .int wrongAt, .int number, .long hh])), (on, .inl (k 0, 401, .inl now)), (op, .inl (k 0, 2005, .inl past)), (orr, .inl (k 0, 3, .inl refused))] → va_S A s.heap H locs → ∀ ls : Array Slot, lv_has ls 3 [(0, .ref o), (1, .int v1), (2, .int v2)] → W p l e (headSpec wk_X6_ticks rm_X6_ticks).room s m ([.ref o, .int a1] : List Value).toArray below meth c H locs 0 0 (MQ below (va_Qi (fun xq9 (_ : Unit) => xq9 = res.1) (fun _ tq9 => va_P D vwCl [(o, .inr (6, [.ref on, .ref op, .int res.2.1, .ref orr, .ref ot, .int bytes, .ref oh, .ref og, .ref od, .int reading, .int at_, .int wrongAt, .int number, .long hh])), (on, .inl (k 0, 401, .inl res.2.2.1)), (op, .inl (k 0, 2005, .inl res.2.2.2.1)), (orr, .inl (k 0, 3, .inl res.2.2.2.2))] tq9.heap) A) ([.ref o, .int a1] : List Value).toArray s 0 0 A) (F0 m 92 ls [])) → ∀ (n : Nat) (v2 : Int32) (now : Nat → Int32), f_X6_ticks_L42 fu K  n v2 now = some res → ∀ (H : Heap) (locs : List Loc), va_P D vwCl [(o, .inr (6, [.ref on, .ref op, .int states, .ref orr, .ref ot, .int bytes, .ref oh, .ref og, .ref od, .int reading, .int at_, .int wrongAt, .int number, .long hh])), (on, .inl (k 0, 401, .inl now)), (op, .inl (k 0, 2005, .inl past)), (orr, .inl (k 0, 3, .inl refused))] H → va_D A [(o, .inr (6, [.ref on, .ref op, .int states, .ref orr, .ref ot, .int bytes, .ref oh, .ref og, .ref od, .int reading, .int at_, .int wrongAt, .int number, .long hh])), (on, .inl (k 0, 401, .inl now)), (op, .inl (k 0, 2005, .inl past)), (orr, .inl (k 0, 3, .inl refused))] → va_S A s.heap H locs → ∀ ls : Array Slot, lv_has ls 3 [(0, .ref o), (1, .int v1), (2, .int v2)] → W p l e (headSpec wk_X6_ticks rm_X6_ticks).room s m ([.ref o, .int a1] : List Value).toArray below meth c H locs 0 0 (MQ below (va_Qi (fun xq9 (_ : Unit) => xq9 = res.1) (fun _ tq9 => va_P D vwCl [(o, .inr (6, [.ref on, .ref op, .int res.2.1, .ref orr, .ref ot, .int bytes, .ref oh, .ref og, .ref od, .int reading, .int at_, .int wrongAt, .int number, .long hh])), (on, .inl (k 0, 401, .inl res.2.2.1)), (op, .inl (k 0, 2005, .inl res.2.2.2.1)), (orr, .inl (k 0, 3, .inl res.2.2.2.2))] tq9.heap) A) ([.ref o, .int a1] : List Value).toArray s 0 0 A) (F0 m 42 ls []) := by
      intro v1 states bytes reading at_ wrongAt number hh past refused K hKK n
      induction n with
      | zero =>
        intro v2 now h
        rw [f_X6_ticks_L42] at h
        cases h
      | succ n ih =>
        intro v2 now h H locs hP hD hS ls hl
        rw [f_X6_ticks_L42] at h
        refine lv_iload_n hx hb dX6_ticks_42 rfl (lv_at hl 2 rfl) ?_
        refine lv_if_lt (tgt := 92) hx hb dX6_ticks_43 (by decide) (fun c2 => ?_) (fun c2 => ?_)
        · have h := zt h c2
          exact hKK _ _ h _ _ hP hD hS _ (lv_sub hl [0, 1, 2] rfl)
        · have h := zf h c2
          refine lv_aload_n hx hb dX6_ticks_46 rfl (lv_at hl 0 rfl) ?_
          refine va_get (D := D) (ci := 6) (v := .ref on) (C := RX6) (T := TX6) (N := 14) hx hb ht hiX6 hown hK hP 0 rfl rfl 0 (by decide) (ht _ wb765) (fun _ h9 => h9) rfl dX6_ticks_47 ?_
          refine lv_aload_n hx hb dX6_ticks_50 rfl (lv_at hl 0 rfl) ?_
          refine lv_iload_n hx hb dX6_ticks_51 rfl (lv_at hl 2 rfl) ?_
          obtain ⟨r3, h3, h⟩ := zb h
          refine zi (zrV (C := RX6) (T := TX6) (N := 14) (As := [.int v2]) (rest := [.ref on]) ⟨hx, hb, hml, hown, ht⟩ (c_X6_flowAt l D k o on op orr ot oh og od states bytes reading at_ wrongAt number hh v2 h3 _) (cwV 1 ht (gdV wb987 wb989 wb48 wb80 wb990) rfl rfl rfl (by decide +kernel) ⟨Nat.le_of_ble_eq_true rfl, Nat.le_of_ble_eq_true rfl⟩) hK hP hD hS hA hm [0] rfl rfl 0 6 rfl rfl rfl hl.1 rfl (Nat.le_of_ble_eq_true rfl) dX6_ticks_52 ⟨Nat.le_refl _, Nat.le_refl _⟩) hP hD hS hA [0] rfl rfl (fun H locs hP hD hS => ?_)
          have hP : va_P D vwCl [(o, .inr (6, [.ref on, .ref op, .int states, .ref orr, .ref ot, .int bytes, .ref oh, .ref og, .ref od, .int reading, .int at_, .int wrongAt, .int number, .long hh])), (on, .inl (k 0, 401, .inl now)), (op, .inl (k 0, 2005, .inl past)), (orr, .inl (k 0, 3, .inl refused))] H := hP
          have hD : va_D A [(o, .inr (6, [.ref on, .ref op, .int states, .ref orr, .ref ot, .int bytes, .ref oh, .ref og, .ref od, .int reading, .int at_, .int wrongAt, .int number, .long hh])), (on, .inl (k 0, 401, .inl now)), (op, .inl (k 0, 2005, .inl past)), (orr, .inl (k 0, 3, .inl refused))] := hD
          refine lv_iconst (v := 5) hx hb dX6_ticks_55 (by decide) ?_
          refine lv_iadd hx hb dX6_ticks_56 ?_
          obtain ⟨hi4, h⟩ := zg h
          refine va_iald hx hb hK hP 1 0 rfl rfl hi4 dX6_ticks_57 ?_
          refine lv_aload_n hx hb dX6_ticks_58 rfl (lv_at hl 0 rfl) ?_
          refine va_get (D := D) (ci := 6) (v := .ref on) (C := RX6) (T := TX6) (N := 14) hx hb ht hiX6 hown hK hP 0 rfl rfl 0 (by decide) (ht _ wb765) (fun _ h9 => h9) rfl dX6_ticks_59 ?_
          refine lv_sipush (v := 394) hx hb dX6_ticks_62 (by decide) ?_
          obtain ⟨hi5, h⟩ := zg h
          refine va_iald hx hb hK hP 1 0 rfl rfl hi5 dX6_ticks_65 ?_
          refine lv_icmp_gt (tgt := 86) hx hb dX6_ticks_66 (by decide) (fun c1 => ?_) (fun c1 => ?_)
          · have h := zt h c1
            refine lv_iinc (v := v2 + (-1)) (lv' := [(2, .int (v2 + (-1))), (0, .ref o), (1, .int v1)]) hx hb dX6_ticks_86 hl (k := 2) rfl rfl (by decide) rfl (fun ls hl => ?_)
            refine lv_goto (tgt := 42) hx hb dX6_ticks_89 (by decide) ?_
            exact ih _ _ h _ _ hP hD hS _ (lv_sub hl [1, 2, 0] rfl)
          · have h := zf h c1
            refine lv_aload_n hx hb dX6_ticks_69 rfl (lv_at hl 0 rfl) ?_
            refine lv_iload_n hx hb dX6_ticks_70 rfl (lv_at hl 2 rfl) ?_
            obtain ⟨r4, h4, h⟩ := zb h
            refine zv (zrV (C := RX6) (T := TX6) (N := 14) (As := [.int v2]) (rest := []) ⟨hx, hb, hml, hown, ht⟩ (c_X6_flowGoes l D k o on op orr ot oh og od states bytes reading at_ wrongAt number hh now v2 fu h4 _) (cwV 1 ht (gdV wb999 wb1001 wb51 wb80 wb1002) rfl rfl rfl (by decide +kernel) ⟨Nat.le_of_ble_eq_true rfl, Nat.le_of_ble_eq_true rfl⟩) hK hP hD hS hA hm [0, 1] rfl rfl 0 6 rfl rfl rfl hl.1 rfl (Nat.le_of_ble_eq_true rfl) dX6_ticks_71 ⟨Nat.le_refl _, Nat.le_refl _⟩) hP hD hS hA [0, 1] rfl rfl (fun H locs hP hD hS => ?_)
            have hP : va_P D vwCl [(o, .inr (6, [.ref on, .ref op, .int states, .ref orr, .ref ot, .int bytes, .ref oh, .ref og, .ref od, .int reading, .int at_, .int wrongAt, .int number, .long hh])), (on, .inl (k 0, 401, .inl r4)), (op, .inl (k 0, 2005, .inl past)), (orr, .inl (k 0, 3, .inl refused))] H := hP
            have hD : va_D A [(o, .inr (6, [.ref on, .ref op, .int states, .ref orr, .ref ot, .int bytes, .ref oh, .ref og, .ref od, .int reading, .int at_, .int wrongAt, .int number, .long hh])), (on, .inl (k 0, 401, .inl r4)), (op, .inl (k 0, 2005, .inl past)), (orr, .inl (k 0, 3, .inl refused))] := hD
            refine lv_aload_n hx hb dX6_ticks_74 rfl (lv_at hl 0 rfl) ?_
            refine va_get (D := D) (ci := 6) (v := .ref on) (C := RX6) (T := TX6) (N := 14) hx hb ht hiX6 hown hK hP 0 rfl rfl 0 (by decide) (ht _ wb765) (fun _ h9 => h9) rfl dX6_ticks_75 ?_
            refine lv_sipush (v := 400) hx hb dX6_ticks_78 (by decide) ?_
            refine lv_dup2_11 hx hb dX6_ticks_81 rfl rfl ?_
            obtain ⟨hi6, h⟩ := zg h
            refine va_iald hx hb hK hP 1 0 rfl rfl hi6 dX6_ticks_82 ?_
            refine lv_iconst (v := 1) hx hb dX6_ticks_83 (by decide) ?_
            refine lv_iadd hx hb dX6_ticks_84 ?_
            obtain ⟨hi7, h⟩ := zg h
            refine va_iast hx hb hK hP hD hS 1 0 rfl rfl hi7 dX6_ticks_85 (fun H locs hP hD hS => ?_)
            have hP : va_P D vwCl [(o, .inr (6, [.ref on, .ref op, .int states, .ref orr, .ref ot, .int bytes, .ref oh, .ref og, .ref od, .int reading, .int at_, .int wrongAt, .int number, .long hh])), (on, .inl (k 0, 401, .inl (upd r4 (Int32.toNatClampNeg 400) ((r4 (Int32.toNatClampNeg 400)) + 1)))), (op, .inl (k 0, 2005, .inl past)), (orr, .inl (k 0, 3, .inl refused))] H := hP
            have hD : va_D A [(o, .inr (6, [.ref on, .ref op, .int states, .ref orr, .ref ot, .int bytes, .ref oh, .ref og, .ref od, .int reading, .int at_, .int wrongAt, .int number, .long hh])), (on, .inl (k 0, 401, .inl (upd r4 (Int32.toNatClampNeg 400) ((r4 (Int32.toNatClampNeg 400)) + 1)))), (op, .inl (k 0, 2005, .inl past)), (orr, .inl (k 0, 3, .inl refused))] := hD
            refine lv_iinc (v := v2 + (-1)) (lv' := [(2, .int (v2 + (-1))), (0, .ref o), (1, .int v1)]) hx hb dX6_ticks_86 hl (k := 2) rfl rfl (by decide) rfl (fun ls hl => ?_)
            refine lv_goto (tgt := 42) hx hb dX6_ticks_89 (by decide) ?_
            exact ih _ _ h _ _ hP hD hS _ (lv_sub hl [1, 2, 0] rfl)
    refine loop42 _ _ _ _ _ _ _ _ _ _ _ ?_ fu _ _ h _ _ hP hD hS _ (lv_sub hl [1, 2, 0] rfl)
    intro x1 x2 h H locs hP hD hS ls hl
    try dsimp only at h
    have hP : va_P D vwCl [(o, .inr (6, [.ref on, .ref op, .int r2.1, .ref orr, .ref ot, .int bytes, .ref oh, .ref og, .ref od, .int reading, .int at_, .int wrongAt, .int number, .long hh])), (on, .inl (k 0, 401, .inl x2)), (op, .inl (k 0, 2005, .inl r2.2)), (orr, .inl (k 0, 3, .inl refused))] H := hP
    have hD : va_D A [(o, .inr (6, [.ref on, .ref op, .int r2.1, .ref orr, .ref ot, .int bytes, .ref oh, .ref og, .ref od, .int reading, .int at_, .int wrongAt, .int number, .long hh])), (on, .inl (k 0, 401, .inl x2)), (op, .inl (k 0, 2005, .inl r2.2)), (orr, .inl (k 0, 3, .inl refused))] := hD
    have hl : lv_has ls 3 [(0, .ref o), (1, .int a1), (2, .int x1)] := hl
    refine lv_aload_n hx hb dX6_ticks_92 rfl (lv_at hl 0 rfl) ?_
    refine va_get (D := D) (ci := 6) (v := .ref on) (C := RX6) (T := TX6) (N := 14) hx hb ht hiX6 hown hK hP 0 rfl rfl 0 (by decide) (ht _ wb765) (fun _ h9 => h9) rfl dX6_ticks_93 ?_
    refine lv_sipush (v := 355) hx hb dX6_ticks_96 (by decide) ?_
    obtain ⟨hi8, h⟩ := zg h
    refine va_iald hx hb hK hP 1 0 rfl rfl hi8 dX6_ticks_99 ?_
    refine lv_iconst (v := 1) hx hb dX6_ticks_100 (by decide) ?_
    refine lv_isub hx hb dX6_ticks_101 ?_
    refine lv_istore_n (lv' := [(2, .int ((x2 (Int32.toNatClampNeg 355)) - 1)), (0, .ref o), (1, .int a1)]) hx hb dX6_ticks_102 rfl hl (by decide) rfl (fun ls hl => ?_)
    have loop103 : ∀ (v1 : Int32) (states : Int32) (bytes : Int32) (reading : Int32) (at_ : Int32) (wrongAt : Int32) (number : Int32) (hh : Int64) (past : Nat → Int32) (refused : Nat → Int32), ∀ (K : Int32 → (Nat → Int32) → Option (Int32 × Int32 × (Nat → Int32) × (Nat → Int32) × (Nat → Int32))), (∀ (v2 : Int32) (now : Nat → Int32), K v2 now = some res → ∀ (H : Heap) (locs : List Loc), va_P D vwCl [(o, .inr (6, [.ref on, .ref op, .int states, .ref orr, .ref ot, .int bytes, .ref oh, .ref og, .ref od, .int reading, .int at_, .int wrongAt, .int number, .long hh])), (on, .inl (k 0, 401, .inl now)), (op, .inl (k 0, 2005, .inl past)), (orr, .inl (k 0, 3, .inl refused))] H → va_D A [(o, .inr (6, [.ref on, .ref op, .int states, .ref orr, .ref ot, .int bytes, .ref oh, .ref og, .ref od, .int reading, .int at_, .int wrongAt, .int number, .long hh])), (on, .inl (k 0, 401, .inl now)), (op, .inl (k 0, 2005, .inl past)), (orr, .inl (k 0, 3, .inl refused))] → va_S A s.heap H locs → ∀ ls : Array Slot, lv_has ls 3 [(0, .ref o), (1, .int v1), (2, .int v2)] → W p l e (headSpec wk_X6_ticks rm_X6_ticks).room s m ([.ref o, .int a1] : List Value).toArray below meth c H locs 0 0 (MQ below (va_Qi (fun xq9 (_ : Unit) => xq9 = res.1) (fun _ tq9 => va_P D vwCl [(o, .inr (6, [.ref on, .ref op, .int res.2.1, .ref orr, .ref ot, .int bytes, .ref oh, .ref og, .ref od, .int reading, .int at_, .int wrongAt, .int number, .long hh])), (on, .inl (k 0, 401, .inl res.2.2.1)), (op, .inl (k 0, 2005, .inl res.2.2.2.1)), (orr, .inl (k 0, 3, .inl res.2.2.2.2))] tq9.heap) A) ([.ref o, .int a1] : List Value).toArray s 0 0 A) (F0 m 143 ls [])) → ∀ (n : Nat) (v2 : Int32) (now : Nat → Int32), f_X6_ticks_L103 fu K  n v2 now = some res → ∀ (H : Heap) (locs : List Loc), va_P D vwCl [(o, .inr (6, [.ref on, .ref op, .int states, .ref orr, .ref ot, .int bytes, .ref oh, .ref og, .ref od, .int reading, .int at_, .int wrongAt, .int number, .long hh])), (on, .inl (k 0, 401, .inl now)), (op, .inl (k 0, 2005, .inl past)), (orr, .inl (k 0, 3, .inl refused))] H → va_D A [(o, .inr (6, [.ref on, .ref op, .int states, .ref orr, .ref ot, .int bytes, .ref oh, .ref og, .ref od, .int reading, .int at_, .int wrongAt, .int number, .long hh])), (on, .inl (k 0, 401, .inl now)), (op, .inl (k 0, 2005, .inl past)), (orr, .inl (k 0, 3, .inl refused))] → va_S A s.heap H locs → ∀ ls : Array Slot, lv_has ls 3 [(0, .ref o), (1, .int v1), (2, .int v2)] → W p l e (headSpec wk_X6_ticks rm_X6_ticks).room s m ([.ref o, .int a1] : List Value).toArray below meth c H locs 0 0 (MQ below (va_Qi (fun xq9 (_ : Unit) => xq9 = res.1) (fun _ tq9 => va_P D vwCl [(o, .inr (6, [.ref on, .ref op, .int res.2.1, .ref orr, .ref ot, .int bytes, .ref oh, .ref og, .ref od, .int reading, .int at_, .int wrongAt, .int number, .long hh])), (on, .inl (k 0, 401, .inl res.2.2.1)), (op, .inl (k 0, 2005, .inl res.2.2.2.1)), (orr, .inl (k 0, 3, .inl res.2.2.2.2))] tq9.heap) A) ([.ref o, .int a1] : List Value).toArray s 0 0 A) (F0 m 103 ls []) := by
      intro v1 states bytes reading at_ wrongAt number hh past refused K hKK n
      induction n with
      | zero =>
        intro v2 now h
        rw [f_X6_ticks_L103] at h
        cases h
      | succ n ih =>
        intro v2 now h H locs hP hD hS ls hl
        rw [f_X6_ticks_L103] at h
        refine lv_iload_n hx hb dX6_ticks_103 rfl (lv_at hl 2 rfl) ?_
        refine lv_if_lt (tgt := 143) hx hb dX6_ticks_104 (by decide) (fun c4 => ?_) (fun c4 => ?_)
        · have h := zt h c4
          exact hKK _ _ h _ _ hP hD hS _ (lv_sub hl [0, 1, 2] rfl)
        · have h := zf h c4
          refine lv_aload_n hx hb dX6_ticks_107 rfl (lv_at hl 0 rfl) ?_
          refine va_get (D := D) (ci := 6) (v := .ref on) (C := RX6) (T := TX6) (N := 14) hx hb ht hiX6 hown hK hP 0 rfl rfl 0 (by decide) (ht _ wb765) (fun _ h9 => h9) rfl dX6_ticks_108 ?_
          refine lv_sipush (v := 356) hx hb dX6_ticks_111 (by decide) ?_
          refine lv_iconst (v := 5) hx hb dX6_ticks_114 (by decide) ?_
          refine lv_iload_n hx hb dX6_ticks_115 rfl (lv_at hl 2 rfl) ?_
          refine lv_imul hx hb dX6_ticks_116 ?_
          refine lv_iadd hx hb dX6_ticks_117 ?_
          refine lv_iconst (v := 4) hx hb dX6_ticks_118 (by decide) ?_
          refine lv_iadd hx hb dX6_ticks_119 ?_
          obtain ⟨hi9, h⟩ := zg h
          refine va_iald hx hb hK hP 1 0 rfl rfl hi9 dX6_ticks_120 ?_
          refine lv_aload_n hx hb dX6_ticks_121 rfl (lv_at hl 0 rfl) ?_
          refine va_get (D := D) (ci := 6) (v := .ref on) (C := RX6) (T := TX6) (N := 14) hx hb ht hiX6 hown hK hP 0 rfl rfl 0 (by decide) (ht _ wb765) (fun _ h9 => h9) rfl dX6_ticks_122 ?_
          refine lv_sipush (v := 394) hx hb dX6_ticks_125 (by decide) ?_
          obtain ⟨hi10, h⟩ := zg h
          refine va_iald hx hb hK hP 1 0 rfl rfl hi10 dX6_ticks_128 ?_
          refine lv_icmp_gt (tgt := 137) hx hb dX6_ticks_129 (by decide) (fun c3 => ?_) (fun c3 => ?_)
          · have h := zt h c3
            refine lv_iinc (v := v2 + (-1)) (lv' := [(2, .int (v2 + (-1))), (0, .ref o), (1, .int v1)]) hx hb dX6_ticks_137 hl (k := 2) rfl rfl (by decide) rfl (fun ls hl => ?_)
            refine lv_goto (tgt := 103) hx hb dX6_ticks_140 (by decide) ?_
            exact ih _ _ h _ _ hP hD hS _ (lv_sub hl [1, 2, 0] rfl)
          · have h := zf h c3
            refine lv_aload_n hx hb dX6_ticks_132 rfl (lv_at hl 0 rfl) ?_
            refine lv_iload_n hx hb dX6_ticks_133 rfl (lv_at hl 2 rfl) ?_
            obtain ⟨r5, h5, h⟩ := zb h
            refine zv (zrV (C := RX6) (T := TX6) (N := 14) (As := [.int v2]) (rest := []) ⟨hx, hb, hml, hown, ht⟩ (c_X6_saidGoes l D k o on op orr ot oh og od states bytes reading at_ wrongAt number hh now v2 fu h5 _) (cwV 1 ht (gdV wb1018 wb1020 wb55 wb80 wb1021) rfl rfl rfl (by decide +kernel) ⟨Nat.le_of_ble_eq_true rfl, Nat.le_of_ble_eq_true rfl⟩) hK hP hD hS hA hm [0, 1] rfl rfl 0 6 rfl rfl rfl hl.1 rfl (Nat.le_of_ble_eq_true rfl) dX6_ticks_134 ⟨Nat.le_refl _, Nat.le_refl _⟩) hP hD hS hA [0, 1] rfl rfl (fun H locs hP hD hS => ?_)
            have hP : va_P D vwCl [(o, .inr (6, [.ref on, .ref op, .int states, .ref orr, .ref ot, .int bytes, .ref oh, .ref og, .ref od, .int reading, .int at_, .int wrongAt, .int number, .long hh])), (on, .inl (k 0, 401, .inl r5)), (op, .inl (k 0, 2005, .inl past)), (orr, .inl (k 0, 3, .inl refused))] H := hP
            have hD : va_D A [(o, .inr (6, [.ref on, .ref op, .int states, .ref orr, .ref ot, .int bytes, .ref oh, .ref og, .ref od, .int reading, .int at_, .int wrongAt, .int number, .long hh])), (on, .inl (k 0, 401, .inl r5)), (op, .inl (k 0, 2005, .inl past)), (orr, .inl (k 0, 3, .inl refused))] := hD
            refine lv_iinc (v := v2 + (-1)) (lv' := [(2, .int (v2 + (-1))), (0, .ref o), (1, .int v1)]) hx hb dX6_ticks_137 hl (k := 2) rfl rfl (by decide) rfl (fun ls hl => ?_)
            refine lv_goto (tgt := 103) hx hb dX6_ticks_140 (by decide) ?_
            exact ih _ _ h _ _ hP hD hS _ (lv_sub hl [1, 2, 0] rfl)
    refine loop103 _ _ _ _ _ _ _ _ _ _ _ ?_ fu _ _ h _ _ hP hD hS _ (lv_sub hl [1, 2, 0] rfl)
    intro x3 x4 h H locs hP hD hS ls hl
    try dsimp only at h
    have hP : va_P D vwCl [(o, .inr (6, [.ref on, .ref op, .int r2.1, .ref orr, .ref ot, .int bytes, .ref oh, .ref og, .ref od, .int reading, .int at_, .int wrongAt, .int number, .long hh])), (on, .inl (k 0, 401, .inl x4)), (op, .inl (k 0, 2005, .inl r2.2)), (orr, .inl (k 0, 3, .inl refused))] H := hP
    have hD : va_D A [(o, .inr (6, [.ref on, .ref op, .int r2.1, .ref orr, .ref ot, .int bytes, .ref oh, .ref og, .ref od, .int reading, .int at_, .int wrongAt, .int number, .long hh])), (on, .inl (k 0, 401, .inl x4)), (op, .inl (k 0, 2005, .inl r2.2)), (orr, .inl (k 0, 3, .inl refused))] := hD
    have hl : lv_has ls 3 [(0, .ref o), (1, .int a1), (2, .int x3)] := hl
    refine lv_aload_n hx hb dX6_ticks_143 rfl (lv_at hl 0 rfl) ?_
    refine va_get (D := D) (ci := 6) (v := .ref on) (C := RX6) (T := TX6) (N := 14) hx hb ht hiX6 hown hK hP 0 rfl rfl 0 (by decide) (ht _ wb765) (fun _ h9 => h9) rfl dX6_ticks_144 ?_
    refine lv_sipush (v := 298) hx hb dX6_ticks_147 (by decide) ?_
    obtain ⟨hi11, h⟩ := zg h
    refine va_iald hx hb hK hP 1 0 rfl rfl hi11 dX6_ticks_150 ?_
    obtain rfl := Option.some.inj h
    exact W.iret (v := x4 (Int32.toNatClampNeg 298)) hx hb hr (fun t ht9 hW => ⟨⟨_, (), rfl, rfl, zend ht9 hP⟩, hS.F ht9⟩) hS.2.2 dX6_ticks_151
  · have h := zt h c5
    refine lv_aload_n hx hb dX6_ticks_10 rfl (lv_at hl 0 rfl) ?_
    obtain ⟨r6, h6, h⟩ := zb h
    refine zi (zrV (C := RX6) (T := TX6) (N := 14) (As := []) (rest := []) ⟨hx, hb, hml, hown, ht⟩ (c_X6_bad l D k o on op orr ot oh og od states bytes reading at_ wrongAt number hh refused  h6 _) (cwV 0 ht (gdV wb826 wb828 wb29 wb80 wb829) rfl rfl rfl (by decide +kernel) ⟨Nat.le_of_ble_eq_true rfl, Nat.le_of_ble_eq_true rfl⟩) hK hP hD hS hA hm [0, 3] rfl rfl 0 6 rfl rfl rfl hl.1 rfl (Nat.le_of_ble_eq_true rfl) dX6_ticks_11 ⟨Nat.le_refl _, Nat.le_refl _⟩) hP hD hS hA [0, 3] rfl rfl (fun H locs hP hD hS => ?_)
    have hP : va_P D vwCl [(o, .inr (6, [.ref on, .ref op, .int states, .ref orr, .ref ot, .int bytes, .ref oh, .ref og, .ref od, .int reading, .int at_, .int wrongAt, .int number, .long hh])), (on, .inl (k 0, 401, .inl now)), (op, .inl (k 0, 2005, .inl past)), (orr, .inl (k 0, 3, .inl r6.2))] H := hP
    have hD : va_D A [(o, .inr (6, [.ref on, .ref op, .int states, .ref orr, .ref ot, .int bytes, .ref oh, .ref og, .ref od, .int reading, .int at_, .int wrongAt, .int number, .long hh])), (on, .inl (k 0, 401, .inl now)), (op, .inl (k 0, 2005, .inl past)), (orr, .inl (k 0, 3, .inl r6.2))] := hD
    obtain rfl := Option.some.inj h
    exact W.iret (v := r6.1) hx hb hr (fun t ht9 hW => ⟨⟨_, (), rfl, rfl, zend ht9 hP⟩, hS.F ht9⟩) hS.2.2 dX6_ticks_14
def f_X6_span (fu : Nat) (states : Int32) (now : Nat → Int32) (past : Nat → Int32) (refused : Nat → Int32) (a1 : Int32) (a2 : Int32) : Option (Int32 × Int32 × (Nat → Int32) × (Nat → Int32) × (Nat → Int32)) :=
  (f_X6_in  a1 1 7).bind fun r1 => if (zB r1) = 0 then ((f_X6_bad refused ).bind fun r2 => some (r2.1, states, now, past, r2.2)) else ((f_X6_in  a2 1 100).bind fun r3 => if (zB r3) = 0 then ((f_X6_bad refused ).bind fun r5 => some (r5.1, states, now, past, r5.2)) else ((f_X6_remembers fu states now past ).bind fun r4 => if zok (386 + a1) 401 then (if zok (386 + a1) 401 then (some (now (Int32.toNatClampNeg (386 + a1)), r4.1, upd now (Int32.toNatClampNeg (386 + a1)) a2, r4.2, refused)) else none) else none))
abbrev wk_X6_span : List Cond := Cond.code yX6_span cX6_span 4 (some .int) :: WB
abbrev rm_X6_span : Room := { frames := 1, cells := 0, slots := 0, locals := 22 }
set_option maxHeartbeats 4000000 in
set_option maxRecDepth 100000 in
theorem c_X6_span (l : Launch) (D : va_G) (k : Nat → Nat) (o on op orr ot oh og od : Nat) (states : Int32) (bytes : Int32) (reading : Int32) (at_ : Int32) (wrongAt : Int32) (number : Int32) (hh : Int64) (now : Nat → Int32) (past : Nat → Int32) (refused : Nat → Int32) (a1 : Int32) (a2 : Int32) (fu : Nat) {res : Int32 × Int32 × (Nat → Int32) × (Nat → Int32) × (Nat → Int32)} (h : f_X6_span fu states now past refused a1 a2 = some res) : Ci l yX6_span wk_X6_span rm_X6_span D k [.ref o, .int a1, .int a2] [(o, .inr (6, [.ref on, .ref op, .int states, .ref orr, .ref ot, .int bytes, .ref oh, .ref og, .ref od, .int reading, .int at_, .int wrongAt, .int number, .long hh])), (on, .inl (k 0, 401, .inl now)), (op, .inl (k 0, 2005, .inl past)), (orr, .inl (k 0, 3, .inl refused))] [(o, .inr (6, [.ref on, .ref op, .int res.2.1, .ref orr, .ref ot, .int bytes, .ref oh, .ref og, .ref od, .int reading, .int at_, .int wrongAt, .int number, .long hh])), (on, .inl (k 0, 401, .inl res.2.2.1)), (op, .inl (k 0, 2005, .inl res.2.2.2.1)), (orr, .inl (k 0, 3, .inl res.2.2.2.2))] res.1 := by
  unfold Ci
  intro sz
  refine Met.ofW (cc := cX6_span) (maxL := 4) (ret := (some .int)) (by decide) rfl ?_
  intro p e s m args below meth c s₁ B hml hv
  obtain ⟨rfl, hsz, hP, hK, hD0, hm⟩ := hv
  have hx := B.exec
  have hb := B.bytes
  have hr := B.returns
  have ht : ∀ w ∈ WB, w.before _ s = true := fun w hw => atoms_spec (ws := wk_X6_span) B.pre w (List.mem_cons_of_mem _ hw)
  have hown : s.vm.findClass RX6 = some m.cls := findClass_of_methodNamed B.named
  have hlocks := B.notSynchronized
  subst hsz
  have hD := hD0.self (sz := s.heap.size)
  generalize hAe : va_A [(o, .inr (6, [.ref on, .ref op, .int states, .ref orr, .ref ot, .int bytes, .ref oh, .ref og, .ref od, .int reading, .int at_, .int wrongAt, .int number, .long hh])), (on, .inl (k 0, 401, .inl now)), (op, .inl (k 0, 2005, .inl past)), (orr, .inl (k 0, 3, .inl refused))] s.heap.size = A at hD hm ⊢
  have hA : ∀ q : Nat, s.heap.size ≤ q → A q := fun q h => by rw [← hAe]; exact Or.inr h
  have hS : va_S A s.heap s.heap [] := va_S.rf
  have hl := lv_entry ([.ref o, .int a1, .int a2]) (n := 4) (Nat.le_of_ble_eq_true rfl)
  rw [lg_entry_eq]
  generalize (lg_sl ([.ref o, .int a1, .int a2]) ++ List.replicate (4 - (lg_sl ([.ref o, .int a1, .int a2])).length) Slot.unset).toArray = ls at hl ⊢
  have hl : lv_has ls 4 [(0, .ref o), (1, .int a1), (2, .int a2)] := hl
  obtain ⟨H, hH⟩ : ∃ H, H = s.heap := ⟨_, rfl⟩
  rw [← hH] at hP
  have hS : va_S A s.heap H [] := by rw [hH]; exact hS
  suffices hgo : W p l e _ s m _ below meth c H [] 0 0 _ _ by rw [hH] at hgo; exact hgo
  unfold f_X6_span at h
  refine lv_iload_n hx hb dX6_span_0 rfl (lv_at hl 1 rfl) ?_
  refine lv_iconst (v := 1) hx hb dX6_span_1 (by decide) ?_
  refine lv_bipush (v := 7) hx hb dX6_span_2 (by decide) ?_
  obtain ⟨r1, h1, h⟩ := zb h
  refine zi (zrS (As := [.int a1, .int 1, .int 7]) (rest := []) ⟨hx, hb, hml, hown, ht⟩ (c_X6_in l D k   a1 1 7 h1 _) (va_cwS 3 ht (gdS wb820 wb821 wb80 wb822) rfl rfl rfl (by decide +kernel) ⟨Nat.le_of_ble_eq_true rfl, Nat.le_of_ble_eq_true rfl⟩) hK hP hD hS hA hm [] rfl rfl rfl hl.1 rfl (Nat.le_of_ble_eq_true rfl) dX6_span_4 ⟨Nat.le_refl _, Nat.le_refl _⟩) hP hD hS hA [] rfl rfl (fun H locs hP hD hS => ?_)
  have hP : va_P D vwCl [(o, .inr (6, [.ref on, .ref op, .int states, .ref orr, .ref ot, .int bytes, .ref oh, .ref og, .ref od, .int reading, .int at_, .int wrongAt, .int number, .long hh])), (on, .inl (k 0, 401, .inl now)), (op, .inl (k 0, 2005, .inl past)), (orr, .inl (k 0, 3, .inl refused))] H := hP
  have hD : va_D A [(o, .inr (6, [.ref on, .ref op, .int states, .ref orr, .ref ot, .int bytes, .ref oh, .ref og, .ref od, .int reading, .int at_, .int wrongAt, .int number, .long hh])), (on, .inl (k 0, 401, .inl now)), (op, .inl (k 0, 2005, .inl past)), (orr, .inl (k 0, 3, .inl refused))] := hD
  refine lv_if_eq (tgt := 20) hx hb dX6_span_7 (by decide) (fun c2 => ?_) (fun c2 => ?_)
  · have h := zt h c2
    refine lv_aload_n hx hb dX6_span_20 rfl (lv_at hl 0 rfl) ?_
    obtain ⟨r2, h2, h⟩ := zb h
    refine zi (zrV (C := RX6) (T := TX6) (N := 14) (As := []) (rest := []) ⟨hx, hb, hml, hown, ht⟩ (c_X6_bad l D k o on op orr ot oh og od states bytes reading at_ wrongAt number hh refused  h2 _) (cwV 0 ht (gdV wb826 wb828 wb29 wb80 wb829) rfl rfl rfl (by decide +kernel) ⟨Nat.le_of_ble_eq_true rfl, Nat.le_of_ble_eq_true rfl⟩) hK hP hD hS hA hm [0, 3] rfl rfl 0 6 rfl rfl rfl hl.1 rfl (Nat.le_of_ble_eq_true rfl) dX6_span_21 ⟨Nat.le_refl _, Nat.le_refl _⟩) hP hD hS hA [0, 3] rfl rfl (fun H locs hP hD hS => ?_)
    have hP : va_P D vwCl [(o, .inr (6, [.ref on, .ref op, .int states, .ref orr, .ref ot, .int bytes, .ref oh, .ref og, .ref od, .int reading, .int at_, .int wrongAt, .int number, .long hh])), (on, .inl (k 0, 401, .inl now)), (op, .inl (k 0, 2005, .inl past)), (orr, .inl (k 0, 3, .inl r2.2))] H := hP
    have hD : va_D A [(o, .inr (6, [.ref on, .ref op, .int states, .ref orr, .ref ot, .int bytes, .ref oh, .ref og, .ref od, .int reading, .int at_, .int wrongAt, .int number, .long hh])), (on, .inl (k 0, 401, .inl now)), (op, .inl (k 0, 2005, .inl past)), (orr, .inl (k 0, 3, .inl r2.2))] := hD
    obtain rfl := Option.some.inj h
    exact W.iret (v := r2.1) hx hb hr (fun t ht9 hW => ⟨⟨_, (), rfl, rfl, zend ht9 hP⟩, hS.F ht9⟩) hS.2.2 dX6_span_24
  · have h := zf h c2
    refine lv_iload_n hx hb dX6_span_10 rfl (lv_at hl 2 rfl) ?_
    refine lv_iconst (v := 1) hx hb dX6_span_11 (by decide) ?_
    refine lv_bipush (v := 100) hx hb dX6_span_12 (by decide) ?_
    obtain ⟨r3, h3, h⟩ := zb h
    refine zi (zrS (As := [.int a2, .int 1, .int 100]) (rest := []) ⟨hx, hb, hml, hown, ht⟩ (c_X6_in l D k   a2 1 100 h3 _) (va_cwS 3 ht (gdS wb820 wb821 wb80 wb822) rfl rfl rfl (by decide +kernel) ⟨Nat.le_of_ble_eq_true rfl, Nat.le_of_ble_eq_true rfl⟩) hK hP hD hS hA hm [] rfl rfl rfl hl.1 rfl (Nat.le_of_ble_eq_true rfl) dX6_span_14 ⟨Nat.le_refl _, Nat.le_refl _⟩) hP hD hS hA [] rfl rfl (fun H locs hP hD hS => ?_)
    have hP : va_P D vwCl [(o, .inr (6, [.ref on, .ref op, .int states, .ref orr, .ref ot, .int bytes, .ref oh, .ref og, .ref od, .int reading, .int at_, .int wrongAt, .int number, .long hh])), (on, .inl (k 0, 401, .inl now)), (op, .inl (k 0, 2005, .inl past)), (orr, .inl (k 0, 3, .inl refused))] H := hP
    have hD : va_D A [(o, .inr (6, [.ref on, .ref op, .int states, .ref orr, .ref ot, .int bytes, .ref oh, .ref og, .ref od, .int reading, .int at_, .int wrongAt, .int number, .long hh])), (on, .inl (k 0, 401, .inl now)), (op, .inl (k 0, 2005, .inl past)), (orr, .inl (k 0, 3, .inl refused))] := hD
    refine lv_if_ne (tgt := 25) hx hb dX6_span_17 (by decide) (fun c1 => ?_) (fun c1 => ?_)
    · have h := zf h c1
      refine lv_aload_n hx hb dX6_span_25 rfl (lv_at hl 0 rfl) ?_
      obtain ⟨r4, h4, h⟩ := zb h
      refine zv (zrV (C := RX6) (T := TX6) (N := 14) (As := []) (rest := []) ⟨hx, hb, hml, hown, ht⟩ (c_X6_remembers l D k o on op orr ot oh og od states bytes reading at_ wrongAt number hh now past  fu h4 _) (cwV 0 ht (gdV wb830 wb832 wb30 wb80 wb833) rfl rfl rfl (by decide +kernel) ⟨Nat.le_of_ble_eq_true rfl, Nat.le_of_ble_eq_true rfl⟩) hK hP hD hS hA hm [0, 1, 2] rfl rfl 0 6 rfl rfl rfl hl.1 rfl (Nat.le_of_ble_eq_true rfl) dX6_span_26 ⟨Nat.le_refl _, Nat.le_refl _⟩) hP hD hS hA [0, 1, 2] rfl rfl (fun H locs hP hD hS => ?_)
      have hP : va_P D vwCl [(o, .inr (6, [.ref on, .ref op, .int r4.1, .ref orr, .ref ot, .int bytes, .ref oh, .ref og, .ref od, .int reading, .int at_, .int wrongAt, .int number, .long hh])), (on, .inl (k 0, 401, .inl now)), (op, .inl (k 0, 2005, .inl r4.2)), (orr, .inl (k 0, 3, .inl refused))] H := hP
      have hD : va_D A [(o, .inr (6, [.ref on, .ref op, .int r4.1, .ref orr, .ref ot, .int bytes, .ref oh, .ref og, .ref od, .int reading, .int at_, .int wrongAt, .int number, .long hh])), (on, .inl (k 0, 401, .inl now)), (op, .inl (k 0, 2005, .inl r4.2)), (orr, .inl (k 0, 3, .inl refused))] := hD
      refine lv_aload_n hx hb dX6_span_29 rfl (lv_at hl 0 rfl) ?_
      refine va_get (D := D) (ci := 6) (v := .ref on) (C := RX6) (T := TX6) (N := 14) hx hb ht hiX6 hown hK hP 0 rfl rfl 0 (by decide) (ht _ wb765) (fun _ h9 => h9) rfl dX6_span_30 ?_
      refine lv_sipush (v := 386) hx hb dX6_span_33 (by decide) ?_
      refine lv_iload_n hx hb dX6_span_36 rfl (lv_at hl 1 rfl) ?_
      refine lv_iadd hx hb dX6_span_37 ?_
      obtain ⟨hi1, h⟩ := zg h
      refine va_iald hx hb hK hP 1 0 rfl rfl hi1 dX6_span_38 ?_
      refine lv_istore_n (lv' := [(3, .int (now (Int32.toNatClampNeg (386 + a1)))), (0, .ref o), (1, .int a1), (2, .int a2)]) hx hb dX6_span_39 rfl hl (by decide) rfl (fun ls hl => ?_)
      refine lv_aload_n hx hb dX6_span_40 rfl (lv_at hl 1 rfl) ?_
      refine va_get (D := D) (ci := 6) (v := .ref on) (C := RX6) (T := TX6) (N := 14) hx hb ht hiX6 hown hK hP 0 rfl rfl 0 (by decide) (ht _ wb765) (fun _ h9 => h9) rfl dX6_span_41 ?_
      refine lv_sipush (v := 386) hx hb dX6_span_44 (by decide) ?_
      refine lv_iload_n hx hb dX6_span_47 rfl (lv_at hl 2 rfl) ?_
      refine lv_iadd hx hb dX6_span_48 ?_
      refine lv_iload_n hx hb dX6_span_49 rfl (lv_at hl 3 rfl) ?_
      obtain ⟨hi2, h⟩ := zg h
      refine va_iast hx hb hK hP hD hS 1 0 rfl rfl hi2 dX6_span_50 (fun H locs hP hD hS => ?_)
      have hP : va_P D vwCl [(o, .inr (6, [.ref on, .ref op, .int r4.1, .ref orr, .ref ot, .int bytes, .ref oh, .ref og, .ref od, .int reading, .int at_, .int wrongAt, .int number, .long hh])), (on, .inl (k 0, 401, .inl (upd now (Int32.toNatClampNeg (386 + a1)) a2))), (op, .inl (k 0, 2005, .inl r4.2)), (orr, .inl (k 0, 3, .inl refused))] H := hP
      have hD : va_D A [(o, .inr (6, [.ref on, .ref op, .int r4.1, .ref orr, .ref ot, .int bytes, .ref oh, .ref og, .ref od, .int reading, .int at_, .int wrongAt, .int number, .long hh])), (on, .inl (k 0, 401, .inl (upd now (Int32.toNatClampNeg (386 + a1)) a2))), (op, .inl (k 0, 2005, .inl r4.2)), (orr, .inl (k 0, 3, .inl refused))] := hD
      refine lv_iload_n hx hb dX6_span_51 rfl (lv_at hl 0 rfl) ?_
      obtain rfl := Option.some.inj h
      exact W.iret (v := now (Int32.toNatClampNeg (386 + a1))) hx hb hr (fun t ht9 hW => ⟨⟨_, (), rfl, rfl, zend ht9 hP⟩, hS.F ht9⟩) hS.2.2 dX6_span_52
    · have h := zt h c1
      refine lv_aload_n hx hb dX6_span_20 rfl (lv_at hl 0 rfl) ?_
      obtain ⟨r5, h5, h⟩ := zb h
      refine zi (zrV (C := RX6) (T := TX6) (N := 14) (As := []) (rest := []) ⟨hx, hb, hml, hown, ht⟩ (c_X6_bad l D k o on op orr ot oh og od states bytes reading at_ wrongAt number hh refused  h5 _) (cwV 0 ht (gdV wb826 wb828 wb29 wb80 wb829) rfl rfl rfl (by decide +kernel) ⟨Nat.le_of_ble_eq_true rfl, Nat.le_of_ble_eq_true rfl⟩) hK hP hD hS hA hm [0, 3] rfl rfl 0 6 rfl rfl rfl hl.1 rfl (Nat.le_of_ble_eq_true rfl) dX6_span_21 ⟨Nat.le_refl _, Nat.le_refl _⟩) hP hD hS hA [0, 3] rfl rfl (fun H locs hP hD hS => ?_)
      have hP : va_P D vwCl [(o, .inr (6, [.ref on, .ref op, .int states, .ref orr, .ref ot, .int bytes, .ref oh, .ref og, .ref od, .int reading, .int at_, .int wrongAt, .int number, .long hh])), (on, .inl (k 0, 401, .inl now)), (op, .inl (k 0, 2005, .inl past)), (orr, .inl (k 0, 3, .inl r5.2))] H := hP
      have hD : va_D A [(o, .inr (6, [.ref on, .ref op, .int states, .ref orr, .ref ot, .int bytes, .ref oh, .ref og, .ref od, .int reading, .int at_, .int wrongAt, .int number, .long hh])), (on, .inl (k 0, 401, .inl now)), (op, .inl (k 0, 2005, .inl past)), (orr, .inl (k 0, 3, .inl r5.2))] := hD
      obtain rfl := Option.some.inj h
      exact W.iret (v := r5.1) hx hb hr (fun t ht9 hW => ⟨⟨_, (), rfl, rfl, zend ht9 hP⟩, hS.F ht9⟩) hS.2.2 dX6_span_24
def f_X6_cuts_L21 (fu : Nat) (K : Int32 → (Nat → Int32) → Option (Int32 × Int32 × (Nat → Int32) × (Nat → Int32) × (Nat → Int32))) (fitting : Nat → Int32) : Nat → Int32 → (Nat → Int32) → Option (Int32 × Int32 × (Nat → Int32) × (Nat → Int32) × (Nat → Int32))
  | 0, _, _ => none
  | n + 1, v2, now =>
  if v2 < 0 then (K v2 now) else ((f_X6_flowAt  v2).bind fun r3 => if zok r3 401 then (if zok (r3 + 1) 401 then (if zok (r3 + 2) 401 then (if zok (r3 + 3) 401 then ((f_X6_caseOf  (now (Int32.toNatClampNeg r3)) (now (Int32.toNatClampNeg (r3 + 1))) (now (Int32.toNatClampNeg (r3 + 2))) (now (Int32.toNatClampNeg (r3 + 3)))).bind fun r4 => (f_X6_fits fitting 0 r4).bind fun r5 => (f_X6_actionBy fu now 33 r5).bind fun r6 => if r6 = 1 then (f_X6_cuts_L21 fu K fitting n (v2 + (-1)) now) else ((f_X6_flowGoes fu now v2).bind fun r7 => f_X6_cuts_L21 fu K fitting n (v2 + (-1)) r7)) else none) else none) else none) else none)
def f_X6_cuts (fu : Nat) (states : Int32) (now : Nat → Int32) (past : Nat → Int32) (fitting : Nat → Int32)  : Option (Int32 × Int32 × (Nat → Int32) × (Nat → Int32) × (Nat → Int32)) :=
  (f_X6_remembers fu states now past ).bind fun r1 => (f_X6_findsNow fu now fitting ).bind fun r2 => if zok 298 401 then (f_X6_cuts_L21 fu (fun (x1 : Int32) (x2 : Nat → Int32) => if zok 298 401 then (some ((now (Int32.toNatClampNeg 298)) - (x2 (Int32.toNatClampNeg 298)), r1.1, x2, r1.2, r2)) else none) r2 fu ((now (Int32.toNatClampNeg 298)) - 1) now) else none
abbrev wk_X6_cuts : List Cond := Cond.code yX6_cuts cX6_cuts 5 (some .int) :: WB
abbrev rm_X6_cuts : Room := { frames := 4, cells := 0, slots := 0, locals := 91 }
set_option maxHeartbeats 4000000 in
set_option maxRecDepth 100000 in
theorem c_X6_cuts (l : Launch) (D : va_G) (k : Nat → Nat) (o on op orr ot oh og od : Nat) (states : Int32) (bytes : Int32) (reading : Int32) (at_ : Int32) (wrongAt : Int32) (number : Int32) (hh : Int64) (now : Nat → Int32) (past : Nat → Int32) (fitting : Nat → Int32)  (fu : Nat) {res : Int32 × Int32 × (Nat → Int32) × (Nat → Int32) × (Nat → Int32)} (h : f_X6_cuts fu states now past fitting  = some res) : Ci l yX6_cuts wk_X6_cuts rm_X6_cuts D k [.ref o] [(o, .inr (6, [.ref on, .ref op, .int states, .ref orr, .ref ot, .int bytes, .ref oh, .ref og, .ref od, .int reading, .int at_, .int wrongAt, .int number, .long hh])), (on, .inl (k 0, 401, .inl now)), (op, .inl (k 0, 2005, .inl past)), (og, .inl (k 0, 164, .inl fitting))] [(o, .inr (6, [.ref on, .ref op, .int res.2.1, .ref orr, .ref ot, .int bytes, .ref oh, .ref og, .ref od, .int reading, .int at_, .int wrongAt, .int number, .long hh])), (on, .inl (k 0, 401, .inl res.2.2.1)), (op, .inl (k 0, 2005, .inl res.2.2.2.1)), (og, .inl (k 0, 164, .inl res.2.2.2.2))] res.1 := by
  unfold Ci
  intro sz
  refine Met.ofW (cc := cX6_cuts) (maxL := 5) (ret := (some .int)) (by decide) rfl ?_
  intro p e s m args below meth c s₁ B hml hv
  obtain ⟨rfl, hsz, hP, hK, hD0, hm⟩ := hv
  have hx := B.exec
  have hb := B.bytes
  have hr := B.returns
  have ht : ∀ w ∈ WB, w.before _ s = true := fun w hw => atoms_spec (ws := wk_X6_cuts) B.pre w (List.mem_cons_of_mem _ hw)
  have hown : s.vm.findClass RX6 = some m.cls := findClass_of_methodNamed B.named
  have hlocks := B.notSynchronized
  subst hsz
  have hD := hD0.self (sz := s.heap.size)
  generalize hAe : va_A [(o, .inr (6, [.ref on, .ref op, .int states, .ref orr, .ref ot, .int bytes, .ref oh, .ref og, .ref od, .int reading, .int at_, .int wrongAt, .int number, .long hh])), (on, .inl (k 0, 401, .inl now)), (op, .inl (k 0, 2005, .inl past)), (og, .inl (k 0, 164, .inl fitting))] s.heap.size = A at hD hm ⊢
  have hA : ∀ q : Nat, s.heap.size ≤ q → A q := fun q h => by rw [← hAe]; exact Or.inr h
  have hS : va_S A s.heap s.heap [] := va_S.rf
  have hl := lv_entry ([.ref o]) (n := 5) (Nat.le_of_ble_eq_true rfl)
  rw [lg_entry_eq]
  generalize (lg_sl ([.ref o]) ++ List.replicate (5 - (lg_sl ([.ref o])).length) Slot.unset).toArray = ls at hl ⊢
  have hl : lv_has ls 5 [(0, .ref o)] := hl
  obtain ⟨H, hH⟩ : ∃ H, H = s.heap := ⟨_, rfl⟩
  rw [← hH] at hP
  have hS : va_S A s.heap H [] := by rw [hH]; exact hS
  suffices hgo : W p l e _ s m _ below meth c H [] 0 0 _ _ by rw [hH] at hgo; exact hgo
  unfold f_X6_cuts at h
  refine lv_aload_n hx hb dX6_cuts_0 rfl (lv_at hl 0 rfl) ?_
  obtain ⟨r1, h1, h⟩ := zb h
  refine zv (zrV (C := RX6) (T := TX6) (N := 14) (As := []) (rest := []) ⟨hx, hb, hml, hown, ht⟩ (c_X6_remembers l D k o on op orr ot oh og od states bytes reading at_ wrongAt number hh now past  fu h1 _) (cwV 0 ht (gdV wb830 wb832 wb30 wb80 wb833) rfl rfl rfl (by decide +kernel) ⟨Nat.le_of_ble_eq_true rfl, Nat.le_of_ble_eq_true rfl⟩) hK hP hD hS hA hm [0, 1, 2] rfl rfl 0 6 rfl rfl rfl hl.1 rfl (Nat.le_of_ble_eq_true rfl) dX6_cuts_1 ⟨Nat.le_refl _, Nat.le_refl _⟩) hP hD hS hA [0, 1, 2] rfl rfl (fun H locs hP hD hS => ?_)
  have hP : va_P D vwCl [(o, .inr (6, [.ref on, .ref op, .int r1.1, .ref orr, .ref ot, .int bytes, .ref oh, .ref og, .ref od, .int reading, .int at_, .int wrongAt, .int number, .long hh])), (on, .inl (k 0, 401, .inl now)), (op, .inl (k 0, 2005, .inl r1.2)), (og, .inl (k 0, 164, .inl fitting))] H := hP
  have hD : va_D A [(o, .inr (6, [.ref on, .ref op, .int r1.1, .ref orr, .ref ot, .int bytes, .ref oh, .ref og, .ref od, .int reading, .int at_, .int wrongAt, .int number, .long hh])), (on, .inl (k 0, 401, .inl now)), (op, .inl (k 0, 2005, .inl r1.2)), (og, .inl (k 0, 164, .inl fitting))] := hD
  refine lv_aload_n hx hb dX6_cuts_4 rfl (lv_at hl 0 rfl) ?_
  obtain ⟨r2, h2, h⟩ := zb h
  refine zv (zrV (C := RX6) (T := TX6) (N := 14) (As := []) (rest := []) ⟨hx, hb, hml, hown, ht⟩ (c_X6_findsNow l D k o on op orr ot oh og od r1.1 bytes reading at_ wrongAt number hh now fitting  fu h2 _) (cwV 0 ht (gdV wb899 wb901 wb36 wb80 wb902) rfl rfl rfl (by decide +kernel) ⟨Nat.le_of_ble_eq_true rfl, Nat.le_of_ble_eq_true rfl⟩) hK hP hD hS hA hm [0, 1, 3] rfl rfl 0 6 rfl rfl rfl hl.1 rfl (Nat.le_of_ble_eq_true rfl) dX6_cuts_5 ⟨Nat.le_refl _, Nat.le_refl _⟩) hP hD hS hA [0, 1, 3] rfl rfl (fun H locs hP hD hS => ?_)
  have hP : va_P D vwCl [(o, .inr (6, [.ref on, .ref op, .int r1.1, .ref orr, .ref ot, .int bytes, .ref oh, .ref og, .ref od, .int reading, .int at_, .int wrongAt, .int number, .long hh])), (on, .inl (k 0, 401, .inl now)), (op, .inl (k 0, 2005, .inl r1.2)), (og, .inl (k 0, 164, .inl r2))] H := hP
  have hD : va_D A [(o, .inr (6, [.ref on, .ref op, .int r1.1, .ref orr, .ref ot, .int bytes, .ref oh, .ref og, .ref od, .int reading, .int at_, .int wrongAt, .int number, .long hh])), (on, .inl (k 0, 401, .inl now)), (op, .inl (k 0, 2005, .inl r1.2)), (og, .inl (k 0, 164, .inl r2))] := hD
  refine lv_aload_n hx hb dX6_cuts_8 rfl (lv_at hl 0 rfl) ?_
  refine va_get (D := D) (ci := 6) (v := .ref on) (C := RX6) (T := TX6) (N := 14) hx hb ht hiX6 hown hK hP 0 rfl rfl 0 (by decide) (ht _ wb765) (fun _ h9 => h9) rfl dX6_cuts_9 ?_
  refine lv_sipush (v := 298) hx hb dX6_cuts_12 (by decide) ?_
  obtain ⟨hi1, h⟩ := zg h
  refine va_iald hx hb hK hP 1 0 rfl rfl hi1 dX6_cuts_15 ?_
  refine lv_istore_n (lv' := [(1, .int (now (Int32.toNatClampNeg 298))), (0, .ref o)]) hx hb dX6_cuts_16 rfl hl (by decide) rfl (fun ls hl => ?_)
  refine lv_iload_n hx hb dX6_cuts_17 rfl (lv_at hl 0 rfl) ?_
  refine lv_iconst (v := 1) hx hb dX6_cuts_18 (by decide) ?_
  refine lv_isub hx hb dX6_cuts_19 ?_
  refine lv_istore_n (lv' := [(2, .int ((now (Int32.toNatClampNeg 298)) - 1)), (1, .int (now (Int32.toNatClampNeg 298))), (0, .ref o)]) hx hb dX6_cuts_20 rfl hl (by decide) rfl (fun ls hl => ?_)
  have loop21 : ∀ (v1 : Int32) (states : Int32) (bytes : Int32) (reading : Int32) (at_ : Int32) (wrongAt : Int32) (number : Int32) (hh : Int64) (past : Nat → Int32) (fitting : Nat → Int32), ∀ (K : Int32 → (Nat → Int32) → Option (Int32 × Int32 × (Nat → Int32) × (Nat → Int32) × (Nat → Int32))), (∀ (v2 : Int32) (now : Nat → Int32), K v2 now = some res → ∀ (H : Heap) (locs : List Loc), va_P D vwCl [(o, .inr (6, [.ref on, .ref op, .int states, .ref orr, .ref ot, .int bytes, .ref oh, .ref og, .ref od, .int reading, .int at_, .int wrongAt, .int number, .long hh])), (on, .inl (k 0, 401, .inl now)), (op, .inl (k 0, 2005, .inl past)), (og, .inl (k 0, 164, .inl fitting))] H → va_D A [(o, .inr (6, [.ref on, .ref op, .int states, .ref orr, .ref ot, .int bytes, .ref oh, .ref og, .ref od, .int reading, .int at_, .int wrongAt, .int number, .long hh])), (on, .inl (k 0, 401, .inl now)), (op, .inl (k 0, 2005, .inl past)), (og, .inl (k 0, 164, .inl fitting))] → va_S A s.heap H locs → ∀ ls : Array Slot, lv_has ls 5 [(0, .ref o), (1, .int v1), (2, .int v2)] → W p l e (headSpec wk_X6_cuts rm_X6_cuts).room s m ([.ref o] : List Value).toArray below meth c H locs 0 0 (MQ below (va_Qi (fun xq9 (_ : Unit) => xq9 = res.1) (fun _ tq9 => va_P D vwCl [(o, .inr (6, [.ref on, .ref op, .int res.2.1, .ref orr, .ref ot, .int bytes, .ref oh, .ref og, .ref od, .int reading, .int at_, .int wrongAt, .int number, .long hh])), (on, .inl (k 0, 401, .inl res.2.2.1)), (op, .inl (k 0, 2005, .inl res.2.2.2.1)), (og, .inl (k 0, 164, .inl res.2.2.2.2))] tq9.heap) A) ([.ref o] : List Value).toArray s 0 0 A) (F0 m 94 ls [])) → ∀ (n : Nat) (v2 : Int32) (now : Nat → Int32), f_X6_cuts_L21 fu K fitting n v2 now = some res → ∀ (H : Heap) (locs : List Loc), va_P D vwCl [(o, .inr (6, [.ref on, .ref op, .int states, .ref orr, .ref ot, .int bytes, .ref oh, .ref og, .ref od, .int reading, .int at_, .int wrongAt, .int number, .long hh])), (on, .inl (k 0, 401, .inl now)), (op, .inl (k 0, 2005, .inl past)), (og, .inl (k 0, 164, .inl fitting))] H → va_D A [(o, .inr (6, [.ref on, .ref op, .int states, .ref orr, .ref ot, .int bytes, .ref oh, .ref og, .ref od, .int reading, .int at_, .int wrongAt, .int number, .long hh])), (on, .inl (k 0, 401, .inl now)), (op, .inl (k 0, 2005, .inl past)), (og, .inl (k 0, 164, .inl fitting))] → va_S A s.heap H locs → ∀ ls : Array Slot, lv_has ls 5 [(0, .ref o), (1, .int v1), (2, .int v2)] → W p l e (headSpec wk_X6_cuts rm_X6_cuts).room s m ([.ref o] : List Value).toArray below meth c H locs 0 0 (MQ below (va_Qi (fun xq9 (_ : Unit) => xq9 = res.1) (fun _ tq9 => va_P D vwCl [(o, .inr (6, [.ref on, .ref op, .int res.2.1, .ref orr, .ref ot, .int bytes, .ref oh, .ref og, .ref od, .int reading, .int at_, .int wrongAt, .int number, .long hh])), (on, .inl (k 0, 401, .inl res.2.2.1)), (op, .inl (k 0, 2005, .inl res.2.2.2.1)), (og, .inl (k 0, 164, .inl res.2.2.2.2))] tq9.heap) A) ([.ref o] : List Value).toArray s 0 0 A) (F0 m 21 ls []) := by
    intro v1 states bytes reading at_ wrongAt number hh past fitting K hKK n
    induction n with
    | zero =>
      intro v2 now h
      rw [f_X6_cuts_L21] at h
      cases h
    | succ n ih =>
      intro v2 now h H locs hP hD hS ls hl
      rw [f_X6_cuts_L21] at h
      refine lv_iload_n hx hb dX6_cuts_21 rfl (lv_at hl 2 rfl) ?_
      refine lv_if_lt (tgt := 94) hx hb dX6_cuts_22 (by decide) (fun c2 => ?_) (fun c2 => ?_)
      · have h := zt h c2
        exact hKK _ _ h _ _ hP hD hS _ (lv_sub hl [0, 1, 2] rfl)
      · have h := zf h c2
        refine lv_aload_n hx hb dX6_cuts_25 rfl (lv_at hl 0 rfl) ?_
        refine lv_iload_n hx hb dX6_cuts_26 rfl (lv_at hl 2 rfl) ?_
        obtain ⟨r3, h3, h⟩ := zb h
        refine zi (zrV (C := RX6) (T := TX6) (N := 14) (As := [.int v2]) (rest := []) ⟨hx, hb, hml, hown, ht⟩ (c_X6_flowAt l D k o on op orr ot oh og od states bytes reading at_ wrongAt number hh v2 h3 _) (cwV 1 ht (gdV wb987 wb989 wb48 wb80 wb990) rfl rfl rfl (by decide +kernel) ⟨Nat.le_of_ble_eq_true rfl, Nat.le_of_ble_eq_true rfl⟩) hK hP hD hS hA hm [0] rfl rfl 0 6 rfl rfl rfl hl.1 rfl (Nat.le_of_ble_eq_true rfl) dX6_cuts_27 ⟨Nat.le_refl _, Nat.le_refl _⟩) hP hD hS hA [0] rfl rfl (fun H locs hP hD hS => ?_)
        have hP : va_P D vwCl [(o, .inr (6, [.ref on, .ref op, .int states, .ref orr, .ref ot, .int bytes, .ref oh, .ref og, .ref od, .int reading, .int at_, .int wrongAt, .int number, .long hh])), (on, .inl (k 0, 401, .inl now)), (op, .inl (k 0, 2005, .inl past)), (og, .inl (k 0, 164, .inl fitting))] H := hP
        have hD : va_D A [(o, .inr (6, [.ref on, .ref op, .int states, .ref orr, .ref ot, .int bytes, .ref oh, .ref og, .ref od, .int reading, .int at_, .int wrongAt, .int number, .long hh])), (on, .inl (k 0, 401, .inl now)), (op, .inl (k 0, 2005, .inl past)), (og, .inl (k 0, 164, .inl fitting))] := hD
        refine lv_istore_n (lv' := [(3, .int r3), (0, .ref o), (1, .int v1), (2, .int v2)]) hx hb dX6_cuts_30 rfl hl (by decide) rfl (fun ls hl => ?_)
        refine lv_aload_n hx hb dX6_cuts_31 rfl (lv_at hl 1 rfl) ?_
        refine va_get (D := D) (ci := 6) (v := .ref on) (C := RX6) (T := TX6) (N := 14) hx hb ht hiX6 hown hK hP 0 rfl rfl 0 (by decide) (ht _ wb765) (fun _ h9 => h9) rfl dX6_cuts_32 ?_
        refine lv_iload_n hx hb dX6_cuts_35 rfl (lv_at hl 0 rfl) ?_
        obtain ⟨hi2, h⟩ := zg h
        refine va_iald hx hb hK hP 1 0 rfl rfl hi2 dX6_cuts_36 ?_
        refine lv_aload_n hx hb dX6_cuts_37 rfl (lv_at hl 1 rfl) ?_
        refine va_get (D := D) (ci := 6) (v := .ref on) (C := RX6) (T := TX6) (N := 14) hx hb ht hiX6 hown hK hP 0 rfl rfl 0 (by decide) (ht _ wb765) (fun _ h9 => h9) rfl dX6_cuts_38 ?_
        refine lv_iload_n hx hb dX6_cuts_41 rfl (lv_at hl 0 rfl) ?_
        refine lv_iconst (v := 1) hx hb dX6_cuts_42 (by decide) ?_
        refine lv_iadd hx hb dX6_cuts_43 ?_
        obtain ⟨hi3, h⟩ := zg h
        refine va_iald hx hb hK hP 1 0 rfl rfl hi3 dX6_cuts_44 ?_
        refine lv_aload_n hx hb dX6_cuts_45 rfl (lv_at hl 1 rfl) ?_
        refine va_get (D := D) (ci := 6) (v := .ref on) (C := RX6) (T := TX6) (N := 14) hx hb ht hiX6 hown hK hP 0 rfl rfl 0 (by decide) (ht _ wb765) (fun _ h9 => h9) rfl dX6_cuts_46 ?_
        refine lv_iload_n hx hb dX6_cuts_49 rfl (lv_at hl 0 rfl) ?_
        refine lv_iconst (v := 2) hx hb dX6_cuts_50 (by decide) ?_
        refine lv_iadd hx hb dX6_cuts_51 ?_
        obtain ⟨hi4, h⟩ := zg h
        refine va_iald hx hb hK hP 1 0 rfl rfl hi4 dX6_cuts_52 ?_
        refine lv_aload_n hx hb dX6_cuts_53 rfl (lv_at hl 1 rfl) ?_
        refine va_get (D := D) (ci := 6) (v := .ref on) (C := RX6) (T := TX6) (N := 14) hx hb ht hiX6 hown hK hP 0 rfl rfl 0 (by decide) (ht _ wb765) (fun _ h9 => h9) rfl dX6_cuts_54 ?_
        refine lv_iload_n hx hb dX6_cuts_57 rfl (lv_at hl 0 rfl) ?_
        refine lv_iconst (v := 3) hx hb dX6_cuts_58 (by decide) ?_
        refine lv_iadd hx hb dX6_cuts_59 ?_
        obtain ⟨hi5, h⟩ := zg h
        refine va_iald hx hb hK hP 1 0 rfl rfl hi5 dX6_cuts_60 ?_
        obtain ⟨r4, h4, h⟩ := zb h
        refine zi (zrS (As := [.int (now (Int32.toNatClampNeg r3)), .int (now (Int32.toNatClampNeg (r3 + 1))), .int (now (Int32.toNatClampNeg (r3 + 2))), .int (now (Int32.toNatClampNeg (r3 + 3)))]) (rest := []) ⟨hx, hb, hml, hown, ht⟩ (c_X6_caseOf l D k   (now (Int32.toNatClampNeg r3)) (now (Int32.toNatClampNeg (r3 + 1))) (now (Int32.toNatClampNeg (r3 + 2))) (now (Int32.toNatClampNeg (r3 + 3))) h4 _) (va_cwS 4 ht (gdS wb915 wb916 wb80 wb917) rfl rfl rfl (by decide +kernel) ⟨Nat.le_of_ble_eq_true rfl, Nat.le_of_ble_eq_true rfl⟩) hK hP hD hS hA hm [] rfl rfl rfl hl.1 rfl (Nat.le_of_ble_eq_true rfl) dX6_cuts_61 ⟨Nat.le_refl _, Nat.le_refl _⟩) hP hD hS hA [] rfl rfl (fun H locs hP hD hS => ?_)
        have hP : va_P D vwCl [(o, .inr (6, [.ref on, .ref op, .int states, .ref orr, .ref ot, .int bytes, .ref oh, .ref og, .ref od, .int reading, .int at_, .int wrongAt, .int number, .long hh])), (on, .inl (k 0, 401, .inl now)), (op, .inl (k 0, 2005, .inl past)), (og, .inl (k 0, 164, .inl fitting))] H := hP
        have hD : va_D A [(o, .inr (6, [.ref on, .ref op, .int states, .ref orr, .ref ot, .int bytes, .ref oh, .ref og, .ref od, .int reading, .int at_, .int wrongAt, .int number, .long hh])), (on, .inl (k 0, 401, .inl now)), (op, .inl (k 0, 2005, .inl past)), (og, .inl (k 0, 164, .inl fitting))] := hD
        refine lv_istore (lv' := [(4, .int r4), (3, .int r3), (0, .ref o), (1, .int v1), (2, .int v2)]) hx hb dX6_cuts_64 hl (by decide) rfl (fun ls hl => ?_)
        refine lv_aload_n hx hb dX6_cuts_66 rfl (lv_at hl 2 rfl) ?_
        refine lv_bipush (v := 33) hx hb dX6_cuts_67 (by decide) ?_
        refine lv_aload_n hx hb dX6_cuts_69 rfl (lv_at hl 2 rfl) ?_
        refine lv_iconst (v := 0) hx hb dX6_cuts_70 (by decide) ?_
        refine lv_iload hx hb dX6_cuts_71 (lv_at hl 0 rfl) ?_
        obtain ⟨r5, h5, h⟩ := zb h
        refine zi (zrV (C := RX6) (T := TX6) (N := 14) (As := [.int 0, .int r4]) (rest := [.int 33, .ref o]) ⟨hx, hb, hml, hown, ht⟩ (c_X6_fits l D k o on op orr ot oh og od states bytes reading at_ wrongAt number hh fitting 0 r4 h5 _) (cwV 2 ht (gdV wb918 wb920 wb40 wb80 wb921) rfl rfl rfl (by decide +kernel) ⟨Nat.le_of_ble_eq_true rfl, Nat.le_of_ble_eq_true rfl⟩) hK hP hD hS hA hm [0, 3] rfl rfl 0 6 rfl rfl rfl hl.1 rfl (Nat.le_of_ble_eq_true rfl) dX6_cuts_73 ⟨Nat.le_refl _, Nat.le_refl _⟩) hP hD hS hA [0, 3] rfl rfl (fun H locs hP hD hS => ?_)
        have hP : va_P D vwCl [(o, .inr (6, [.ref on, .ref op, .int states, .ref orr, .ref ot, .int bytes, .ref oh, .ref og, .ref od, .int reading, .int at_, .int wrongAt, .int number, .long hh])), (on, .inl (k 0, 401, .inl now)), (op, .inl (k 0, 2005, .inl past)), (og, .inl (k 0, 164, .inl fitting))] H := hP
        have hD : va_D A [(o, .inr (6, [.ref on, .ref op, .int states, .ref orr, .ref ot, .int bytes, .ref oh, .ref og, .ref od, .int reading, .int at_, .int wrongAt, .int number, .long hh])), (on, .inl (k 0, 401, .inl now)), (op, .inl (k 0, 2005, .inl past)), (og, .inl (k 0, 164, .inl fitting))] := hD
        obtain ⟨r6, h6, h⟩ := zb h
        refine zi (zrV (C := RX6) (T := TX6) (N := 14) (As := [.int 33, .int r5]) (rest := []) ⟨hx, hb, hml, hown, ht⟩ (c_X6_actionBy l D k o on op orr ot oh og od states bytes reading at_ wrongAt number hh now 33 r5 fu h6 _) (cwV 2 ht (gdV wb951 wb953 wb43 wb80 wb954) rfl rfl rfl (by decide +kernel) ⟨Nat.le_of_ble_eq_true rfl, Nat.le_of_ble_eq_true rfl⟩) hK hP hD hS hA hm [0, 1] rfl rfl 0 6 rfl rfl rfl hl.1 rfl (Nat.le_of_ble_eq_true rfl) dX6_cuts_76 ⟨Nat.le_refl _, Nat.le_refl _⟩) hP hD hS hA [0, 1] rfl rfl (fun H locs hP hD hS => ?_)
        have hP : va_P D vwCl [(o, .inr (6, [.ref on, .ref op, .int states, .ref orr, .ref ot, .int bytes, .ref oh, .ref og, .ref od, .int reading, .int at_, .int wrongAt, .int number, .long hh])), (on, .inl (k 0, 401, .inl now)), (op, .inl (k 0, 2005, .inl past)), (og, .inl (k 0, 164, .inl fitting))] H := hP
        have hD : va_D A [(o, .inr (6, [.ref on, .ref op, .int states, .ref orr, .ref ot, .int bytes, .ref oh, .ref og, .ref od, .int reading, .int at_, .int wrongAt, .int number, .long hh])), (on, .inl (k 0, 401, .inl now)), (op, .inl (k 0, 2005, .inl past)), (og, .inl (k 0, 164, .inl fitting))] := hD
        refine lv_iconst (v := 1) hx hb dX6_cuts_79 (by decide) ?_
        refine lv_icmp_eq (tgt := 88) hx hb dX6_cuts_80 (by decide) (fun c1 => ?_) (fun c1 => ?_)
        · have h := zt h c1
          refine lv_iinc (v := v2 + (-1)) (lv' := [(2, .int (v2 + (-1))), (4, .int r4), (3, .int r3), (0, .ref o), (1, .int v1)]) hx hb dX6_cuts_88 hl (k := 4) rfl rfl (by decide) rfl (fun ls hl => ?_)
          refine lv_goto (tgt := 21) hx hb dX6_cuts_91 (by decide) ?_
          exact ih _ _ h _ _ hP hD hS _ (lv_sub hl [3, 4, 0] rfl)
        · have h := zf h c1
          refine lv_aload_n hx hb dX6_cuts_83 rfl (lv_at hl 2 rfl) ?_
          refine lv_iload_n hx hb dX6_cuts_84 rfl (lv_at hl 4 rfl) ?_
          obtain ⟨r7, h7, h⟩ := zb h
          refine zv (zrV (C := RX6) (T := TX6) (N := 14) (As := [.int v2]) (rest := []) ⟨hx, hb, hml, hown, ht⟩ (c_X6_flowGoes l D k o on op orr ot oh og od states bytes reading at_ wrongAt number hh now v2 fu h7 _) (cwV 1 ht (gdV wb999 wb1001 wb51 wb80 wb1002) rfl rfl rfl (by decide +kernel) ⟨Nat.le_of_ble_eq_true rfl, Nat.le_of_ble_eq_true rfl⟩) hK hP hD hS hA hm [0, 1] rfl rfl 0 6 rfl rfl rfl hl.1 rfl (Nat.le_of_ble_eq_true rfl) dX6_cuts_85 ⟨Nat.le_refl _, Nat.le_refl _⟩) hP hD hS hA [0, 1] rfl rfl (fun H locs hP hD hS => ?_)
          have hP : va_P D vwCl [(o, .inr (6, [.ref on, .ref op, .int states, .ref orr, .ref ot, .int bytes, .ref oh, .ref og, .ref od, .int reading, .int at_, .int wrongAt, .int number, .long hh])), (on, .inl (k 0, 401, .inl r7)), (op, .inl (k 0, 2005, .inl past)), (og, .inl (k 0, 164, .inl fitting))] H := hP
          have hD : va_D A [(o, .inr (6, [.ref on, .ref op, .int states, .ref orr, .ref ot, .int bytes, .ref oh, .ref og, .ref od, .int reading, .int at_, .int wrongAt, .int number, .long hh])), (on, .inl (k 0, 401, .inl r7)), (op, .inl (k 0, 2005, .inl past)), (og, .inl (k 0, 164, .inl fitting))] := hD
          refine lv_iinc (v := v2 + (-1)) (lv' := [(2, .int (v2 + (-1))), (4, .int r4), (3, .int r3), (0, .ref o), (1, .int v1)]) hx hb dX6_cuts_88 hl (k := 4) rfl rfl (by decide) rfl (fun ls hl => ?_)
          refine lv_goto (tgt := 21) hx hb dX6_cuts_91 (by decide) ?_
          exact ih _ _ h _ _ hP hD hS _ (lv_sub hl [3, 4, 0] rfl)
  refine loop21 _ _ _ _ _ _ _ _ _ _ _ ?_ fu _ _ h _ _ hP hD hS _ (lv_sub hl [2, 1, 0] rfl)
  intro x1 x2 h H locs hP hD hS ls hl
  try dsimp only at h
  have hP : va_P D vwCl [(o, .inr (6, [.ref on, .ref op, .int r1.1, .ref orr, .ref ot, .int bytes, .ref oh, .ref og, .ref od, .int reading, .int at_, .int wrongAt, .int number, .long hh])), (on, .inl (k 0, 401, .inl x2)), (op, .inl (k 0, 2005, .inl r1.2)), (og, .inl (k 0, 164, .inl r2))] H := hP
  have hD : va_D A [(o, .inr (6, [.ref on, .ref op, .int r1.1, .ref orr, .ref ot, .int bytes, .ref oh, .ref og, .ref od, .int reading, .int at_, .int wrongAt, .int number, .long hh])), (on, .inl (k 0, 401, .inl x2)), (op, .inl (k 0, 2005, .inl r1.2)), (og, .inl (k 0, 164, .inl r2))] := hD
  have hl : lv_has ls 5 [(0, .ref o), (1, .int (now (Int32.toNatClampNeg 298))), (2, .int x1)] := hl
  refine lv_iload_n hx hb dX6_cuts_94 rfl (lv_at hl 1 rfl) ?_
  refine lv_aload_n hx hb dX6_cuts_95 rfl (lv_at hl 0 rfl) ?_
  refine va_get (D := D) (ci := 6) (v := .ref on) (C := RX6) (T := TX6) (N := 14) hx hb ht hiX6 hown hK hP 0 rfl rfl 0 (by decide) (ht _ wb765) (fun _ h9 => h9) rfl dX6_cuts_96 ?_
  refine lv_sipush (v := 298) hx hb dX6_cuts_99 (by decide) ?_
  obtain ⟨hi6, h⟩ := zg h
  refine va_iald hx hb hK hP 1 0 rfl rfl hi6 dX6_cuts_102 ?_
  refine lv_isub hx hb dX6_cuts_103 ?_
  obtain rfl := Option.some.inj h
  exact W.iret (v := (now (Int32.toNatClampNeg 298)) - (x2 (Int32.toNatClampNeg 298))) hx hb hr (fun t ht9 hW => ⟨⟨_, (), rfl, rfl, zend ht9 hP⟩, hS.F ht9⟩) hS.2.2 dX6_cuts_104
def f_X6_flow (now : Nat → Int32) (refused : Nat → Int32) (a1 : Int32) (a2 : Int32) : Option (Int32 × (Nat → Int32)) :=
  if a1 < 0 then ((f_X6_bad refused ).bind fun r1 => some (r1.1, r1.2)) else ((f_X6_in  a2 0 6).bind fun r2 => if (zB r2) = 0 then ((f_X6_bad refused ).bind fun r4 => some (r4.1, r4.2)) else (if zok 298 401 then (if (now (Int32.toNatClampNeg 298)) ≤ a1 then (some ((-1), refused)) else ((f_X6_flowAt  a1).bind fun r3 => if zok (r3 + a2) 401 then (some (now (Int32.toNatClampNeg (r3 + a2)), refused)) else none)) else none))
abbrev wk_X6_flow : List Cond := Cond.code yX6_flow cX6_flow 3 (some .int) :: WB
abbrev rm_X6_flow : Room := { frames := 1, cells := 0, slots := 0, locals := 22 }
set_option maxHeartbeats 4000000 in
set_option maxRecDepth 100000 in
theorem c_X6_flow (l : Launch) (D : va_G) (k : Nat → Nat) (o on op orr ot oh og od : Nat) (states : Int32) (bytes : Int32) (reading : Int32) (at_ : Int32) (wrongAt : Int32) (number : Int32) (hh : Int64) (now : Nat → Int32) (refused : Nat → Int32) (a1 : Int32) (a2 : Int32) {res : Int32 × (Nat → Int32)} (h : f_X6_flow now refused a1 a2 = some res) : Ci l yX6_flow wk_X6_flow rm_X6_flow D k [.ref o, .int a1, .int a2] [(o, .inr (6, [.ref on, .ref op, .int states, .ref orr, .ref ot, .int bytes, .ref oh, .ref og, .ref od, .int reading, .int at_, .int wrongAt, .int number, .long hh])), (on, .inl (k 0, 401, .inl now)), (orr, .inl (k 0, 3, .inl refused))] [(o, .inr (6, [.ref on, .ref op, .int states, .ref orr, .ref ot, .int bytes, .ref oh, .ref og, .ref od, .int reading, .int at_, .int wrongAt, .int number, .long hh])), (on, .inl (k 0, 401, .inl now)), (orr, .inl (k 0, 3, .inl res.2))] res.1 := by
  unfold Ci
  intro sz
  refine Met.ofW (cc := cX6_flow) (maxL := 3) (ret := (some .int)) (by decide) rfl ?_
  intro p e s m args below meth c s₁ B hml hv
  obtain ⟨rfl, hsz, hP, hK, hD0, hm⟩ := hv
  have hx := B.exec
  have hb := B.bytes
  have hr := B.returns
  have ht : ∀ w ∈ WB, w.before _ s = true := fun w hw => atoms_spec (ws := wk_X6_flow) B.pre w (List.mem_cons_of_mem _ hw)
  have hown : s.vm.findClass RX6 = some m.cls := findClass_of_methodNamed B.named
  have hlocks := B.notSynchronized
  subst hsz
  have hD := hD0.self (sz := s.heap.size)
  generalize hAe : va_A [(o, .inr (6, [.ref on, .ref op, .int states, .ref orr, .ref ot, .int bytes, .ref oh, .ref og, .ref od, .int reading, .int at_, .int wrongAt, .int number, .long hh])), (on, .inl (k 0, 401, .inl now)), (orr, .inl (k 0, 3, .inl refused))] s.heap.size = A at hD hm ⊢
  have hA : ∀ q : Nat, s.heap.size ≤ q → A q := fun q h => by rw [← hAe]; exact Or.inr h
  have hS : va_S A s.heap s.heap [] := va_S.rf
  have hl := lv_entry ([.ref o, .int a1, .int a2]) (n := 3) (Nat.le_of_ble_eq_true rfl)
  rw [lg_entry_eq]
  generalize (lg_sl ([.ref o, .int a1, .int a2]) ++ List.replicate (3 - (lg_sl ([.ref o, .int a1, .int a2])).length) Slot.unset).toArray = ls at hl ⊢
  have hl : lv_has ls 3 [(0, .ref o), (1, .int a1), (2, .int a2)] := hl
  obtain ⟨H, hH⟩ : ∃ H, H = s.heap := ⟨_, rfl⟩
  rw [← hH] at hP
  have hS : va_S A s.heap H [] := by rw [hH]; exact hS
  suffices hgo : W p l e _ s m _ below meth c H [] 0 0 _ _ by rw [hH] at hgo; exact hgo
  unfold f_X6_flow at h
  refine lv_iload_n hx hb dX6_flow_0 rfl (lv_at hl 1 rfl) ?_
  refine lv_if_lt (tgt := 14) hx hb dX6_flow_1 (by decide) (fun c3 => ?_) (fun c3 => ?_)
  · have h := zt h c3
    refine lv_aload_n hx hb dX6_flow_14 rfl (lv_at hl 0 rfl) ?_
    obtain ⟨r1, h1, h⟩ := zb h
    refine zi (zrV (C := RX6) (T := TX6) (N := 14) (As := []) (rest := []) ⟨hx, hb, hml, hown, ht⟩ (c_X6_bad l D k o on op orr ot oh og od states bytes reading at_ wrongAt number hh refused  h1 _) (cwV 0 ht (gdV wb826 wb828 wb29 wb80 wb829) rfl rfl rfl (by decide +kernel) ⟨Nat.le_of_ble_eq_true rfl, Nat.le_of_ble_eq_true rfl⟩) hK hP hD hS hA hm [0, 2] rfl rfl 0 6 rfl rfl rfl hl.1 rfl (Nat.le_of_ble_eq_true rfl) dX6_flow_15 ⟨Nat.le_refl _, Nat.le_refl _⟩) hP hD hS hA [0, 2] rfl rfl (fun H locs hP hD hS => ?_)
    have hP : va_P D vwCl [(o, .inr (6, [.ref on, .ref op, .int states, .ref orr, .ref ot, .int bytes, .ref oh, .ref og, .ref od, .int reading, .int at_, .int wrongAt, .int number, .long hh])), (on, .inl (k 0, 401, .inl now)), (orr, .inl (k 0, 3, .inl r1.2))] H := hP
    have hD : va_D A [(o, .inr (6, [.ref on, .ref op, .int states, .ref orr, .ref ot, .int bytes, .ref oh, .ref og, .ref od, .int reading, .int at_, .int wrongAt, .int number, .long hh])), (on, .inl (k 0, 401, .inl now)), (orr, .inl (k 0, 3, .inl r1.2))] := hD
    obtain rfl := Option.some.inj h
    exact W.iret (v := r1.1) hx hb hr (fun t ht9 hW => ⟨⟨_, (), rfl, rfl, zend ht9 hP⟩, hS.F ht9⟩) hS.2.2 dX6_flow_18
  · have h := zf h c3
    refine lv_iload_n hx hb dX6_flow_4 rfl (lv_at hl 2 rfl) ?_
    refine lv_iconst (v := 0) hx hb dX6_flow_5 (by decide) ?_
    refine lv_bipush (v := 6) hx hb dX6_flow_6 (by decide) ?_
    obtain ⟨r2, h2, h⟩ := zb h
    refine zi (zrS (As := [.int a2, .int 0, .int 6]) (rest := []) ⟨hx, hb, hml, hown, ht⟩ (c_X6_in l D k   a2 0 6 h2 _) (va_cwS 3 ht (gdS wb820 wb821 wb80 wb822) rfl rfl rfl (by decide +kernel) ⟨Nat.le_of_ble_eq_true rfl, Nat.le_of_ble_eq_true rfl⟩) hK hP hD hS hA hm [] rfl rfl rfl hl.1 rfl (Nat.le_of_ble_eq_true rfl) dX6_flow_8 ⟨Nat.le_refl _, Nat.le_refl _⟩) hP hD hS hA [] rfl rfl (fun H locs hP hD hS => ?_)
    have hP : va_P D vwCl [(o, .inr (6, [.ref on, .ref op, .int states, .ref orr, .ref ot, .int bytes, .ref oh, .ref og, .ref od, .int reading, .int at_, .int wrongAt, .int number, .long hh])), (on, .inl (k 0, 401, .inl now)), (orr, .inl (k 0, 3, .inl refused))] H := hP
    have hD : va_D A [(o, .inr (6, [.ref on, .ref op, .int states, .ref orr, .ref ot, .int bytes, .ref oh, .ref og, .ref od, .int reading, .int at_, .int wrongAt, .int number, .long hh])), (on, .inl (k 0, 401, .inl now)), (orr, .inl (k 0, 3, .inl refused))] := hD
    refine lv_if_ne (tgt := 19) hx hb dX6_flow_11 (by decide) (fun c2 => ?_) (fun c2 => ?_)
    · have h := zf h c2
      refine lv_iload_n hx hb dX6_flow_19 rfl (lv_at hl 1 rfl) ?_
      refine lv_aload_n hx hb dX6_flow_20 rfl (lv_at hl 0 rfl) ?_
      refine va_get (D := D) (ci := 6) (v := .ref on) (C := RX6) (T := TX6) (N := 14) hx hb ht hiX6 hown hK hP 0 rfl rfl 0 (by decide) (ht _ wb765) (fun _ h9 => h9) rfl dX6_flow_21 ?_
      refine lv_sipush (v := 298) hx hb dX6_flow_24 (by decide) ?_
      obtain ⟨hi1, h⟩ := zg h
      refine va_iald hx hb hK hP 1 0 rfl rfl hi1 dX6_flow_27 ?_
      refine lv_icmp_ge (tgt := 46) hx hb dX6_flow_28 (by decide) (fun c1 => ?_) (fun c1 => ?_)
      · have h := zt h c1
        refine lv_iconst (v := (-1)) hx hb dX6_flow_46 (by decide) ?_
        obtain rfl := Option.some.inj h
        exact W.iret (v := (-1)) hx hb hr (fun t ht9 hW => ⟨⟨_, (), rfl, rfl, zend ht9 hP⟩, hS.F ht9⟩) hS.2.2 dX6_flow_47
      · have h := zf h c1
        refine lv_aload_n hx hb dX6_flow_31 rfl (lv_at hl 0 rfl) ?_
        refine va_get (D := D) (ci := 6) (v := .ref on) (C := RX6) (T := TX6) (N := 14) hx hb ht hiX6 hown hK hP 0 rfl rfl 0 (by decide) (ht _ wb765) (fun _ h9 => h9) rfl dX6_flow_32 ?_
        refine lv_aload_n hx hb dX6_flow_35 rfl (lv_at hl 0 rfl) ?_
        refine lv_iload_n hx hb dX6_flow_36 rfl (lv_at hl 1 rfl) ?_
        obtain ⟨r3, h3, h⟩ := zb h
        refine zi (zrV (C := RX6) (T := TX6) (N := 14) (As := [.int a1]) (rest := [.ref on]) ⟨hx, hb, hml, hown, ht⟩ (c_X6_flowAt l D k o on op orr ot oh og od states bytes reading at_ wrongAt number hh a1 h3 _) (cwV 1 ht (gdV wb987 wb989 wb48 wb80 wb990) rfl rfl rfl (by decide +kernel) ⟨Nat.le_of_ble_eq_true rfl, Nat.le_of_ble_eq_true rfl⟩) hK hP hD hS hA hm [0] rfl rfl 0 6 rfl rfl rfl hl.1 rfl (Nat.le_of_ble_eq_true rfl) dX6_flow_37 ⟨Nat.le_refl _, Nat.le_refl _⟩) hP hD hS hA [0] rfl rfl (fun H locs hP hD hS => ?_)
        have hP : va_P D vwCl [(o, .inr (6, [.ref on, .ref op, .int states, .ref orr, .ref ot, .int bytes, .ref oh, .ref og, .ref od, .int reading, .int at_, .int wrongAt, .int number, .long hh])), (on, .inl (k 0, 401, .inl now)), (orr, .inl (k 0, 3, .inl refused))] H := hP
        have hD : va_D A [(o, .inr (6, [.ref on, .ref op, .int states, .ref orr, .ref ot, .int bytes, .ref oh, .ref og, .ref od, .int reading, .int at_, .int wrongAt, .int number, .long hh])), (on, .inl (k 0, 401, .inl now)), (orr, .inl (k 0, 3, .inl refused))] := hD
        refine lv_iload_n hx hb dX6_flow_40 rfl (lv_at hl 2 rfl) ?_
        refine lv_iadd hx hb dX6_flow_41 ?_
        obtain ⟨hi2, h⟩ := zg h
        refine va_iald hx hb hK hP 1 0 rfl rfl hi2 dX6_flow_42 ?_
        refine lv_goto (tgt := 47) hx hb dX6_flow_43 (by decide) ?_
        obtain rfl := Option.some.inj h
        exact W.iret (v := now (Int32.toNatClampNeg (r3 + a2))) hx hb hr (fun t ht9 hW => ⟨⟨_, (), rfl, rfl, zend ht9 hP⟩, hS.F ht9⟩) hS.2.2 dX6_flow_47
    · have h := zt h c2
      refine lv_aload_n hx hb dX6_flow_14 rfl (lv_at hl 0 rfl) ?_
      obtain ⟨r4, h4, h⟩ := zb h
      refine zi (zrV (C := RX6) (T := TX6) (N := 14) (As := []) (rest := []) ⟨hx, hb, hml, hown, ht⟩ (c_X6_bad l D k o on op orr ot oh og od states bytes reading at_ wrongAt number hh refused  h4 _) (cwV 0 ht (gdV wb826 wb828 wb29 wb80 wb829) rfl rfl rfl (by decide +kernel) ⟨Nat.le_of_ble_eq_true rfl, Nat.le_of_ble_eq_true rfl⟩) hK hP hD hS hA hm [0, 2] rfl rfl 0 6 rfl rfl rfl hl.1 rfl (Nat.le_of_ble_eq_true rfl) dX6_flow_15 ⟨Nat.le_refl _, Nat.le_refl _⟩) hP hD hS hA [0, 2] rfl rfl (fun H locs hP hD hS => ?_)
      have hP : va_P D vwCl [(o, .inr (6, [.ref on, .ref op, .int states, .ref orr, .ref ot, .int bytes, .ref oh, .ref og, .ref od, .int reading, .int at_, .int wrongAt, .int number, .long hh])), (on, .inl (k 0, 401, .inl now)), (orr, .inl (k 0, 3, .inl r4.2))] H := hP
      have hD : va_D A [(o, .inr (6, [.ref on, .ref op, .int states, .ref orr, .ref ot, .int bytes, .ref oh, .ref og, .ref od, .int reading, .int at_, .int wrongAt, .int number, .long hh])), (on, .inl (k 0, 401, .inl now)), (orr, .inl (k 0, 3, .inl r4.2))] := hD
      obtain rfl := Option.some.inj h
      exact W.iret (v := r4.1) hx hb hr (fun t ht9 hW => ⟨⟨_, (), rfl, rfl, zend ht9 hP⟩, hS.F ht9⟩) hS.2.2 dX6_flow_18
def f_X6_countOf (now : Nat → Int32) (a1 : Int32) : Option (Int32) :=
  if a1 = 0 then (if zok 32 401 then (some (now (Int32.toNatClampNeg 32))) else none) else (if a1 = 1 then (if zok 298 401 then (some (now (Int32.toNatClampNeg 298))) else none) else (if a1 = 2 then (if zok 355 401 then (some (now (Int32.toNatClampNeg 355))) else none) else (if a1 = 3 then (if zok 394 401 then (some (now (Int32.toNatClampNeg 394))) else none) else (if zok ((395 + a1) - 4) 401 then (some (now (Int32.toNatClampNeg ((395 + a1) - 4)))) else none))))
abbrev wk_X6_countOf : List Cond := Cond.code yX6_countOf cX6_countOf 2 (some .int) :: WB
abbrev rm_X6_countOf : Room := { frames := 0, cells := 0, slots := 0, locals := 0 }
set_option maxHeartbeats 4000000 in
set_option maxRecDepth 100000 in
theorem c_X6_countOf (l : Launch) (D : va_G) (k : Nat → Nat) (o on op orr ot oh og od : Nat) (states : Int32) (bytes : Int32) (reading : Int32) (at_ : Int32) (wrongAt : Int32) (number : Int32) (hh : Int64) (now : Nat → Int32) (a1 : Int32) {res : Int32} (h : f_X6_countOf now a1 = some res) : Ci l yX6_countOf wk_X6_countOf rm_X6_countOf D k [.ref o, .int a1] [(o, .inr (6, [.ref on, .ref op, .int states, .ref orr, .ref ot, .int bytes, .ref oh, .ref og, .ref od, .int reading, .int at_, .int wrongAt, .int number, .long hh])), (on, .inl (k 0, 401, .inl now))] [(o, .inr (6, [.ref on, .ref op, .int states, .ref orr, .ref ot, .int bytes, .ref oh, .ref og, .ref od, .int reading, .int at_, .int wrongAt, .int number, .long hh])), (on, .inl (k 0, 401, .inl now))] res := by
  unfold Ci
  intro sz
  refine Met.ofW (cc := cX6_countOf) (maxL := 2) (ret := (some .int)) (by decide) rfl ?_
  intro p e s m args below meth c s₁ B hml hv
  obtain ⟨rfl, hsz, hP, hK, hD0, hm⟩ := hv
  have hx := B.exec
  have hb := B.bytes
  have hr := B.returns
  have ht : ∀ w ∈ WB, w.before _ s = true := fun w hw => atoms_spec (ws := wk_X6_countOf) B.pre w (List.mem_cons_of_mem _ hw)
  have hown : s.vm.findClass RX6 = some m.cls := findClass_of_methodNamed B.named
  have hlocks := B.notSynchronized
  subst hsz
  have hD := hD0.self (sz := s.heap.size)
  generalize hAe : va_A [(o, .inr (6, [.ref on, .ref op, .int states, .ref orr, .ref ot, .int bytes, .ref oh, .ref og, .ref od, .int reading, .int at_, .int wrongAt, .int number, .long hh])), (on, .inl (k 0, 401, .inl now))] s.heap.size = A at hD hm ⊢
  have hA : ∀ q : Nat, s.heap.size ≤ q → A q := fun q h => by rw [← hAe]; exact Or.inr h
  have hS : va_S A s.heap s.heap [] := va_S.rf
  have hl := lv_entry ([.ref o, .int a1]) (n := 2) (Nat.le_of_ble_eq_true rfl)
  rw [lg_entry_eq]
  generalize (lg_sl ([.ref o, .int a1]) ++ List.replicate (2 - (lg_sl ([.ref o, .int a1])).length) Slot.unset).toArray = ls at hl ⊢
  have hl : lv_has ls 2 [(0, .ref o), (1, .int a1)] := hl
  obtain ⟨H, hH⟩ : ∃ H, H = s.heap := ⟨_, rfl⟩
  rw [← hH] at hP
  have hS : va_S A s.heap H [] := by rw [hH]; exact hS
  suffices hgo : W p l e _ s m _ below meth c H [] 0 0 _ _ by rw [hH] at hgo; exact hgo
  unfold f_X6_countOf at h
  refine lv_iload_n hx hb dX6_countOf_0 rfl (lv_at hl 1 rfl) ?_
  by_cases c1 : a1 = 0
  · have h := zt h c1
    refine lv_tableIn (off := 31) (tgt := 32) hx hb dX6_countOf_1 (by rw [c1]; decide) (by rw [c1]; decide) (by rw [c1]; rfl) (by decide) ?_
    refine lv_aload_n hx hb dX6_countOf_32 rfl (lv_at hl 0 rfl) ?_
    refine va_get (D := D) (ci := 6) (v := .ref on) (C := RX6) (T := TX6) (N := 14) hx hb ht hiX6 hown hK hP 0 rfl rfl 0 (by decide) (ht _ wb765) (fun _ h9 => h9) rfl dX6_countOf_33 ?_
    refine lv_bipush (v := 32) hx hb dX6_countOf_36 (by decide) ?_
    obtain ⟨hi5, h⟩ := zg h
    refine va_iald hx hb hK hP 1 0 rfl rfl hi5 dX6_countOf_38 ?_
    obtain rfl := Option.some.inj h
    exact W.iret (v := now (Int32.toNatClampNeg 32)) hx hb hr (fun t ht9 hW => ⟨⟨_, (), rfl, rfl, zend ht9 hP⟩, hS.F ht9⟩) hS.2.2 dX6_countOf_39
  · have h := zf h c1
    by_cases c2 : a1 = 1
    · have h := zt h c2
      refine lv_tableIn (off := 39) (tgt := 40) hx hb dX6_countOf_1 (by rw [c2]; decide) (by rw [c2]; decide) (by rw [c2]; rfl) (by decide) ?_
      refine lv_aload_n hx hb dX6_countOf_40 rfl (lv_at hl 0 rfl) ?_
      refine va_get (D := D) (ci := 6) (v := .ref on) (C := RX6) (T := TX6) (N := 14) hx hb ht hiX6 hown hK hP 0 rfl rfl 0 (by decide) (ht _ wb765) (fun _ h9 => h9) rfl dX6_countOf_41 ?_
      refine lv_sipush (v := 298) hx hb dX6_countOf_44 (by decide) ?_
      obtain ⟨hi4, h⟩ := zg h
      refine va_iald hx hb hK hP 1 0 rfl rfl hi4 dX6_countOf_47 ?_
      obtain rfl := Option.some.inj h
      exact W.iret (v := now (Int32.toNatClampNeg 298)) hx hb hr (fun t ht9 hW => ⟨⟨_, (), rfl, rfl, zend ht9 hP⟩, hS.F ht9⟩) hS.2.2 dX6_countOf_48
    · have h := zf h c2
      by_cases c3 : a1 = 2
      · have h := zt h c3
        refine lv_tableIn (off := 48) (tgt := 49) hx hb dX6_countOf_1 (by rw [c3]; decide) (by rw [c3]; decide) (by rw [c3]; rfl) (by decide) ?_
        refine lv_aload_n hx hb dX6_countOf_49 rfl (lv_at hl 0 rfl) ?_
        refine va_get (D := D) (ci := 6) (v := .ref on) (C := RX6) (T := TX6) (N := 14) hx hb ht hiX6 hown hK hP 0 rfl rfl 0 (by decide) (ht _ wb765) (fun _ h9 => h9) rfl dX6_countOf_50 ?_
        refine lv_sipush (v := 355) hx hb dX6_countOf_53 (by decide) ?_
        obtain ⟨hi3, h⟩ := zg h
        refine va_iald hx hb hK hP 1 0 rfl rfl hi3 dX6_countOf_56 ?_
        obtain rfl := Option.some.inj h
        exact W.iret (v := now (Int32.toNatClampNeg 355)) hx hb hr (fun t ht9 hW => ⟨⟨_, (), rfl, rfl, zend ht9 hP⟩, hS.F ht9⟩) hS.2.2 dX6_countOf_57
      · have h := zf h c3
        by_cases c4 : a1 = 3
        · have h := zt h c4
          refine lv_tableIn (off := 57) (tgt := 58) hx hb dX6_countOf_1 (by rw [c4]; decide) (by rw [c4]; decide) (by rw [c4]; rfl) (by decide) ?_
          refine lv_aload_n hx hb dX6_countOf_58 rfl (lv_at hl 0 rfl) ?_
          refine va_get (D := D) (ci := 6) (v := .ref on) (C := RX6) (T := TX6) (N := 14) hx hb ht hiX6 hown hK hP 0 rfl rfl 0 (by decide) (ht _ wb765) (fun _ h9 => h9) rfl dX6_countOf_59 ?_
          refine lv_sipush (v := 394) hx hb dX6_countOf_62 (by decide) ?_
          obtain ⟨hi2, h⟩ := zg h
          refine va_iald hx hb hK hP 1 0 rfl rfl hi2 dX6_countOf_65 ?_
          obtain rfl := Option.some.inj h
          exact W.iret (v := now (Int32.toNatClampNeg 394)) hx hb hr (fun t ht9 hW => ⟨⟨_, (), rfl, rfl, zend ht9 hP⟩, hS.F ht9⟩) hS.2.2 dX6_countOf_66
        · have h := zf h c4
          refine lv_tableOut (tgt := 67) hx hb dX6_countOf_1 (by have e0 : (Int32.toInt a1) ≠ 0 := fun q => c1 (Int32.toInt_inj.mp (by rw [q]; rfl)); have e1 : (Int32.toInt a1) ≠ 1 := fun q => c2 (Int32.toInt_inj.mp (by rw [q]; rfl)); have e2 : (Int32.toInt a1) ≠ 2 := fun q => c3 (Int32.toInt_inj.mp (by rw [q]; rfl)); have e3 : (Int32.toInt a1) ≠ 3 := fun q => c4 (Int32.toInt_inj.mp (by rw [q]; rfl)); omega) (by decide) ?_
          refine lv_aload_n hx hb dX6_countOf_67 rfl (lv_at hl 0 rfl) ?_
          refine va_get (D := D) (ci := 6) (v := .ref on) (C := RX6) (T := TX6) (N := 14) hx hb ht hiX6 hown hK hP 0 rfl rfl 0 (by decide) (ht _ wb765) (fun _ h9 => h9) rfl dX6_countOf_68 ?_
          refine lv_sipush (v := 395) hx hb dX6_countOf_71 (by decide) ?_
          refine lv_iload_n hx hb dX6_countOf_74 rfl (lv_at hl 1 rfl) ?_
          refine lv_iadd hx hb dX6_countOf_75 ?_
          refine lv_iconst (v := 4) hx hb dX6_countOf_76 (by decide) ?_
          refine lv_isub hx hb dX6_countOf_77 ?_
          obtain ⟨hi1, h⟩ := zg h
          refine va_iald hx hb hK hP 1 0 rfl rfl hi1 dX6_countOf_78 ?_
          obtain rfl := Option.some.inj h
          exact W.iret (v := now (Int32.toNatClampNeg ((395 + a1) - 4))) hx hb hr (fun t ht9 hW => ⟨⟨_, (), rfl, rfl, zend ht9 hP⟩, hS.F ht9⟩) hS.2.2 dX6_countOf_79
def f_X6_count (now : Nat → Int32) (refused : Nat → Int32) (a1 : Int32) : Option (Int32 × (Nat → Int32)) :=
  (f_X6_in  a1 0 9).bind fun r1 => if (zB r1) = 0 then ((f_X6_bad refused ).bind fun r2 => some (r2.1, r2.2)) else ((f_X6_countOf now a1).bind fun r3 => some (r3, refused))
abbrev wk_X6_count : List Cond := Cond.code yX6_count cX6_count 2 (some .int) :: WB
abbrev rm_X6_count : Room := { frames := 1, cells := 0, slots := 0, locals := 22 }
set_option maxHeartbeats 4000000 in
set_option maxRecDepth 100000 in
theorem c_X6_count (l : Launch) (D : va_G) (k : Nat → Nat) (o on op orr ot oh og od : Nat) (states : Int32) (bytes : Int32) (reading : Int32) (at_ : Int32) (wrongAt : Int32) (number : Int32) (hh : Int64) (now : Nat → Int32) (refused : Nat → Int32) (a1 : Int32) {res : Int32 × (Nat → Int32)} (h : f_X6_count now refused a1 = some res) : Ci l yX6_count wk_X6_count rm_X6_count D k [.ref o, .int a1] [(o, .inr (6, [.ref on, .ref op, .int states, .ref orr, .ref ot, .int bytes, .ref oh, .ref og, .ref od, .int reading, .int at_, .int wrongAt, .int number, .long hh])), (on, .inl (k 0, 401, .inl now)), (orr, .inl (k 0, 3, .inl refused))] [(o, .inr (6, [.ref on, .ref op, .int states, .ref orr, .ref ot, .int bytes, .ref oh, .ref og, .ref od, .int reading, .int at_, .int wrongAt, .int number, .long hh])), (on, .inl (k 0, 401, .inl now)), (orr, .inl (k 0, 3, .inl res.2))] res.1 := by
  unfold Ci
  intro sz
  refine Met.ofW (cc := cX6_count) (maxL := 2) (ret := (some .int)) (by decide) rfl ?_
  intro p e s m args below meth c s₁ B hml hv
  obtain ⟨rfl, hsz, hP, hK, hD0, hm⟩ := hv
  have hx := B.exec
  have hb := B.bytes
  have hr := B.returns
  have ht : ∀ w ∈ WB, w.before _ s = true := fun w hw => atoms_spec (ws := wk_X6_count) B.pre w (List.mem_cons_of_mem _ hw)
  have hown : s.vm.findClass RX6 = some m.cls := findClass_of_methodNamed B.named
  have hlocks := B.notSynchronized
  subst hsz
  have hD := hD0.self (sz := s.heap.size)
  generalize hAe : va_A [(o, .inr (6, [.ref on, .ref op, .int states, .ref orr, .ref ot, .int bytes, .ref oh, .ref og, .ref od, .int reading, .int at_, .int wrongAt, .int number, .long hh])), (on, .inl (k 0, 401, .inl now)), (orr, .inl (k 0, 3, .inl refused))] s.heap.size = A at hD hm ⊢
  have hA : ∀ q : Nat, s.heap.size ≤ q → A q := fun q h => by rw [← hAe]; exact Or.inr h
  have hS : va_S A s.heap s.heap [] := va_S.rf
  have hl := lv_entry ([.ref o, .int a1]) (n := 2) (Nat.le_of_ble_eq_true rfl)
  rw [lg_entry_eq]
  generalize (lg_sl ([.ref o, .int a1]) ++ List.replicate (2 - (lg_sl ([.ref o, .int a1])).length) Slot.unset).toArray = ls at hl ⊢
  have hl : lv_has ls 2 [(0, .ref o), (1, .int a1)] := hl
  obtain ⟨H, hH⟩ : ∃ H, H = s.heap := ⟨_, rfl⟩
  rw [← hH] at hP
  have hS : va_S A s.heap H [] := by rw [hH]; exact hS
  suffices hgo : W p l e _ s m _ below meth c H [] 0 0 _ _ by rw [hH] at hgo; exact hgo
  unfold f_X6_count at h
  refine lv_iload_n hx hb dX6_count_0 rfl (lv_at hl 1 rfl) ?_
  refine lv_iconst (v := 0) hx hb dX6_count_1 (by decide) ?_
  refine lv_bipush (v := 9) hx hb dX6_count_2 (by decide) ?_
  obtain ⟨r1, h1, h⟩ := zb h
  refine zi (zrS (As := [.int a1, .int 0, .int 9]) (rest := []) ⟨hx, hb, hml, hown, ht⟩ (c_X6_in l D k   a1 0 9 h1 _) (va_cwS 3 ht (gdS wb820 wb821 wb80 wb822) rfl rfl rfl (by decide +kernel) ⟨Nat.le_of_ble_eq_true rfl, Nat.le_of_ble_eq_true rfl⟩) hK hP hD hS hA hm [] rfl rfl rfl hl.1 rfl (Nat.le_of_ble_eq_true rfl) dX6_count_4 ⟨Nat.le_refl _, Nat.le_refl _⟩) hP hD hS hA [] rfl rfl (fun H locs hP hD hS => ?_)
  have hP : va_P D vwCl [(o, .inr (6, [.ref on, .ref op, .int states, .ref orr, .ref ot, .int bytes, .ref oh, .ref og, .ref od, .int reading, .int at_, .int wrongAt, .int number, .long hh])), (on, .inl (k 0, 401, .inl now)), (orr, .inl (k 0, 3, .inl refused))] H := hP
  have hD : va_D A [(o, .inr (6, [.ref on, .ref op, .int states, .ref orr, .ref ot, .int bytes, .ref oh, .ref og, .ref od, .int reading, .int at_, .int wrongAt, .int number, .long hh])), (on, .inl (k 0, 401, .inl now)), (orr, .inl (k 0, 3, .inl refused))] := hD
  refine lv_if_eq (tgt := 18) hx hb dX6_count_7 (by decide) (fun c1 => ?_) (fun c1 => ?_)
  · have h := zt h c1
    refine lv_aload_n hx hb dX6_count_18 rfl (lv_at hl 0 rfl) ?_
    obtain ⟨r2, h2, h⟩ := zb h
    refine zi (zrV (C := RX6) (T := TX6) (N := 14) (As := []) (rest := []) ⟨hx, hb, hml, hown, ht⟩ (c_X6_bad l D k o on op orr ot oh og od states bytes reading at_ wrongAt number hh refused  h2 _) (cwV 0 ht (gdV wb826 wb828 wb29 wb80 wb829) rfl rfl rfl (by decide +kernel) ⟨Nat.le_of_ble_eq_true rfl, Nat.le_of_ble_eq_true rfl⟩) hK hP hD hS hA hm [0, 2] rfl rfl 0 6 rfl rfl rfl hl.1 rfl (Nat.le_of_ble_eq_true rfl) dX6_count_19 ⟨Nat.le_refl _, Nat.le_refl _⟩) hP hD hS hA [0, 2] rfl rfl (fun H locs hP hD hS => ?_)
    have hP : va_P D vwCl [(o, .inr (6, [.ref on, .ref op, .int states, .ref orr, .ref ot, .int bytes, .ref oh, .ref og, .ref od, .int reading, .int at_, .int wrongAt, .int number, .long hh])), (on, .inl (k 0, 401, .inl now)), (orr, .inl (k 0, 3, .inl r2.2))] H := hP
    have hD : va_D A [(o, .inr (6, [.ref on, .ref op, .int states, .ref orr, .ref ot, .int bytes, .ref oh, .ref og, .ref od, .int reading, .int at_, .int wrongAt, .int number, .long hh])), (on, .inl (k 0, 401, .inl now)), (orr, .inl (k 0, 3, .inl r2.2))] := hD
    obtain rfl := Option.some.inj h
    exact W.iret (v := r2.1) hx hb hr (fun t ht9 hW => ⟨⟨_, (), rfl, rfl, zend ht9 hP⟩, hS.F ht9⟩) hS.2.2 dX6_count_22
  · have h := zf h c1
    refine lv_aload_n hx hb dX6_count_10 rfl (lv_at hl 0 rfl) ?_
    refine lv_iload_n hx hb dX6_count_11 rfl (lv_at hl 1 rfl) ?_
    obtain ⟨r3, h3, h⟩ := zb h
    refine zi (zrV (C := RX6) (T := TX6) (N := 14) (As := [.int a1]) (rest := []) ⟨hx, hb, hml, hown, ht⟩ (c_X6_countOf l D k o on op orr ot oh og od states bytes reading at_ wrongAt number hh now a1 h3 _) (cwV 1 ht (gdV wb1054 wb1056 wb58 wb80 wb1057) rfl rfl rfl (by decide +kernel) ⟨Nat.le_of_ble_eq_true rfl, Nat.le_of_ble_eq_true rfl⟩) hK hP hD hS hA hm [0, 1] rfl rfl 0 6 rfl rfl rfl hl.1 rfl (Nat.le_of_ble_eq_true rfl) dX6_count_12 ⟨Nat.le_refl _, Nat.le_refl _⟩) hP hD hS hA [0, 1] rfl rfl (fun H locs hP hD hS => ?_)
    have hP : va_P D vwCl [(o, .inr (6, [.ref on, .ref op, .int states, .ref orr, .ref ot, .int bytes, .ref oh, .ref og, .ref od, .int reading, .int at_, .int wrongAt, .int number, .long hh])), (on, .inl (k 0, 401, .inl now)), (orr, .inl (k 0, 3, .inl refused))] H := hP
    have hD : va_D A [(o, .inr (6, [.ref on, .ref op, .int states, .ref orr, .ref ot, .int bytes, .ref oh, .ref og, .ref od, .int reading, .int at_, .int wrongAt, .int number, .long hh])), (on, .inl (k 0, 401, .inl now)), (orr, .inl (k 0, 3, .inl refused))] := hD
    refine lv_goto (tgt := 22) hx hb dX6_count_15 (by decide) ?_
    obtain rfl := Option.some.inj h
    exact W.iret (v := r3) hx hb hr (fun t ht9 hW => ⟨⟨_, (), rfl, rfl, zend ht9 hP⟩, hS.F ht9⟩) hS.2.2 dX6_count_22
def f_X6_type (bytes : Int32) (text : Nat → Int32) (refused : Nat → Int32) (a1 : Int32) : Option (Int32 × Int32 × (Nat → Int32) × (Nat → Int32)) :=
  (f_X6_in  a1 0 127).bind fun r1 => if (zB r1) = 0 then ((f_X6_bad refused ).bind fun r3 => some (r3.1, bytes, text, r3.2)) else (if bytes = 120 then ((f_X6_full refused ).bind fun r2 => some (r2.1, bytes, text, r2.2)) else (if zok bytes 120 then (some (bytes + 1, bytes + 1, upd text (Int32.toNatClampNeg bytes) a1, refused)) else none))
abbrev wk_X6_type : List Cond := Cond.code yX6_type cX6_type 2 (some .int) :: WB
abbrev rm_X6_type : Room := { frames := 1, cells := 0, slots := 0, locals := 22 }
set_option maxHeartbeats 4000000 in
set_option maxRecDepth 100000 in
theorem c_X6_type (l : Launch) (D : va_G) (k : Nat → Nat) (o on op orr ot oh og od : Nat) (states : Int32) (bytes : Int32) (reading : Int32) (at_ : Int32) (wrongAt : Int32) (number : Int32) (hh : Int64) (text : Nat → Int32) (refused : Nat → Int32) (a1 : Int32) {res : Int32 × Int32 × (Nat → Int32) × (Nat → Int32)} (h : f_X6_type bytes text refused a1 = some res) : Ci l yX6_type wk_X6_type rm_X6_type D k [.ref o, .int a1] [(o, .inr (6, [.ref on, .ref op, .int states, .ref orr, .ref ot, .int bytes, .ref oh, .ref og, .ref od, .int reading, .int at_, .int wrongAt, .int number, .long hh])), (ot, .inl (k 0, 120, .inl text)), (orr, .inl (k 0, 3, .inl refused))] [(o, .inr (6, [.ref on, .ref op, .int states, .ref orr, .ref ot, .int res.2.1, .ref oh, .ref og, .ref od, .int reading, .int at_, .int wrongAt, .int number, .long hh])), (ot, .inl (k 0, 120, .inl res.2.2.1)), (orr, .inl (k 0, 3, .inl res.2.2.2))] res.1 := by
  unfold Ci
  intro sz
  refine Met.ofW (cc := cX6_type) (maxL := 2) (ret := (some .int)) (by decide) rfl ?_
  intro p e s m args below meth c s₁ B hml hv
  obtain ⟨rfl, hsz, hP, hK, hD0, hm⟩ := hv
  have hx := B.exec
  have hb := B.bytes
  have hr := B.returns
  have ht : ∀ w ∈ WB, w.before _ s = true := fun w hw => atoms_spec (ws := wk_X6_type) B.pre w (List.mem_cons_of_mem _ hw)
  have hown : s.vm.findClass RX6 = some m.cls := findClass_of_methodNamed B.named
  have hlocks := B.notSynchronized
  subst hsz
  have hD := hD0.self (sz := s.heap.size)
  generalize hAe : va_A [(o, .inr (6, [.ref on, .ref op, .int states, .ref orr, .ref ot, .int bytes, .ref oh, .ref og, .ref od, .int reading, .int at_, .int wrongAt, .int number, .long hh])), (ot, .inl (k 0, 120, .inl text)), (orr, .inl (k 0, 3, .inl refused))] s.heap.size = A at hD hm ⊢
  have hA : ∀ q : Nat, s.heap.size ≤ q → A q := fun q h => by rw [← hAe]; exact Or.inr h
  have hS : va_S A s.heap s.heap [] := va_S.rf
  have hl := lv_entry ([.ref o, .int a1]) (n := 2) (Nat.le_of_ble_eq_true rfl)
  rw [lg_entry_eq]
  generalize (lg_sl ([.ref o, .int a1]) ++ List.replicate (2 - (lg_sl ([.ref o, .int a1])).length) Slot.unset).toArray = ls at hl ⊢
  have hl : lv_has ls 2 [(0, .ref o), (1, .int a1)] := hl
  obtain ⟨H, hH⟩ : ∃ H, H = s.heap := ⟨_, rfl⟩
  rw [← hH] at hP
  have hS : va_S A s.heap H [] := by rw [hH]; exact hS
  suffices hgo : W p l e _ s m _ below meth c H [] 0 0 _ _ by rw [hH] at hgo; exact hgo
  unfold f_X6_type at h
  refine lv_iload_n hx hb dX6_type_0 rfl (lv_at hl 1 rfl) ?_
  refine lv_iconst (v := 0) hx hb dX6_type_1 (by decide) ?_
  refine lv_bipush (v := 127) hx hb dX6_type_2 (by decide) ?_
  obtain ⟨r1, h1, h⟩ := zb h
  refine zi (zrS (As := [.int a1, .int 0, .int 127]) (rest := []) ⟨hx, hb, hml, hown, ht⟩ (c_X6_in l D k   a1 0 127 h1 _) (va_cwS 3 ht (gdS wb820 wb821 wb80 wb822) rfl rfl rfl (by decide +kernel) ⟨Nat.le_of_ble_eq_true rfl, Nat.le_of_ble_eq_true rfl⟩) hK hP hD hS hA hm [] rfl rfl rfl hl.1 rfl (Nat.le_of_ble_eq_true rfl) dX6_type_4 ⟨Nat.le_refl _, Nat.le_refl _⟩) hP hD hS hA [] rfl rfl (fun H locs hP hD hS => ?_)
  have hP : va_P D vwCl [(o, .inr (6, [.ref on, .ref op, .int states, .ref orr, .ref ot, .int bytes, .ref oh, .ref og, .ref od, .int reading, .int at_, .int wrongAt, .int number, .long hh])), (ot, .inl (k 0, 120, .inl text)), (orr, .inl (k 0, 3, .inl refused))] H := hP
  have hD : va_D A [(o, .inr (6, [.ref on, .ref op, .int states, .ref orr, .ref ot, .int bytes, .ref oh, .ref og, .ref od, .int reading, .int at_, .int wrongAt, .int number, .long hh])), (ot, .inl (k 0, 120, .inl text)), (orr, .inl (k 0, 3, .inl refused))] := hD
  refine lv_if_ne (tgt := 15) hx hb dX6_type_7 (by decide) (fun c2 => ?_) (fun c2 => ?_)
  · have h := zf h c2
    refine lv_aload_n hx hb dX6_type_15 rfl (lv_at hl 0 rfl) ?_
    refine va_get (D := D) (ci := 6) (v := .int bytes) (C := RX6) (T := TX6) (N := 14) hx hb ht hiX6 hown hK hP 0 rfl rfl 5 (by decide) (ht _ wb770) (fun _ h9 => h9) rfl dX6_type_16 ?_
    refine lv_bipush (v := 120) hx hb dX6_type_19 (by decide) ?_
    refine lv_icmp_ne (tgt := 29) hx hb dX6_type_21 (by decide) (fun c1 => ?_) (fun c1 => ?_)
    · have h := zf h c1
      refine lv_aload_n hx hb dX6_type_29 rfl (lv_at hl 0 rfl) ?_
      refine va_get (D := D) (ci := 6) (v := .ref ot) (C := RX6) (T := TX6) (N := 14) hx hb ht hiX6 hown hK hP 0 rfl rfl 4 (by decide) (ht _ wb769) (fun _ h9 => h9) rfl dX6_type_30 ?_
      refine lv_aload_n hx hb dX6_type_33 rfl (lv_at hl 0 rfl) ?_
      refine va_get (D := D) (ci := 6) (v := .int bytes) (C := RX6) (T := TX6) (N := 14) hx hb ht hiX6 hown hK hP 0 rfl rfl 5 (by decide) (ht _ wb770) (fun _ h9 => h9) rfl dX6_type_34 ?_
      refine lv_iload_n hx hb dX6_type_37 rfl (lv_at hl 1 rfl) ?_
      obtain ⟨hi1, h⟩ := zg h
      refine va_iast hx hb hK hP hD hS 1 0 rfl rfl hi1 dX6_type_38 (fun H locs hP hD hS => ?_)
      have hP : va_P D vwCl [(o, .inr (6, [.ref on, .ref op, .int states, .ref orr, .ref ot, .int bytes, .ref oh, .ref og, .ref od, .int reading, .int at_, .int wrongAt, .int number, .long hh])), (ot, .inl (k 0, 120, .inl (upd text (Int32.toNatClampNeg bytes) a1))), (orr, .inl (k 0, 3, .inl refused))] H := hP
      have hD : va_D A [(o, .inr (6, [.ref on, .ref op, .int states, .ref orr, .ref ot, .int bytes, .ref oh, .ref og, .ref od, .int reading, .int at_, .int wrongAt, .int number, .long hh])), (ot, .inl (k 0, 120, .inl (upd text (Int32.toNatClampNeg bytes) a1))), (orr, .inl (k 0, 3, .inl refused))] := hD
      refine lv_aload_n hx hb dX6_type_39 rfl (lv_at hl 0 rfl) ?_
      refine lv_dup hx hb dX6_type_40 rfl ?_
      refine va_get (D := D) (ci := 6) (v := .int bytes) (C := RX6) (T := TX6) (N := 14) hx hb ht hiX6 hown hK hP 0 rfl rfl 5 (by decide) (ht _ wb770) (fun _ h9 => h9) rfl dX6_type_41 ?_
      refine lv_iconst (v := 1) hx hb dX6_type_44 (by decide) ?_
      refine lv_iadd hx hb dX6_type_45 ?_
      refine va_put (D := D) (ci := 6) (v := .int (bytes + 1)) (ty := .int) (C := RX6) (T := TX6) (N := 14) hx hb ht hiX6 tyX6 tyX6_ok nmX6 hown hK hP hD hS 0 rfl rfl 5 (by decide) (ht _ wb770) (fun _ h9 => h9) rfl (by decide +kernel) rfl rfl (Nat.le_of_ble_eq_true rfl) dX6_type_46 (fun H locs hP hD hS => ?_)
      have hP : va_P D vwCl [(o, .inr (6, [.ref on, .ref op, .int states, .ref orr, .ref ot, .int (bytes + 1), .ref oh, .ref og, .ref od, .int reading, .int at_, .int wrongAt, .int number, .long hh])), (ot, .inl (k 0, 120, .inl (upd text (Int32.toNatClampNeg bytes) a1))), (orr, .inl (k 0, 3, .inl refused))] H := hP
      have hD : va_D A [(o, .inr (6, [.ref on, .ref op, .int states, .ref orr, .ref ot, .int (bytes + 1), .ref oh, .ref og, .ref od, .int reading, .int at_, .int wrongAt, .int number, .long hh])), (ot, .inl (k 0, 120, .inl (upd text (Int32.toNatClampNeg bytes) a1))), (orr, .inl (k 0, 3, .inl refused))] := hD
      refine lv_aload_n hx hb dX6_type_49 rfl (lv_at hl 0 rfl) ?_
      refine va_get (D := D) (ci := 6) (v := .int (bytes + 1)) (C := RX6) (T := TX6) (N := 14) hx hb ht hiX6 hown hK hP 0 rfl rfl 5 (by decide) (ht _ wb770) (fun _ h9 => h9) rfl dX6_type_50 ?_
      obtain rfl := Option.some.inj h
      exact W.iret (v := bytes + 1) hx hb hr (fun t ht9 hW => ⟨⟨_, (), rfl, rfl, zend ht9 hP⟩, hS.F ht9⟩) hS.2.2 dX6_type_53
    · have h := zt h c1
      refine lv_aload_n hx hb dX6_type_24 rfl (lv_at hl 0 rfl) ?_
      obtain ⟨r2, h2, h⟩ := zb h
      refine zi (zrV (C := RX6) (T := TX6) (N := 14) (As := []) (rest := []) ⟨hx, hb, hml, hown, ht⟩ (c_X6_full l D k o on op orr ot oh og od states bytes reading at_ wrongAt number hh refused  h2 _) (cwV 0 ht (gdV wb842 wb844 wb31 wb80 wb845) rfl rfl rfl (by decide +kernel) ⟨Nat.le_of_ble_eq_true rfl, Nat.le_of_ble_eq_true rfl⟩) hK hP hD hS hA hm [0, 2] rfl rfl 0 6 rfl rfl rfl hl.1 rfl (Nat.le_of_ble_eq_true rfl) dX6_type_25 ⟨Nat.le_refl _, Nat.le_refl _⟩) hP hD hS hA [0, 2] rfl rfl (fun H locs hP hD hS => ?_)
      have hP : va_P D vwCl [(o, .inr (6, [.ref on, .ref op, .int states, .ref orr, .ref ot, .int bytes, .ref oh, .ref og, .ref od, .int reading, .int at_, .int wrongAt, .int number, .long hh])), (ot, .inl (k 0, 120, .inl text)), (orr, .inl (k 0, 3, .inl r2.2))] H := hP
      have hD : va_D A [(o, .inr (6, [.ref on, .ref op, .int states, .ref orr, .ref ot, .int bytes, .ref oh, .ref og, .ref od, .int reading, .int at_, .int wrongAt, .int number, .long hh])), (ot, .inl (k 0, 120, .inl text)), (orr, .inl (k 0, 3, .inl r2.2))] := hD
      obtain rfl := Option.some.inj h
      exact W.iret (v := r2.1) hx hb hr (fun t ht9 hW => ⟨⟨_, (), rfl, rfl, zend ht9 hP⟩, hS.F ht9⟩) hS.2.2 dX6_type_28
  · have h := zt h c2
    refine lv_aload_n hx hb dX6_type_10 rfl (lv_at hl 0 rfl) ?_
    obtain ⟨r3, h3, h⟩ := zb h
    refine zi (zrV (C := RX6) (T := TX6) (N := 14) (As := []) (rest := []) ⟨hx, hb, hml, hown, ht⟩ (c_X6_bad l D k o on op orr ot oh og od states bytes reading at_ wrongAt number hh refused  h3 _) (cwV 0 ht (gdV wb826 wb828 wb29 wb80 wb829) rfl rfl rfl (by decide +kernel) ⟨Nat.le_of_ble_eq_true rfl, Nat.le_of_ble_eq_true rfl⟩) hK hP hD hS hA hm [0, 2] rfl rfl 0 6 rfl rfl rfl hl.1 rfl (Nat.le_of_ble_eq_true rfl) dX6_type_11 ⟨Nat.le_refl _, Nat.le_refl _⟩) hP hD hS hA [0, 2] rfl rfl (fun H locs hP hD hS => ?_)
    have hP : va_P D vwCl [(o, .inr (6, [.ref on, .ref op, .int states, .ref orr, .ref ot, .int bytes, .ref oh, .ref og, .ref od, .int reading, .int at_, .int wrongAt, .int number, .long hh])), (ot, .inl (k 0, 120, .inl text)), (orr, .inl (k 0, 3, .inl r3.2))] H := hP
    have hD : va_D A [(o, .inr (6, [.ref on, .ref op, .int states, .ref orr, .ref ot, .int bytes, .ref oh, .ref og, .ref od, .int reading, .int at_, .int wrongAt, .int number, .long hh])), (ot, .inl (k 0, 120, .inl text)), (orr, .inl (k 0, 3, .inl r3.2))] := hD
    obtain rfl := Option.some.inj h
    exact W.iret (v := r3.1) hx hb hr (fun t ht9 hW => ⟨⟨_, (), rfl, rfl, zend ht9 hP⟩, hS.F ht9⟩) hS.2.2 dX6_type_14
def f_X6_clear (bytes : Int32)  : Option (Int32 × Int32) :=
  some (bytes, 0)
abbrev wk_X6_clear : List Cond := Cond.code yX6_clear cX6_clear 2 (some .int) :: WB
abbrev rm_X6_clear : Room := { frames := 0, cells := 0, slots := 0, locals := 0 }
set_option maxHeartbeats 4000000 in
set_option maxRecDepth 100000 in
theorem c_X6_clear (l : Launch) (D : va_G) (k : Nat → Nat) (o on op orr ot oh og od : Nat) (states : Int32) (bytes : Int32) (reading : Int32) (at_ : Int32) (wrongAt : Int32) (number : Int32) (hh : Int64)  {res : Int32 × Int32} (h : f_X6_clear bytes  = some res) : Ci l yX6_clear wk_X6_clear rm_X6_clear D k [.ref o] [(o, .inr (6, [.ref on, .ref op, .int states, .ref orr, .ref ot, .int bytes, .ref oh, .ref og, .ref od, .int reading, .int at_, .int wrongAt, .int number, .long hh]))] [(o, .inr (6, [.ref on, .ref op, .int states, .ref orr, .ref ot, .int res.2, .ref oh, .ref og, .ref od, .int reading, .int at_, .int wrongAt, .int number, .long hh]))] res.1 := by
  unfold Ci
  intro sz
  refine Met.ofW (cc := cX6_clear) (maxL := 2) (ret := (some .int)) (by decide) rfl ?_
  intro p e s m args below meth c s₁ B hml hv
  obtain ⟨rfl, hsz, hP, hK, hD0, hm⟩ := hv
  have hx := B.exec
  have hb := B.bytes
  have hr := B.returns
  have ht : ∀ w ∈ WB, w.before _ s = true := fun w hw => atoms_spec (ws := wk_X6_clear) B.pre w (List.mem_cons_of_mem _ hw)
  have hown : s.vm.findClass RX6 = some m.cls := findClass_of_methodNamed B.named
  have hlocks := B.notSynchronized
  subst hsz
  have hD := hD0.self (sz := s.heap.size)
  generalize hAe : va_A [(o, .inr (6, [.ref on, .ref op, .int states, .ref orr, .ref ot, .int bytes, .ref oh, .ref og, .ref od, .int reading, .int at_, .int wrongAt, .int number, .long hh]))] s.heap.size = A at hD hm ⊢
  have hA : ∀ q : Nat, s.heap.size ≤ q → A q := fun q h => by rw [← hAe]; exact Or.inr h
  have hS : va_S A s.heap s.heap [] := va_S.rf
  have hl := lv_entry ([.ref o]) (n := 2) (Nat.le_of_ble_eq_true rfl)
  rw [lg_entry_eq]
  generalize (lg_sl ([.ref o]) ++ List.replicate (2 - (lg_sl ([.ref o])).length) Slot.unset).toArray = ls at hl ⊢
  have hl : lv_has ls 2 [(0, .ref o)] := hl
  obtain ⟨H, hH⟩ : ∃ H, H = s.heap := ⟨_, rfl⟩
  rw [← hH] at hP
  have hS : va_S A s.heap H [] := by rw [hH]; exact hS
  suffices hgo : W p l e _ s m _ below meth c H [] 0 0 _ _ by rw [hH] at hgo; exact hgo
  unfold f_X6_clear at h
  refine lv_aload_n hx hb dX6_clear_0 rfl (lv_at hl 0 rfl) ?_
  refine va_get (D := D) (ci := 6) (v := .int bytes) (C := RX6) (T := TX6) (N := 14) hx hb ht hiX6 hown hK hP 0 rfl rfl 5 (by decide) (ht _ wb770) (fun _ h9 => h9) rfl dX6_clear_1 ?_
  refine lv_istore_n (lv' := [(1, .int bytes), (0, .ref o)]) hx hb dX6_clear_4 rfl hl (by decide) rfl (fun ls hl => ?_)
  refine lv_aload_n hx hb dX6_clear_5 rfl (lv_at hl 1 rfl) ?_
  refine lv_iconst (v := 0) hx hb dX6_clear_6 (by decide) ?_
  refine va_put (D := D) (ci := 6) (v := .int 0) (ty := .int) (C := RX6) (T := TX6) (N := 14) hx hb ht hiX6 tyX6 tyX6_ok nmX6 hown hK hP hD hS 0 rfl rfl 5 (by decide) (ht _ wb770) (fun _ h9 => h9) rfl (by decide +kernel) rfl rfl (Nat.le_of_ble_eq_true rfl) dX6_clear_7 (fun H locs hP hD hS => ?_)
  have hP : va_P D vwCl [(o, .inr (6, [.ref on, .ref op, .int states, .ref orr, .ref ot, .int 0, .ref oh, .ref og, .ref od, .int reading, .int at_, .int wrongAt, .int number, .long hh]))] H := hP
  have hD : va_D A [(o, .inr (6, [.ref on, .ref op, .int states, .ref orr, .ref ot, .int 0, .ref oh, .ref og, .ref od, .int reading, .int at_, .int wrongAt, .int number, .long hh]))] := hD
  refine lv_iload_n hx hb dX6_clear_10 rfl (lv_at hl 0 rfl) ?_
  obtain rfl := Option.some.inj h
  exact W.iret (v := bytes) hx hb hr (fun t ht9 hW => ⟨⟨_, (), rfl, rfl, zend ht9 hP⟩, hS.F ht9⟩) hS.2.2 dX6_clear_11
def f_X6_isAt (bytes : Int32) (at_ : Int32) (text : Nat → Int32) (a1 : Int32) (a2 : Int32) : Option (Bool) :=
  if bytes ≤ at_ then (some (false)) else (if zok at_ 120 then ((f_X6_in  (text (Int32.toNatClampNeg at_)) a1 a2).bind fun r1 => if (zB r1) = 0 then (some (false)) else (some (true))) else none)
abbrev wk_X6_isAt : List Cond := Cond.code yX6_isAt cX6_isAt 3 (some .boolean) :: WB
abbrev rm_X6_isAt : Room := { frames := 1, cells := 0, slots := 0, locals := 22 }
set_option maxHeartbeats 4000000 in
set_option maxRecDepth 100000 in
theorem c_X6_isAt (l : Launch) (D : va_G) (k : Nat → Nat) (o on op orr ot oh og od : Nat) (states : Int32) (bytes : Int32) (reading : Int32) (at_ : Int32) (wrongAt : Int32) (number : Int32) (hh : Int64) (text : Nat → Int32) (a1 : Int32) (a2 : Int32) {res : Bool} (h : f_X6_isAt bytes at_ text a1 a2 = some res) : Ci l yX6_isAt wk_X6_isAt rm_X6_isAt D k [.ref o, .int a1, .int a2] [(o, .inr (6, [.ref on, .ref op, .int states, .ref orr, .ref ot, .int bytes, .ref oh, .ref og, .ref od, .int reading, .int at_, .int wrongAt, .int number, .long hh])), (ot, .inl (k 0, 120, .inl text))] [(o, .inr (6, [.ref on, .ref op, .int states, .ref orr, .ref ot, .int bytes, .ref oh, .ref og, .ref od, .int reading, .int at_, .int wrongAt, .int number, .long hh])), (ot, .inl (k 0, 120, .inl text))] (zB res) := by
  unfold Ci
  intro sz
  refine Met.ofW (cc := cX6_isAt) (maxL := 3) (ret := (some .boolean)) (by decide) rfl ?_
  intro p e s m args below meth c s₁ B hml hv
  obtain ⟨rfl, hsz, hP, hK, hD0, hm⟩ := hv
  have hx := B.exec
  have hb := B.bytes
  have hr := B.returns
  have ht : ∀ w ∈ WB, w.before _ s = true := fun w hw => atoms_spec (ws := wk_X6_isAt) B.pre w (List.mem_cons_of_mem _ hw)
  have hown : s.vm.findClass RX6 = some m.cls := findClass_of_methodNamed B.named
  have hlocks := B.notSynchronized
  subst hsz
  have hD := hD0.self (sz := s.heap.size)
  generalize hAe : va_A [(o, .inr (6, [.ref on, .ref op, .int states, .ref orr, .ref ot, .int bytes, .ref oh, .ref og, .ref od, .int reading, .int at_, .int wrongAt, .int number, .long hh])), (ot, .inl (k 0, 120, .inl text))] s.heap.size = A at hD hm ⊢
  have hA : ∀ q : Nat, s.heap.size ≤ q → A q := fun q h => by rw [← hAe]; exact Or.inr h
  have hS : va_S A s.heap s.heap [] := va_S.rf
  have hl := lv_entry ([.ref o, .int a1, .int a2]) (n := 3) (Nat.le_of_ble_eq_true rfl)
  rw [lg_entry_eq]
  generalize (lg_sl ([.ref o, .int a1, .int a2]) ++ List.replicate (3 - (lg_sl ([.ref o, .int a1, .int a2])).length) Slot.unset).toArray = ls at hl ⊢
  have hl : lv_has ls 3 [(0, .ref o), (1, .int a1), (2, .int a2)] := hl
  obtain ⟨H, hH⟩ : ∃ H, H = s.heap := ⟨_, rfl⟩
  rw [← hH] at hP
  have hS : va_S A s.heap H [] := by rw [hH]; exact hS
  suffices hgo : W p l e _ s m _ below meth c H [] 0 0 _ _ by rw [hH] at hgo; exact hgo
  unfold f_X6_isAt at h
  refine lv_aload_n hx hb dX6_isAt_0 rfl (lv_at hl 0 rfl) ?_
  refine va_get (D := D) (ci := 6) (v := .int at_) (C := RX6) (T := TX6) (N := 14) hx hb ht hiX6 hown hK hP 0 rfl rfl 10 (by decide) (ht _ wb775) (fun _ h9 => h9) rfl dX6_isAt_1 ?_
  refine lv_aload_n hx hb dX6_isAt_4 rfl (lv_at hl 0 rfl) ?_
  refine va_get (D := D) (ci := 6) (v := .int bytes) (C := RX6) (T := TX6) (N := 14) hx hb ht hiX6 hown hK hP 0 rfl rfl 5 (by decide) (ht _ wb770) (fun _ h9 => h9) rfl dX6_isAt_5 ?_
  refine lv_icmp_ge (tgt := 32) hx hb dX6_isAt_8 (by decide) (fun c2 => ?_) (fun c2 => ?_)
  · have h := zt h c2
    refine lv_iconst (v := 0) hx hb dX6_isAt_32 (by decide) ?_
    obtain rfl := Option.some.inj h
    exact W.zret (v := 0) (ty := .boolean) hx hb hr (rfl) (fun t ht9 hW => ⟨⟨_, (), rfl, rfl, zend ht9 hP⟩, hS.F ht9⟩) hS.2.2 dX6_isAt_33
  · have h := zf h c2
    refine lv_aload_n hx hb dX6_isAt_11 rfl (lv_at hl 0 rfl) ?_
    refine va_get (D := D) (ci := 6) (v := .ref ot) (C := RX6) (T := TX6) (N := 14) hx hb ht hiX6 hown hK hP 0 rfl rfl 4 (by decide) (ht _ wb769) (fun _ h9 => h9) rfl dX6_isAt_12 ?_
    refine lv_aload_n hx hb dX6_isAt_15 rfl (lv_at hl 0 rfl) ?_
    refine va_get (D := D) (ci := 6) (v := .int at_) (C := RX6) (T := TX6) (N := 14) hx hb ht hiX6 hown hK hP 0 rfl rfl 10 (by decide) (ht _ wb775) (fun _ h9 => h9) rfl dX6_isAt_16 ?_
    obtain ⟨hi1, h⟩ := zg h
    refine va_iald hx hb hK hP 1 0 rfl rfl hi1 dX6_isAt_19 ?_
    refine lv_iload_n hx hb dX6_isAt_20 rfl (lv_at hl 1 rfl) ?_
    refine lv_iload_n hx hb dX6_isAt_21 rfl (lv_at hl 2 rfl) ?_
    obtain ⟨r1, h1, h⟩ := zb h
    refine zi (zrS (As := [.int (text (Int32.toNatClampNeg at_)), .int a1, .int a2]) (rest := []) ⟨hx, hb, hml, hown, ht⟩ (c_X6_in l D k   (text (Int32.toNatClampNeg at_)) a1 a2 h1 _) (va_cwS 3 ht (gdS wb820 wb821 wb80 wb822) rfl rfl rfl (by decide +kernel) ⟨Nat.le_of_ble_eq_true rfl, Nat.le_of_ble_eq_true rfl⟩) hK hP hD hS hA hm [] rfl rfl rfl hl.1 rfl (Nat.le_of_ble_eq_true rfl) dX6_isAt_22 ⟨Nat.le_refl _, Nat.le_refl _⟩) hP hD hS hA [] rfl rfl (fun H locs hP hD hS => ?_)
    have hP : va_P D vwCl [(o, .inr (6, [.ref on, .ref op, .int states, .ref orr, .ref ot, .int bytes, .ref oh, .ref og, .ref od, .int reading, .int at_, .int wrongAt, .int number, .long hh])), (ot, .inl (k 0, 120, .inl text))] H := hP
    have hD : va_D A [(o, .inr (6, [.ref on, .ref op, .int states, .ref orr, .ref ot, .int bytes, .ref oh, .ref og, .ref od, .int reading, .int at_, .int wrongAt, .int number, .long hh])), (ot, .inl (k 0, 120, .inl text))] := hD
    refine lv_if_eq (tgt := 32) hx hb dX6_isAt_25 (by decide) (fun c1 => ?_) (fun c1 => ?_)
    · have h := zt h c1
      refine lv_iconst (v := 0) hx hb dX6_isAt_32 (by decide) ?_
      obtain rfl := Option.some.inj h
      exact W.zret (v := 0) (ty := .boolean) hx hb hr (rfl) (fun t ht9 hW => ⟨⟨_, (), rfl, rfl, zend ht9 hP⟩, hS.F ht9⟩) hS.2.2 dX6_isAt_33
    · have h := zf h c1
      refine lv_iconst (v := 1) hx hb dX6_isAt_28 (by decide) ?_
      refine lv_goto (tgt := 33) hx hb dX6_isAt_29 (by decide) ?_
      obtain rfl := Option.some.inj h
      exact W.zret (v := 1) (ty := .boolean) hx hb hr (rfl) (fun t ht9 hW => ⟨⟨_, (), rfl, rfl, zend ht9 hP⟩, hS.F ht9⟩) hS.2.2 dX6_isAt_33
def f_X6_blanks_L0 (fu : Nat) (K : Int32 → Option (Int32)) (bytes : Int32) (text : Nat → Int32) : Nat → Int32 → Option (Int32)
  | 0, _ => none
  | n + 1, at_ =>
  (f_X6_isAt bytes at_ text 32 32).bind fun r1 => if (zB r1) = 0 then (K at_) else (f_X6_blanks_L0 fu K bytes text n (at_ + 1))
def f_X6_blanks (fu : Nat) (bytes : Int32) (at_ : Int32) (text : Nat → Int32)  : Option (Int32) :=
  f_X6_blanks_L0 fu (fun (x1 : Int32) => some (x1)) bytes text fu at_
abbrev wk_X6_blanks : List Cond := Cond.code yX6_blanks cX6_blanks 1 none :: WB
abbrev rm_X6_blanks : Room := { frames := 2, cells := 0, slots := 0, locals := 44 }
set_option maxHeartbeats 4000000 in
set_option maxRecDepth 100000 in
theorem c_X6_blanks (l : Launch) (D : va_G) (k : Nat → Nat) (o on op orr ot oh og od : Nat) (states : Int32) (bytes : Int32) (reading : Int32) (at_ : Int32) (wrongAt : Int32) (number : Int32) (hh : Int64) (text : Nat → Int32)  (fu : Nat) {res : Int32} (h : f_X6_blanks fu bytes at_ text  = some res) : Cv l yX6_blanks wk_X6_blanks rm_X6_blanks D k [.ref o] [(o, .inr (6, [.ref on, .ref op, .int states, .ref orr, .ref ot, .int bytes, .ref oh, .ref og, .ref od, .int reading, .int at_, .int wrongAt, .int number, .long hh])), (ot, .inl (k 0, 120, .inl text))] [(o, .inr (6, [.ref on, .ref op, .int states, .ref orr, .ref ot, .int bytes, .ref oh, .ref og, .ref od, .int reading, .int res, .int wrongAt, .int number, .long hh])), (ot, .inl (k 0, 120, .inl text))] := by
  unfold Cv
  intro sz
  refine Met.ofW (cc := cX6_blanks) (maxL := 1) (ret := none) (by decide) rfl ?_
  intro p e s m args below meth c s₁ B hml hv
  obtain ⟨rfl, hsz, hP, hK, hD0, hm⟩ := hv
  have hx := B.exec
  have hb := B.bytes
  have hr := B.returns
  have ht : ∀ w ∈ WB, w.before _ s = true := fun w hw => atoms_spec (ws := wk_X6_blanks) B.pre w (List.mem_cons_of_mem _ hw)
  have hown : s.vm.findClass RX6 = some m.cls := findClass_of_methodNamed B.named
  have hlocks := B.notSynchronized
  subst hsz
  have hD := hD0.self (sz := s.heap.size)
  generalize hAe : va_A [(o, .inr (6, [.ref on, .ref op, .int states, .ref orr, .ref ot, .int bytes, .ref oh, .ref og, .ref od, .int reading, .int at_, .int wrongAt, .int number, .long hh])), (ot, .inl (k 0, 120, .inl text))] s.heap.size = A at hD hm ⊢
  have hA : ∀ q : Nat, s.heap.size ≤ q → A q := fun q h => by rw [← hAe]; exact Or.inr h
  have hS : va_S A s.heap s.heap [] := va_S.rf
  have hl := lv_entry ([.ref o]) (n := 1) (Nat.le_of_ble_eq_true rfl)
  rw [lg_entry_eq]
  generalize (lg_sl ([.ref o]) ++ List.replicate (1 - (lg_sl ([.ref o])).length) Slot.unset).toArray = ls at hl ⊢
  have hl : lv_has ls 1 [(0, .ref o)] := hl
  obtain ⟨H, hH⟩ : ∃ H, H = s.heap := ⟨_, rfl⟩
  rw [← hH] at hP
  have hS : va_S A s.heap H [] := by rw [hH]; exact hS
  suffices hgo : W p l e _ s m _ below meth c H [] 0 0 _ _ by rw [hH] at hgo; exact hgo
  unfold f_X6_blanks at h
  have loop0 : ∀ (states : Int32) (bytes : Int32) (reading : Int32) (wrongAt : Int32) (number : Int32) (hh : Int64) (text : Nat → Int32), ∀ (K : Int32 → Option (Int32)), (∀ (at_ : Int32), K at_ = some res → ∀ (H : Heap) (locs : List Loc), va_P D vwCl [(o, .inr (6, [.ref on, .ref op, .int states, .ref orr, .ref ot, .int bytes, .ref oh, .ref og, .ref od, .int reading, .int at_, .int wrongAt, .int number, .long hh])), (ot, .inl (k 0, 120, .inl text))] H → va_D A [(o, .inr (6, [.ref on, .ref op, .int states, .ref orr, .ref ot, .int bytes, .ref oh, .ref og, .ref od, .int reading, .int at_, .int wrongAt, .int number, .long hh])), (ot, .inl (k 0, 120, .inl text))] → va_S A s.heap H locs → ∀ ls : Array Slot, lv_has ls 1 [(0, .ref o)] → W p l e (headSpec wk_X6_blanks rm_X6_blanks).room s m ([.ref o] : List Value).toArray below meth c H locs 0 0 (MQ below (va_Qv (fun (_ : Unit) => True) (fun _ tq9 => va_P D vwCl [(o, .inr (6, [.ref on, .ref op, .int states, .ref orr, .ref ot, .int bytes, .ref oh, .ref og, .ref od, .int reading, .int res, .int wrongAt, .int number, .long hh])), (ot, .inl (k 0, 120, .inl text))] tq9.heap) A) ([.ref o] : List Value).toArray s 0 0 A) (F0 m 24 ls [])) → ∀ (n : Nat) (at_ : Int32), f_X6_blanks_L0 fu K bytes text n at_ = some res → ∀ (H : Heap) (locs : List Loc), va_P D vwCl [(o, .inr (6, [.ref on, .ref op, .int states, .ref orr, .ref ot, .int bytes, .ref oh, .ref og, .ref od, .int reading, .int at_, .int wrongAt, .int number, .long hh])), (ot, .inl (k 0, 120, .inl text))] H → va_D A [(o, .inr (6, [.ref on, .ref op, .int states, .ref orr, .ref ot, .int bytes, .ref oh, .ref og, .ref od, .int reading, .int at_, .int wrongAt, .int number, .long hh])), (ot, .inl (k 0, 120, .inl text))] → va_S A s.heap H locs → ∀ ls : Array Slot, lv_has ls 1 [(0, .ref o)] → W p l e (headSpec wk_X6_blanks rm_X6_blanks).room s m ([.ref o] : List Value).toArray below meth c H locs 0 0 (MQ below (va_Qv (fun (_ : Unit) => True) (fun _ tq9 => va_P D vwCl [(o, .inr (6, [.ref on, .ref op, .int states, .ref orr, .ref ot, .int bytes, .ref oh, .ref og, .ref od, .int reading, .int res, .int wrongAt, .int number, .long hh])), (ot, .inl (k 0, 120, .inl text))] tq9.heap) A) ([.ref o] : List Value).toArray s 0 0 A) (F0 m 0 ls []) := by
    intro states bytes reading wrongAt number hh text K hKK n
    induction n with
    | zero =>
      intro at_ h
      rw [f_X6_blanks_L0] at h
      cases h
    | succ n ih =>
      intro at_ h H locs hP hD hS ls hl
      rw [f_X6_blanks_L0] at h
      refine lv_aload_n hx hb dX6_blanks_0 rfl (lv_at hl 0 rfl) ?_
      refine lv_bipush (v := 32) hx hb dX6_blanks_1 (by decide) ?_
      refine lv_bipush (v := 32) hx hb dX6_blanks_3 (by decide) ?_
      obtain ⟨r1, h1, h⟩ := zb h
      refine zi (zrV (C := RX6) (T := TX6) (N := 14) (As := [.int 32, .int 32]) (rest := []) ⟨hx, hb, hml, hown, ht⟩ (c_X6_isAt l D k o on op orr ot oh og od states bytes reading at_ wrongAt number hh text 32 32 h1 _) (cwV 2 ht (gdV wb1078 wb1080 wb61 wb80 wb1081) rfl rfl rfl (by decide +kernel) ⟨Nat.le_of_ble_eq_true rfl, Nat.le_of_ble_eq_true rfl⟩) hK hP hD hS hA hm [0, 1] rfl rfl 0 6 rfl rfl rfl hl.1 rfl (Nat.le_of_ble_eq_true rfl) dX6_blanks_5 ⟨Nat.le_refl _, Nat.le_refl _⟩) hP hD hS hA [0, 1] rfl rfl (fun H locs hP hD hS => ?_)
      have hP : va_P D vwCl [(o, .inr (6, [.ref on, .ref op, .int states, .ref orr, .ref ot, .int bytes, .ref oh, .ref og, .ref od, .int reading, .int at_, .int wrongAt, .int number, .long hh])), (ot, .inl (k 0, 120, .inl text))] H := hP
      have hD : va_D A [(o, .inr (6, [.ref on, .ref op, .int states, .ref orr, .ref ot, .int bytes, .ref oh, .ref og, .ref od, .int reading, .int at_, .int wrongAt, .int number, .long hh])), (ot, .inl (k 0, 120, .inl text))] := hD
      refine lv_if_eq (tgt := 24) hx hb dX6_blanks_8 (by decide) (fun c1 => ?_) (fun c1 => ?_)
      · have h := zt h c1
        exact hKK _ h _ _ hP hD hS _ (lv_sub hl [0] rfl)
      · have h := zf h c1
        refine lv_aload_n hx hb dX6_blanks_11 rfl (lv_at hl 0 rfl) ?_
        refine lv_dup hx hb dX6_blanks_12 rfl ?_
        refine va_get (D := D) (ci := 6) (v := .int at_) (C := RX6) (T := TX6) (N := 14) hx hb ht hiX6 hown hK hP 0 rfl rfl 10 (by decide) (ht _ wb775) (fun _ h9 => h9) rfl dX6_blanks_13 ?_
        refine lv_iconst (v := 1) hx hb dX6_blanks_16 (by decide) ?_
        refine lv_iadd hx hb dX6_blanks_17 ?_
        refine va_put (D := D) (ci := 6) (v := .int (at_ + 1)) (ty := .int) (C := RX6) (T := TX6) (N := 14) hx hb ht hiX6 tyX6 tyX6_ok nmX6 hown hK hP hD hS 0 rfl rfl 10 (by decide) (ht _ wb775) (fun _ h9 => h9) rfl (by decide +kernel) rfl rfl (Nat.le_of_ble_eq_true rfl) dX6_blanks_18 (fun H locs hP hD hS => ?_)
        have hP : va_P D vwCl [(o, .inr (6, [.ref on, .ref op, .int states, .ref orr, .ref ot, .int bytes, .ref oh, .ref og, .ref od, .int reading, .int (at_ + 1), .int wrongAt, .int number, .long hh])), (ot, .inl (k 0, 120, .inl text))] H := hP
        have hD : va_D A [(o, .inr (6, [.ref on, .ref op, .int states, .ref orr, .ref ot, .int bytes, .ref oh, .ref og, .ref od, .int reading, .int (at_ + 1), .int wrongAt, .int number, .long hh])), (ot, .inl (k 0, 120, .inl text))] := hD
        refine lv_goto (tgt := 0) hx hb dX6_blanks_21 (by decide) ?_
        exact ih _ h _ _ hP hD hS _ (lv_sub hl [0] rfl)
  refine loop0 _ _ _ _ _ _ _ _ ?_ fu _ h _ _ hP hD hS _ (lv_sub hl [0] rfl)
  intro x1 h H locs hP hD hS ls hl
  try dsimp only at h
  have hP : va_P D vwCl [(o, .inr (6, [.ref on, .ref op, .int states, .ref orr, .ref ot, .int bytes, .ref oh, .ref og, .ref od, .int reading, .int x1, .int wrongAt, .int number, .long hh])), (ot, .inl (k 0, 120, .inl text))] H := hP
  have hD : va_D A [(o, .inr (6, [.ref on, .ref op, .int states, .ref orr, .ref ot, .int bytes, .ref oh, .ref og, .ref od, .int reading, .int x1, .int wrongAt, .int number, .long hh])), (ot, .inl (k 0, 120, .inl text))] := hD
  have hl : lv_has ls 1 [(0, .ref o)] := hl
  obtain rfl := Option.some.inj h
  exact W.vret hx hb hr (fun t ht9 hW => ⟨⟨(), rfl, trivial, zend ht9 hP⟩, hS.F ht9⟩) hS.2.2 dX6_blanks_24
def f_X6_fails  (a1 : Int32) : Option (Bool × Int32) :=
  some (false, a1)
abbrev wk_X6_fails : List Cond := Cond.code yX6_fails cX6_fails 2 (some .boolean) :: WB
abbrev rm_X6_fails : Room := { frames := 0, cells := 0, slots := 0, locals := 0 }
set_option maxHeartbeats 4000000 in
set_option maxRecDepth 100000 in
theorem c_X6_fails (l : Launch) (D : va_G) (k : Nat → Nat) (o on op orr ot oh og od : Nat) (states : Int32) (bytes : Int32) (reading : Int32) (at_ : Int32) (wrongAt : Int32) (number : Int32) (hh : Int64) (a1 : Int32) {res : Bool × Int32} (h : f_X6_fails  a1 = some res) : Ci l yX6_fails wk_X6_fails rm_X6_fails D k [.ref o, .int a1] [(o, .inr (6, [.ref on, .ref op, .int states, .ref orr, .ref ot, .int bytes, .ref oh, .ref og, .ref od, .int reading, .int at_, .int wrongAt, .int number, .long hh]))] [(o, .inr (6, [.ref on, .ref op, .int states, .ref orr, .ref ot, .int bytes, .ref oh, .ref og, .ref od, .int reading, .int at_, .int res.2, .int number, .long hh]))] (zB res.1) := by
  unfold Ci
  intro sz
  refine Met.ofW (cc := cX6_fails) (maxL := 2) (ret := (some .boolean)) (by decide) rfl ?_
  intro p e s m args below meth c s₁ B hml hv
  obtain ⟨rfl, hsz, hP, hK, hD0, hm⟩ := hv
  have hx := B.exec
  have hb := B.bytes
  have hr := B.returns
  have ht : ∀ w ∈ WB, w.before _ s = true := fun w hw => atoms_spec (ws := wk_X6_fails) B.pre w (List.mem_cons_of_mem _ hw)
  have hown : s.vm.findClass RX6 = some m.cls := findClass_of_methodNamed B.named
  have hlocks := B.notSynchronized
  subst hsz
  have hD := hD0.self (sz := s.heap.size)
  generalize hAe : va_A [(o, .inr (6, [.ref on, .ref op, .int states, .ref orr, .ref ot, .int bytes, .ref oh, .ref og, .ref od, .int reading, .int at_, .int wrongAt, .int number, .long hh]))] s.heap.size = A at hD hm ⊢
  have hA : ∀ q : Nat, s.heap.size ≤ q → A q := fun q h => by rw [← hAe]; exact Or.inr h
  have hS : va_S A s.heap s.heap [] := va_S.rf
  have hl := lv_entry ([.ref o, .int a1]) (n := 2) (Nat.le_of_ble_eq_true rfl)
  rw [lg_entry_eq]
  generalize (lg_sl ([.ref o, .int a1]) ++ List.replicate (2 - (lg_sl ([.ref o, .int a1])).length) Slot.unset).toArray = ls at hl ⊢
  have hl : lv_has ls 2 [(0, .ref o), (1, .int a1)] := hl
  obtain ⟨H, hH⟩ : ∃ H, H = s.heap := ⟨_, rfl⟩
  rw [← hH] at hP
  have hS : va_S A s.heap H [] := by rw [hH]; exact hS
  suffices hgo : W p l e _ s m _ below meth c H [] 0 0 _ _ by rw [hH] at hgo; exact hgo
  unfold f_X6_fails at h
  refine lv_aload_n hx hb dX6_fails_0 rfl (lv_at hl 0 rfl) ?_
  refine lv_iload_n hx hb dX6_fails_1 rfl (lv_at hl 1 rfl) ?_
  refine va_put (D := D) (ci := 6) (v := .int a1) (ty := .int) (C := RX6) (T := TX6) (N := 14) hx hb ht hiX6 tyX6 tyX6_ok nmX6 hown hK hP hD hS 0 rfl rfl 11 (by decide) (ht _ wb776) (fun _ h9 => h9) rfl (by decide +kernel) rfl rfl (Nat.le_of_ble_eq_true rfl) dX6_fails_2 (fun H locs hP hD hS => ?_)
  have hP : va_P D vwCl [(o, .inr (6, [.ref on, .ref op, .int states, .ref orr, .ref ot, .int bytes, .ref oh, .ref og, .ref od, .int reading, .int at_, .int a1, .int number, .long hh]))] H := hP
  have hD : va_D A [(o, .inr (6, [.ref on, .ref op, .int states, .ref orr, .ref ot, .int bytes, .ref oh, .ref og, .ref od, .int reading, .int at_, .int a1, .int number, .long hh]))] := hD
  refine lv_iconst (v := 0) hx hb dX6_fails_5 (by decide) ?_
  obtain rfl := Option.some.inj h
  exact W.zret (v := 0) (ty := .boolean) hx hb hr (rfl) (fun t ht9 hW => ⟨⟨_, (), rfl, rfl, zend ht9 hP⟩, hS.F ht9⟩) hS.2.2 dX6_fails_6
def f_X6_add  (a1 : Int64) (a2 : Int32) : Option (Int64) :=
  if a2 = 0 then (some (a1)) else (some (((27 * a1) + (Int32.toInt64 a2)) - 96))
abbrev wk_X6_add : List Cond := Cond.code yX6_add cX6_add 3 (some .long) :: WB
abbrev rm_X6_add : Room := { frames := 0, cells := 0, slots := 0, locals := 0 }
set_option maxHeartbeats 4000000 in
set_option maxRecDepth 100000 in
theorem c_X6_add (l : Launch) (D : va_G) (k : Nat → Nat)  (a1 : Int64) (a2 : Int32) {res : Int64} (h : f_X6_add  a1 a2 = some res) : Cl l yX6_add wk_X6_add rm_X6_add D k [.long a1, .int a2] [] [] res := by
  unfold Cl
  intro sz
  refine Met.ofW (cc := cX6_add) (maxL := 3) (ret := (some .long)) (by decide) rfl ?_
  intro p e s m args below meth c s₁ B hml hv
  obtain ⟨rfl, hsz, hP, hK, hD0, hm⟩ := hv
  have hx := B.exec
  have hb := B.bytes
  have hr := B.returns
  have ht : ∀ w ∈ WB, w.before _ s = true := fun w hw => atoms_spec (ws := wk_X6_add) B.pre w (List.mem_cons_of_mem _ hw)
  have hown : s.vm.findClass RX6 = some m.cls := findClass_of_methodNamed B.named
  have hlocks := B.notSynchronized
  subst hsz
  have hD := hD0.self (sz := s.heap.size)
  generalize hAe : va_A [] s.heap.size = A at hD hm ⊢
  have hA : ∀ q : Nat, s.heap.size ≤ q → A q := fun q h => by rw [← hAe]; exact Or.inr h
  have hS : va_S A s.heap s.heap [] := va_S.rf
  have hl := lv_entry ([.long a1, .int a2]) (n := 3) (Nat.le_of_ble_eq_true rfl)
  rw [lg_entry_eq]
  generalize (lg_sl ([.long a1, .int a2]) ++ List.replicate (3 - (lg_sl ([.long a1, .int a2])).length) Slot.unset).toArray = ls at hl ⊢
  have hl : lv_has ls 3 [(0, .long a1), (2, .int a2)] := hl
  obtain ⟨H, hH⟩ : ∃ H, H = s.heap := ⟨_, rfl⟩
  rw [← hH] at hP
  have hS : va_S A s.heap H [] := by rw [hH]; exact hS
  suffices hgo : W p l e _ s m _ below meth c H [] 0 0 _ _ by rw [hH] at hgo; exact hgo
  unfold f_X6_add at h
  refine lv_iload_n hx hb dX6_add_0 rfl (lv_at hl 1 rfl) ?_
  refine lv_if_ne (tgt := 8) hx hb dX6_add_1 (by decide) (fun c1 => ?_) (fun c1 => ?_)
  · have h := zf h c1
    refine lv_ldc2 (v := 27) hx hb hown (ht _ wb1097) dX6_add_8 ?_
    refine lv_lload_n hx hb dX6_add_11 rfl (lv_at hl 0 rfl) ?_
    refine lv_lmul hx hb dX6_add_12 ?_
    refine lv_iload_n hx hb dX6_add_13 rfl (lv_at hl 1 rfl) ?_
    refine lv_i2l (v := Int32.toInt64 a2) hx hb dX6_add_14 rfl ?_
    refine lv_ladd hx hb dX6_add_15 ?_
    refine lv_ldc2 (v := 96) hx hb hown (ht _ wb1098) dX6_add_16 ?_
    refine lv_lsub hx hb dX6_add_19 ?_
    obtain rfl := Option.some.inj h
    exact W.lret (v := ((27 * a1) + (Int32.toInt64 a2)) - 96) hx hb hr (fun t ht9 hW => ⟨⟨_, (), rfl, rfl, zend ht9 hP⟩, hS.F ht9⟩) hS.2.2 dX6_add_20
  · have h := zt h c1
    refine lv_lload_n hx hb dX6_add_4 rfl (lv_at hl 0 rfl) ?_
    refine lv_goto (tgt := 20) hx hb dX6_add_5 (by decide) ?_
    obtain rfl := Option.some.inj h
    exact W.lret (v := a1) hx hb hr (fun t ht9 hW => ⟨⟨_, (), rfl, rfl, zend ht9 hP⟩, hS.F ht9⟩) hS.2.2 dX6_add_20
def f_X6_codeOf  (a1 : Int32) (a2 : Int32) (a3 : Int32) (a4 : Int32) (a5 : Int32) (a6 : Int32) : Option (Int64) :=
  (f_X6_add  ((Int32.toInt64 a1) - 96) a2).bind fun r1 => (f_X6_add  r1 a3).bind fun r2 => (f_X6_add  r2 a4).bind fun r3 => (f_X6_add  r3 a5).bind fun r4 => (f_X6_add  r4 a6).bind fun r5 => some (r5)
abbrev wk_X6_codeOf : List Cond := Cond.code yX6_codeOf cX6_codeOf 8 (some .long) :: WB
abbrev rm_X6_codeOf : Room := { frames := 1, cells := 0, slots := 0, locals := 22 }
set_option maxHeartbeats 4000000 in
set_option maxRecDepth 100000 in
theorem c_X6_codeOf (l : Launch) (D : va_G) (k : Nat → Nat)  (a1 : Int32) (a2 : Int32) (a3 : Int32) (a4 : Int32) (a5 : Int32) (a6 : Int32) {res : Int64} (h : f_X6_codeOf  a1 a2 a3 a4 a5 a6 = some res) : Cl l yX6_codeOf wk_X6_codeOf rm_X6_codeOf D k [.int a1, .int a2, .int a3, .int a4, .int a5, .int a6] [] [] res := by
  unfold Cl
  intro sz
  refine Met.ofW (cc := cX6_codeOf) (maxL := 8) (ret := (some .long)) (by decide) rfl ?_
  intro p e s m args below meth c s₁ B hml hv
  obtain ⟨rfl, hsz, hP, hK, hD0, hm⟩ := hv
  have hx := B.exec
  have hb := B.bytes
  have hr := B.returns
  have ht : ∀ w ∈ WB, w.before _ s = true := fun w hw => atoms_spec (ws := wk_X6_codeOf) B.pre w (List.mem_cons_of_mem _ hw)
  have hown : s.vm.findClass RX6 = some m.cls := findClass_of_methodNamed B.named
  have hlocks := B.notSynchronized
  subst hsz
  have hD := hD0.self (sz := s.heap.size)
  generalize hAe : va_A [] s.heap.size = A at hD hm ⊢
  have hA : ∀ q : Nat, s.heap.size ≤ q → A q := fun q h => by rw [← hAe]; exact Or.inr h
  have hS : va_S A s.heap s.heap [] := va_S.rf
  have hl := lv_entry ([.int a1, .int a2, .int a3, .int a4, .int a5, .int a6]) (n := 8) (Nat.le_of_ble_eq_true rfl)
  rw [lg_entry_eq]
  generalize (lg_sl ([.int a1, .int a2, .int a3, .int a4, .int a5, .int a6]) ++ List.replicate (8 - (lg_sl ([.int a1, .int a2, .int a3, .int a4, .int a5, .int a6])).length) Slot.unset).toArray = ls at hl ⊢
  have hl : lv_has ls 8 [(0, .int a1), (1, .int a2), (2, .int a3), (3, .int a4), (4, .int a5), (5, .int a6)] := hl
  obtain ⟨H, hH⟩ : ∃ H, H = s.heap := ⟨_, rfl⟩
  rw [← hH] at hP
  have hS : va_S A s.heap H [] := by rw [hH]; exact hS
  suffices hgo : W p l e _ s m _ below meth c H [] 0 0 _ _ by rw [hH] at hgo; exact hgo
  unfold f_X6_codeOf at h
  refine lv_iload_n hx hb dX6_codeOf_0 rfl (lv_at hl 0 rfl) ?_
  refine lv_i2l (v := Int32.toInt64 a1) hx hb dX6_codeOf_1 rfl ?_
  refine lv_ldc2 (v := 96) hx hb hown (ht _ wb1098) dX6_codeOf_2 ?_
  refine lv_lsub hx hb dX6_codeOf_5 ?_
  refine lv_iload_n hx hb dX6_codeOf_6 rfl (lv_at hl 1 rfl) ?_
  obtain ⟨r1, h1, h⟩ := zb h
  refine zl (zrS (As := [.long ((Int32.toInt64 a1) - 96), .int a2]) (rest := []) ⟨hx, hb, hml, hown, ht⟩ (c_X6_add l D k   ((Int32.toInt64 a1) - 96) a2 h1 _) (va_cwS 2 ht (gdS wb1094 wb1095 wb80 wb1096) rfl rfl rfl (by decide +kernel) ⟨Nat.le_of_ble_eq_true rfl, Nat.le_of_ble_eq_true rfl⟩) hK hP hD hS hA hm [] rfl rfl rfl hl.1 rfl (Nat.le_of_ble_eq_true rfl) dX6_codeOf_7 ⟨Nat.le_refl _, Nat.le_refl _⟩) hP hD hS hA [] rfl rfl (fun H locs hP hD hS => ?_)
  have hP : va_P D vwCl [] H := hP
  have hD : va_D A [] := hD
  refine lv_iload_n hx hb dX6_codeOf_10 rfl (lv_at hl 2 rfl) ?_
  obtain ⟨r2, h2, h⟩ := zb h
  refine zl (zrS (As := [.long r1, .int a3]) (rest := []) ⟨hx, hb, hml, hown, ht⟩ (c_X6_add l D k   r1 a3 h2 _) (va_cwS 2 ht (gdS wb1094 wb1095 wb80 wb1096) rfl rfl rfl (by decide +kernel) ⟨Nat.le_of_ble_eq_true rfl, Nat.le_of_ble_eq_true rfl⟩) hK hP hD hS hA hm [] rfl rfl rfl hl.1 rfl (Nat.le_of_ble_eq_true rfl) dX6_codeOf_11 ⟨Nat.le_refl _, Nat.le_refl _⟩) hP hD hS hA [] rfl rfl (fun H locs hP hD hS => ?_)
  have hP : va_P D vwCl [] H := hP
  have hD : va_D A [] := hD
  refine lv_lstore (lv' := [(6, .long r2), (0, .int a1), (1, .int a2), (2, .int a3), (3, .int a4), (4, .int a5), (5, .int a6)]) hx hb dX6_codeOf_14 hl (by decide) rfl (fun ls hl => ?_)
  refine lv_lload hx hb dX6_codeOf_16 (lv_at hl 0 rfl) ?_
  refine lv_iload_n hx hb dX6_codeOf_18 rfl (lv_at hl 4 rfl) ?_
  obtain ⟨r3, h3, h⟩ := zb h
  refine zl (zrS (As := [.long r2, .int a4]) (rest := []) ⟨hx, hb, hml, hown, ht⟩ (c_X6_add l D k   r2 a4 h3 _) (va_cwS 2 ht (gdS wb1094 wb1095 wb80 wb1096) rfl rfl rfl (by decide +kernel) ⟨Nat.le_of_ble_eq_true rfl, Nat.le_of_ble_eq_true rfl⟩) hK hP hD hS hA hm [] rfl rfl rfl hl.1 rfl (Nat.le_of_ble_eq_true rfl) dX6_codeOf_19 ⟨Nat.le_refl _, Nat.le_refl _⟩) hP hD hS hA [] rfl rfl (fun H locs hP hD hS => ?_)
  have hP : va_P D vwCl [] H := hP
  have hD : va_D A [] := hD
  refine lv_iload hx hb dX6_codeOf_22 (lv_at hl 5 rfl) ?_
  obtain ⟨r4, h4, h⟩ := zb h
  refine zl (zrS (As := [.long r3, .int a5]) (rest := []) ⟨hx, hb, hml, hown, ht⟩ (c_X6_add l D k   r3 a5 h4 _) (va_cwS 2 ht (gdS wb1094 wb1095 wb80 wb1096) rfl rfl rfl (by decide +kernel) ⟨Nat.le_of_ble_eq_true rfl, Nat.le_of_ble_eq_true rfl⟩) hK hP hD hS hA hm [] rfl rfl rfl hl.1 rfl (Nat.le_of_ble_eq_true rfl) dX6_codeOf_24 ⟨Nat.le_refl _, Nat.le_refl _⟩) hP hD hS hA [] rfl rfl (fun H locs hP hD hS => ?_)
  have hP : va_P D vwCl [] H := hP
  have hD : va_D A [] := hD
  refine lv_lstore (lv' := [(6, .long r4), (0, .int a1), (1, .int a2), (2, .int a3), (3, .int a4), (4, .int a5), (5, .int a6)]) hx hb dX6_codeOf_27 hl (by decide) rfl (fun ls hl => ?_)
  refine lv_lload hx hb dX6_codeOf_29 (lv_at hl 0 rfl) ?_
  refine lv_iload hx hb dX6_codeOf_31 (lv_at hl 6 rfl) ?_
  obtain ⟨r5, h5, h⟩ := zb h
  refine zl (zrS (As := [.long r4, .int a6]) (rest := []) ⟨hx, hb, hml, hown, ht⟩ (c_X6_add l D k   r4 a6 h5 _) (va_cwS 2 ht (gdS wb1094 wb1095 wb80 wb1096) rfl rfl rfl (by decide +kernel) ⟨Nat.le_of_ble_eq_true rfl, Nat.le_of_ble_eq_true rfl⟩) hK hP hD hS hA hm [] rfl rfl rfl hl.1 rfl (Nat.le_of_ble_eq_true rfl) dX6_codeOf_33 ⟨Nat.le_refl _, Nat.le_refl _⟩) hP hD hS hA [] rfl rfl (fun H locs hP hD hS => ?_)
  have hP : va_P D vwCl [] H := hP
  have hD : va_D A [] := hD
  obtain rfl := Option.some.inj h
  exact W.lret (v := r5) hx hb hr (fun t ht9 hW => ⟨⟨_, (), rfl, rfl, zend ht9 hP⟩, hS.F ht9⟩) hS.2.2 dX6_codeOf_36
def f_X6_takesWord_L4 (fu : Nat) (K : Int64 → Int32 → Int32 → Option (Int64 × Int32)) (bytes : Int32) (text : Nat → Int32) : Nat → Int64 → Int32 → Int32 → Option (Int64 × Int32)
  | 0, _, _, _ => none
  | n + 1, v1, v3, at_ =>
  (f_X6_isAt bytes at_ text 97 122).bind fun r1 => if (zB r1) = 0 then (K v1 v3 at_) else (if 6 ≤ v3 then (f_X6_takesWord_L4 fu K bytes text n (-1) (v3 + 1) (at_ + 1)) else (if zok at_ 120 then ((f_X6_add  v1 (text (Int32.toNatClampNeg at_))).bind fun r2 => f_X6_takesWord_L4 fu K bytes text n r2 (v3 + 1) (at_ + 1)) else none))
def f_X6_takesWord (fu : Nat) (bytes : Int32) (at_ : Int32) (text : Nat → Int32)  : Option (Int64 × Int32) :=
  f_X6_takesWord_L4 fu (fun (x1 : Int64) (x2 : Int32) (x3 : Int32) => some (x1, x3)) bytes text fu 0 0 at_
abbrev wk_X6_takesWord : List Cond := Cond.code yX6_takesWord cX6_takesWord 4 (some .long) :: WB
abbrev rm_X6_takesWord : Room := { frames := 2, cells := 0, slots := 0, locals := 44 }
set_option maxHeartbeats 4000000 in
set_option maxRecDepth 100000 in
theorem c_X6_takesWord (l : Launch) (D : va_G) (k : Nat → Nat) (o on op orr ot oh og od : Nat) (states : Int32) (bytes : Int32) (reading : Int32) (at_ : Int32) (wrongAt : Int32) (number : Int32) (hh : Int64) (text : Nat → Int32)  (fu : Nat) {res : Int64 × Int32} (h : f_X6_takesWord fu bytes at_ text  = some res) : Cl l yX6_takesWord wk_X6_takesWord rm_X6_takesWord D k [.ref o] [(o, .inr (6, [.ref on, .ref op, .int states, .ref orr, .ref ot, .int bytes, .ref oh, .ref og, .ref od, .int reading, .int at_, .int wrongAt, .int number, .long hh])), (ot, .inl (k 0, 120, .inl text))] [(o, .inr (6, [.ref on, .ref op, .int states, .ref orr, .ref ot, .int bytes, .ref oh, .ref og, .ref od, .int reading, .int res.2, .int wrongAt, .int number, .long hh])), (ot, .inl (k 0, 120, .inl text))] res.1 := by
  unfold Cl
  intro sz
  refine Met.ofW (cc := cX6_takesWord) (maxL := 4) (ret := (some .long)) (by decide) rfl ?_
  intro p e s m args below meth c s₁ B hml hv
  obtain ⟨rfl, hsz, hP, hK, hD0, hm⟩ := hv
  have hx := B.exec
  have hb := B.bytes
  have hr := B.returns
  have ht : ∀ w ∈ WB, w.before _ s = true := fun w hw => atoms_spec (ws := wk_X6_takesWord) B.pre w (List.mem_cons_of_mem _ hw)
  have hown : s.vm.findClass RX6 = some m.cls := findClass_of_methodNamed B.named
  have hlocks := B.notSynchronized
  subst hsz
  have hD := hD0.self (sz := s.heap.size)
  generalize hAe : va_A [(o, .inr (6, [.ref on, .ref op, .int states, .ref orr, .ref ot, .int bytes, .ref oh, .ref og, .ref od, .int reading, .int at_, .int wrongAt, .int number, .long hh])), (ot, .inl (k 0, 120, .inl text))] s.heap.size = A at hD hm ⊢
  have hA : ∀ q : Nat, s.heap.size ≤ q → A q := fun q h => by rw [← hAe]; exact Or.inr h
  have hS : va_S A s.heap s.heap [] := va_S.rf
  have hl := lv_entry ([.ref o]) (n := 4) (Nat.le_of_ble_eq_true rfl)
  rw [lg_entry_eq]
  generalize (lg_sl ([.ref o]) ++ List.replicate (4 - (lg_sl ([.ref o])).length) Slot.unset).toArray = ls at hl ⊢
  have hl : lv_has ls 4 [(0, .ref o)] := hl
  obtain ⟨H, hH⟩ : ∃ H, H = s.heap := ⟨_, rfl⟩
  rw [← hH] at hP
  have hS : va_S A s.heap H [] := by rw [hH]; exact hS
  suffices hgo : W p l e _ s m _ below meth c H [] 0 0 _ _ by rw [hH] at hgo; exact hgo
  unfold f_X6_takesWord at h
  refine lv_lconst (v := 0) hx hb dX6_takesWord_0 (by decide) ?_
  refine lv_lstore_n (lv' := [(1, .long 0), (0, .ref o)]) hx hb dX6_takesWord_1 rfl hl (by decide) rfl (fun ls hl => ?_)
  refine lv_iconst (v := 0) hx hb dX6_takesWord_2 (by decide) ?_
  refine lv_istore_n (lv' := [(3, .int 0), (1, .long 0), (0, .ref o)]) hx hb dX6_takesWord_3 rfl hl (by decide) rfl (fun ls hl => ?_)
  have loop4 : ∀ (states : Int32) (bytes : Int32) (reading : Int32) (wrongAt : Int32) (number : Int32) (hh : Int64) (text : Nat → Int32), ∀ (K : Int64 → Int32 → Int32 → Option (Int64 × Int32)), (∀ (v1 : Int64) (v3 : Int32) (at_ : Int32), K v1 v3 at_ = some res → ∀ (H : Heap) (locs : List Loc), va_P D vwCl [(o, .inr (6, [.ref on, .ref op, .int states, .ref orr, .ref ot, .int bytes, .ref oh, .ref og, .ref od, .int reading, .int at_, .int wrongAt, .int number, .long hh])), (ot, .inl (k 0, 120, .inl text))] H → va_D A [(o, .inr (6, [.ref on, .ref op, .int states, .ref orr, .ref ot, .int bytes, .ref oh, .ref og, .ref od, .int reading, .int at_, .int wrongAt, .int number, .long hh])), (ot, .inl (k 0, 120, .inl text))] → va_S A s.heap H locs → ∀ ls : Array Slot, lv_has ls 4 [(0, .ref o), (1, .long v1), (3, .int v3)] → W p l e (headSpec wk_X6_takesWord rm_X6_takesWord).room s m ([.ref o] : List Value).toArray below meth c H locs 0 0 (MQ below (va_Ql (fun xq9 (_ : Unit) => xq9 = res.1) (fun _ tq9 => va_P D vwCl [(o, .inr (6, [.ref on, .ref op, .int states, .ref orr, .ref ot, .int bytes, .ref oh, .ref og, .ref od, .int reading, .int res.2, .int wrongAt, .int number, .long hh])), (ot, .inl (k 0, 120, .inl text))] tq9.heap) A) ([.ref o] : List Value).toArray s 0 0 A) (F0 m 57 ls [])) → ∀ (n : Nat) (v1 : Int64) (v3 : Int32) (at_ : Int32), f_X6_takesWord_L4 fu K bytes text n v1 v3 at_ = some res → ∀ (H : Heap) (locs : List Loc), va_P D vwCl [(o, .inr (6, [.ref on, .ref op, .int states, .ref orr, .ref ot, .int bytes, .ref oh, .ref og, .ref od, .int reading, .int at_, .int wrongAt, .int number, .long hh])), (ot, .inl (k 0, 120, .inl text))] H → va_D A [(o, .inr (6, [.ref on, .ref op, .int states, .ref orr, .ref ot, .int bytes, .ref oh, .ref og, .ref od, .int reading, .int at_, .int wrongAt, .int number, .long hh])), (ot, .inl (k 0, 120, .inl text))] → va_S A s.heap H locs → ∀ ls : Array Slot, lv_has ls 4 [(0, .ref o), (1, .long v1), (3, .int v3)] → W p l e (headSpec wk_X6_takesWord rm_X6_takesWord).room s m ([.ref o] : List Value).toArray below meth c H locs 0 0 (MQ below (va_Ql (fun xq9 (_ : Unit) => xq9 = res.1) (fun _ tq9 => va_P D vwCl [(o, .inr (6, [.ref on, .ref op, .int states, .ref orr, .ref ot, .int bytes, .ref oh, .ref og, .ref od, .int reading, .int res.2, .int wrongAt, .int number, .long hh])), (ot, .inl (k 0, 120, .inl text))] tq9.heap) A) ([.ref o] : List Value).toArray s 0 0 A) (F0 m 4 ls []) := by
    intro states bytes reading wrongAt number hh text K hKK n
    induction n with
    | zero =>
      intro v1 v3 at_ h
      rw [f_X6_takesWord_L4] at h
      cases h
    | succ n ih =>
      intro v1 v3 at_ h H locs hP hD hS ls hl
      rw [f_X6_takesWord_L4] at h
      refine lv_aload_n hx hb dX6_takesWord_4 rfl (lv_at hl 0 rfl) ?_
      refine lv_bipush (v := 97) hx hb dX6_takesWord_5 (by decide) ?_
      refine lv_bipush (v := 122) hx hb dX6_takesWord_7 (by decide) ?_
      obtain ⟨r1, h1, h⟩ := zb h
      refine zi (zrV (C := RX6) (T := TX6) (N := 14) (As := [.int 97, .int 122]) (rest := []) ⟨hx, hb, hml, hown, ht⟩ (c_X6_isAt l D k o on op orr ot oh og od states bytes reading at_ wrongAt number hh text 97 122 h1 _) (cwV 2 ht (gdV wb1078 wb1080 wb61 wb80 wb1081) rfl rfl rfl (by decide +kernel) ⟨Nat.le_of_ble_eq_true rfl, Nat.le_of_ble_eq_true rfl⟩) hK hP hD hS hA hm [0, 1] rfl rfl 0 6 rfl rfl rfl hl.1 rfl (Nat.le_of_ble_eq_true rfl) dX6_takesWord_9 ⟨Nat.le_refl _, Nat.le_refl _⟩) hP hD hS hA [0, 1] rfl rfl (fun H locs hP hD hS => ?_)
      have hP : va_P D vwCl [(o, .inr (6, [.ref on, .ref op, .int states, .ref orr, .ref ot, .int bytes, .ref oh, .ref og, .ref od, .int reading, .int at_, .int wrongAt, .int number, .long hh])), (ot, .inl (k 0, 120, .inl text))] H := hP
      have hD : va_D A [(o, .inr (6, [.ref on, .ref op, .int states, .ref orr, .ref ot, .int bytes, .ref oh, .ref og, .ref od, .int reading, .int at_, .int wrongAt, .int number, .long hh])), (ot, .inl (k 0, 120, .inl text))] := hD
      refine lv_if_eq (tgt := 57) hx hb dX6_takesWord_12 (by decide) (fun c2 => ?_) (fun c2 => ?_)
      · have h := zt h c2
        exact hKK _ _ _ h _ _ hP hD hS _ (lv_sub hl [0, 1, 2] rfl)
      · have h := zf h c2
        refine lv_iload_n hx hb dX6_takesWord_15 rfl (lv_at hl 2 rfl) ?_
        refine lv_bipush (v := 6) hx hb dX6_takesWord_16 (by decide) ?_
        refine lv_icmp_ge (tgt := 37) hx hb dX6_takesWord_18 (by decide) (fun c1 => ?_) (fun c1 => ?_)
        · have h := zt h c1
          refine lv_ldc2 (v := -1) hx hb hown (ht _ wb1099) dX6_takesWord_37 ?_
          refine lv_lstore_n (lv' := [(1, .long (-1)), (0, .ref o), (3, .int v3)]) hx hb dX6_takesWord_40 rfl hl (by decide) rfl (fun ls hl => ?_)
          refine lv_iinc (v := v3 + 1) (lv' := [(3, .int (v3 + 1)), (1, .long (-1)), (0, .ref o)]) hx hb dX6_takesWord_41 hl (k := 2) rfl rfl (by decide) rfl (fun ls hl => ?_)
          refine lv_aload_n hx hb dX6_takesWord_44 rfl (lv_at hl 2 rfl) ?_
          refine lv_dup hx hb dX6_takesWord_45 rfl ?_
          refine va_get (D := D) (ci := 6) (v := .int at_) (C := RX6) (T := TX6) (N := 14) hx hb ht hiX6 hown hK hP 0 rfl rfl 10 (by decide) (ht _ wb775) (fun _ h9 => h9) rfl dX6_takesWord_46 ?_
          refine lv_iconst (v := 1) hx hb dX6_takesWord_49 (by decide) ?_
          refine lv_iadd hx hb dX6_takesWord_50 ?_
          refine va_put (D := D) (ci := 6) (v := .int (at_ + 1)) (ty := .int) (C := RX6) (T := TX6) (N := 14) hx hb ht hiX6 tyX6 tyX6_ok nmX6 hown hK hP hD hS 0 rfl rfl 10 (by decide) (ht _ wb775) (fun _ h9 => h9) rfl (by decide +kernel) rfl rfl (Nat.le_of_ble_eq_true rfl) dX6_takesWord_51 (fun H locs hP hD hS => ?_)
          have hP : va_P D vwCl [(o, .inr (6, [.ref on, .ref op, .int states, .ref orr, .ref ot, .int bytes, .ref oh, .ref og, .ref od, .int reading, .int (at_ + 1), .int wrongAt, .int number, .long hh])), (ot, .inl (k 0, 120, .inl text))] H := hP
          have hD : va_D A [(o, .inr (6, [.ref on, .ref op, .int states, .ref orr, .ref ot, .int bytes, .ref oh, .ref og, .ref od, .int reading, .int (at_ + 1), .int wrongAt, .int number, .long hh])), (ot, .inl (k 0, 120, .inl text))] := hD
          refine lv_goto (tgt := 4) hx hb dX6_takesWord_54 (by decide) ?_
          exact ih _ _ _ h _ _ hP hD hS _ (lv_sub hl [2, 1, 0] rfl)
        · have h := zf h c1
          refine lv_lload_n hx hb dX6_takesWord_21 rfl (lv_at hl 1 rfl) ?_
          refine lv_aload_n hx hb dX6_takesWord_22 rfl (lv_at hl 0 rfl) ?_
          refine va_get (D := D) (ci := 6) (v := .ref ot) (C := RX6) (T := TX6) (N := 14) hx hb ht hiX6 hown hK hP 0 rfl rfl 4 (by decide) (ht _ wb769) (fun _ h9 => h9) rfl dX6_takesWord_23 ?_
          refine lv_aload_n hx hb dX6_takesWord_26 rfl (lv_at hl 0 rfl) ?_
          refine va_get (D := D) (ci := 6) (v := .int at_) (C := RX6) (T := TX6) (N := 14) hx hb ht hiX6 hown hK hP 0 rfl rfl 10 (by decide) (ht _ wb775) (fun _ h9 => h9) rfl dX6_takesWord_27 ?_
          obtain ⟨hi1, h⟩ := zg h
          refine va_iald hx hb hK hP 1 0 rfl rfl hi1 dX6_takesWord_30 ?_
          obtain ⟨r2, h2, h⟩ := zb h
          refine zl (zrS (As := [.long v1, .int (text (Int32.toNatClampNeg at_))]) (rest := []) ⟨hx, hb, hml, hown, ht⟩ (c_X6_add l D k   v1 (text (Int32.toNatClampNeg at_)) h2 _) (va_cwS 2 ht (gdS wb1094 wb1095 wb80 wb1096) rfl rfl rfl (by decide +kernel) ⟨Nat.le_of_ble_eq_true rfl, Nat.le_of_ble_eq_true rfl⟩) hK hP hD hS hA hm [] rfl rfl rfl hl.1 rfl (Nat.le_of_ble_eq_true rfl) dX6_takesWord_31 ⟨Nat.le_refl _, Nat.le_refl _⟩) hP hD hS hA [] rfl rfl (fun H locs hP hD hS => ?_)
          have hP : va_P D vwCl [(o, .inr (6, [.ref on, .ref op, .int states, .ref orr, .ref ot, .int bytes, .ref oh, .ref og, .ref od, .int reading, .int at_, .int wrongAt, .int number, .long hh])), (ot, .inl (k 0, 120, .inl text))] H := hP
          have hD : va_D A [(o, .inr (6, [.ref on, .ref op, .int states, .ref orr, .ref ot, .int bytes, .ref oh, .ref og, .ref od, .int reading, .int at_, .int wrongAt, .int number, .long hh])), (ot, .inl (k 0, 120, .inl text))] := hD
          refine lv_goto (tgt := 40) hx hb dX6_takesWord_34 (by decide) ?_
          refine lv_lstore_n (lv' := [(1, .long r2), (0, .ref o), (3, .int v3)]) hx hb dX6_takesWord_40 rfl hl (by decide) rfl (fun ls hl => ?_)
          refine lv_iinc (v := v3 + 1) (lv' := [(3, .int (v3 + 1)), (1, .long r2), (0, .ref o)]) hx hb dX6_takesWord_41 hl (k := 2) rfl rfl (by decide) rfl (fun ls hl => ?_)
          refine lv_aload_n hx hb dX6_takesWord_44 rfl (lv_at hl 2 rfl) ?_
          refine lv_dup hx hb dX6_takesWord_45 rfl ?_
          refine va_get (D := D) (ci := 6) (v := .int at_) (C := RX6) (T := TX6) (N := 14) hx hb ht hiX6 hown hK hP 0 rfl rfl 10 (by decide) (ht _ wb775) (fun _ h9 => h9) rfl dX6_takesWord_46 ?_
          refine lv_iconst (v := 1) hx hb dX6_takesWord_49 (by decide) ?_
          refine lv_iadd hx hb dX6_takesWord_50 ?_
          refine va_put (D := D) (ci := 6) (v := .int (at_ + 1)) (ty := .int) (C := RX6) (T := TX6) (N := 14) hx hb ht hiX6 tyX6 tyX6_ok nmX6 hown hK hP hD hS 0 rfl rfl 10 (by decide) (ht _ wb775) (fun _ h9 => h9) rfl (by decide +kernel) rfl rfl (Nat.le_of_ble_eq_true rfl) dX6_takesWord_51 (fun H locs hP hD hS => ?_)
          have hP : va_P D vwCl [(o, .inr (6, [.ref on, .ref op, .int states, .ref orr, .ref ot, .int bytes, .ref oh, .ref og, .ref od, .int reading, .int (at_ + 1), .int wrongAt, .int number, .long hh])), (ot, .inl (k 0, 120, .inl text))] H := hP
          have hD : va_D A [(o, .inr (6, [.ref on, .ref op, .int states, .ref orr, .ref ot, .int bytes, .ref oh, .ref og, .ref od, .int reading, .int (at_ + 1), .int wrongAt, .int number, .long hh])), (ot, .inl (k 0, 120, .inl text))] := hD
          refine lv_goto (tgt := 4) hx hb dX6_takesWord_54 (by decide) ?_
          exact ih _ _ _ h _ _ hP hD hS _ (lv_sub hl [2, 1, 0] rfl)
  refine loop4 _ _ _ _ _ _ _ _ ?_ fu _ _ _ h _ _ hP hD hS _ (lv_sub hl [2, 1, 0] rfl)
  intro x1 x2 x3 h H locs hP hD hS ls hl
  try dsimp only at h
  have hP : va_P D vwCl [(o, .inr (6, [.ref on, .ref op, .int states, .ref orr, .ref ot, .int bytes, .ref oh, .ref og, .ref od, .int reading, .int x3, .int wrongAt, .int number, .long hh])), (ot, .inl (k 0, 120, .inl text))] H := hP
  have hD : va_D A [(o, .inr (6, [.ref on, .ref op, .int states, .ref orr, .ref ot, .int bytes, .ref oh, .ref og, .ref od, .int reading, .int x3, .int wrongAt, .int number, .long hh])), (ot, .inl (k 0, 120, .inl text))] := hD
  have hl : lv_has ls 4 [(0, .ref o), (1, .long x1), (3, .int x2)] := hl
  refine lv_lload_n hx hb dX6_takesWord_57 rfl (lv_at hl 1 rfl) ?_
  obtain rfl := Option.some.inj h
  exact W.lret (v := x1) hx hb hr (fun t ht9 hW => ⟨⟨_, (), rfl, rfl, zend ht9 hP⟩, hS.F ht9⟩) hS.2.2 dX6_takesWord_58
def f_X6_wordBy  (a1 : Int64) : Option (Int32) :=
  (f_X6_codeOf  100 101 110 121 0 0).bind fun r1 => if (lg_cmp a1 r1) = 0 then (some (0)) else ((f_X6_codeOf  97 108 108 111 119 0).bind fun r2 => if (lg_cmp a1 r2) = 0 then (some (1)) else ((f_X6_codeOf  114 101 106 101 99 116).bind fun r3 => if (lg_cmp a1 r3) = 0 then (some (2)) else ((f_X6_codeOf  102 114 111 109 0 0).bind fun r4 => if (lg_cmp a1 r4) = 0 then (some (3)) else ((f_X6_codeOf  116 111 0 0 0 0).bind fun r5 => if (lg_cmp a1 r5) = 0 then (some (4)) else ((f_X6_codeOf  115 114 99 0 0 0).bind fun r6 => if (lg_cmp a1 r6) = 0 then (some (5)) else ((f_X6_codeOf  100 115 116 0 0 0).bind fun r7 => if (lg_cmp a1 r7) = 0 then (some (6)) else ((f_X6_codeOf  112 111 114 116 0 0).bind fun r8 => if (lg_cmp a1 r8) = 0 then (some (7)) else ((f_X6_codeOf  115 116 114 101 97 109).bind fun r9 => if (lg_cmp a1 r9) = 0 then (some (8)) else ((f_X6_codeOf  115 105 110 103 108 101).bind fun r10 => if (lg_cmp a1 r10) = 0 then (some (9)) else (some ((-1))))))))))))
abbrev wk_X6_wordBy : List Cond := Cond.code yX6_wordBy cX6_wordBy 2 (some .int) :: WB
abbrev rm_X6_wordBy : Room := { frames := 2, cells := 0, slots := 0, locals := 49 }
set_option maxHeartbeats 4000000 in
set_option maxRecDepth 100000 in
theorem c_X6_wordBy (l : Launch) (D : va_G) (k : Nat → Nat)  (a1 : Int64) {res : Int32} (h : f_X6_wordBy  a1 = some res) : Ci l yX6_wordBy wk_X6_wordBy rm_X6_wordBy D k [.long a1] [] [] res := by
  unfold Ci
  intro sz
  refine Met.ofW (cc := cX6_wordBy) (maxL := 2) (ret := (some .int)) (by decide) rfl ?_
  intro p e s m args below meth c s₁ B hml hv
  obtain ⟨rfl, hsz, hP, hK, hD0, hm⟩ := hv
  have hx := B.exec
  have hb := B.bytes
  have hr := B.returns
  have ht : ∀ w ∈ WB, w.before _ s = true := fun w hw => atoms_spec (ws := wk_X6_wordBy) B.pre w (List.mem_cons_of_mem _ hw)
  have hown : s.vm.findClass RX6 = some m.cls := findClass_of_methodNamed B.named
  have hlocks := B.notSynchronized
  subst hsz
  have hD := hD0.self (sz := s.heap.size)
  generalize hAe : va_A [] s.heap.size = A at hD hm ⊢
  have hA : ∀ q : Nat, s.heap.size ≤ q → A q := fun q h => by rw [← hAe]; exact Or.inr h
  have hS : va_S A s.heap s.heap [] := va_S.rf
  have hl := lv_entry ([.long a1]) (n := 2) (Nat.le_of_ble_eq_true rfl)
  rw [lg_entry_eq]
  generalize (lg_sl ([.long a1]) ++ List.replicate (2 - (lg_sl ([.long a1])).length) Slot.unset).toArray = ls at hl ⊢
  have hl : lv_has ls 2 [(0, .long a1)] := hl
  obtain ⟨H, hH⟩ : ∃ H, H = s.heap := ⟨_, rfl⟩
  rw [← hH] at hP
  have hS : va_S A s.heap H [] := by rw [hH]; exact hS
  suffices hgo : W p l e _ s m _ below meth c H [] 0 0 _ _ by rw [hH] at hgo; exact hgo
  unfold f_X6_wordBy at h
  refine lv_lload_n hx hb dX6_wordBy_0 rfl (lv_at hl 0 rfl) ?_
  refine lv_bipush (v := 100) hx hb dX6_wordBy_1 (by decide) ?_
  refine lv_bipush (v := 101) hx hb dX6_wordBy_3 (by decide) ?_
  refine lv_bipush (v := 110) hx hb dX6_wordBy_5 (by decide) ?_
  refine lv_bipush (v := 121) hx hb dX6_wordBy_7 (by decide) ?_
  refine lv_iconst (v := 0) hx hb dX6_wordBy_9 (by decide) ?_
  refine lv_iconst (v := 0) hx hb dX6_wordBy_10 (by decide) ?_
  obtain ⟨r1, h1, h⟩ := zb h
  refine zl (zrS (As := [.int 100, .int 101, .int 110, .int 121, .int 0, .int 0]) (rest := [.long a1]) ⟨hx, hb, hml, hown, ht⟩ (c_X6_codeOf l D k   100 101 110 121 0 0 h1 _) (va_cwS 6 ht (gdS wb1103 wb1104 wb80 wb1105) rfl rfl rfl (by decide +kernel) ⟨Nat.le_of_ble_eq_true rfl, Nat.le_of_ble_eq_true rfl⟩) hK hP hD hS hA hm [] rfl rfl rfl hl.1 rfl (Nat.le_of_ble_eq_true rfl) dX6_wordBy_11 ⟨Nat.le_refl _, Nat.le_refl _⟩) hP hD hS hA [] rfl rfl (fun H locs hP hD hS => ?_)
  have hP : va_P D vwCl [] H := hP
  have hD : va_D A [] := hD
  refine W.lcmp hx hb dX6_wordBy_14 ?_
  refine lv_if_ne (tgt := 20) hx hb dX6_wordBy_15 (by decide) (fun c10 => ?_) (fun c10 => ?_)
  · have h := zf h c10
    refine lv_lload_n hx hb dX6_wordBy_20 rfl (lv_at hl 0 rfl) ?_
    refine lv_bipush (v := 97) hx hb dX6_wordBy_21 (by decide) ?_
    refine lv_bipush (v := 108) hx hb dX6_wordBy_23 (by decide) ?_
    refine lv_bipush (v := 108) hx hb dX6_wordBy_25 (by decide) ?_
    refine lv_bipush (v := 111) hx hb dX6_wordBy_27 (by decide) ?_
    refine lv_bipush (v := 119) hx hb dX6_wordBy_29 (by decide) ?_
    refine lv_iconst (v := 0) hx hb dX6_wordBy_31 (by decide) ?_
    obtain ⟨r2, h2, h⟩ := zb h
    refine zl (zrS (As := [.int 97, .int 108, .int 108, .int 111, .int 119, .int 0]) (rest := [.long a1]) ⟨hx, hb, hml, hown, ht⟩ (c_X6_codeOf l D k   97 108 108 111 119 0 h2 _) (va_cwS 6 ht (gdS wb1103 wb1104 wb80 wb1105) rfl rfl rfl (by decide +kernel) ⟨Nat.le_of_ble_eq_true rfl, Nat.le_of_ble_eq_true rfl⟩) hK hP hD hS hA hm [] rfl rfl rfl hl.1 rfl (Nat.le_of_ble_eq_true rfl) dX6_wordBy_32 ⟨Nat.le_refl _, Nat.le_refl _⟩) hP hD hS hA [] rfl rfl (fun H locs hP hD hS => ?_)
    have hP : va_P D vwCl [] H := hP
    have hD : va_D A [] := hD
    refine W.lcmp hx hb dX6_wordBy_35 ?_
    refine lv_if_ne (tgt := 41) hx hb dX6_wordBy_36 (by decide) (fun c9 => ?_) (fun c9 => ?_)
    · have h := zf h c9
      refine lv_lload_n hx hb dX6_wordBy_41 rfl (lv_at hl 0 rfl) ?_
      refine lv_bipush (v := 114) hx hb dX6_wordBy_42 (by decide) ?_
      refine lv_bipush (v := 101) hx hb dX6_wordBy_44 (by decide) ?_
      refine lv_bipush (v := 106) hx hb dX6_wordBy_46 (by decide) ?_
      refine lv_bipush (v := 101) hx hb dX6_wordBy_48 (by decide) ?_
      refine lv_bipush (v := 99) hx hb dX6_wordBy_50 (by decide) ?_
      refine lv_bipush (v := 116) hx hb dX6_wordBy_52 (by decide) ?_
      obtain ⟨r3, h3, h⟩ := zb h
      refine zl (zrS (As := [.int 114, .int 101, .int 106, .int 101, .int 99, .int 116]) (rest := [.long a1]) ⟨hx, hb, hml, hown, ht⟩ (c_X6_codeOf l D k   114 101 106 101 99 116 h3 _) (va_cwS 6 ht (gdS wb1103 wb1104 wb80 wb1105) rfl rfl rfl (by decide +kernel) ⟨Nat.le_of_ble_eq_true rfl, Nat.le_of_ble_eq_true rfl⟩) hK hP hD hS hA hm [] rfl rfl rfl hl.1 rfl (Nat.le_of_ble_eq_true rfl) dX6_wordBy_54 ⟨Nat.le_refl _, Nat.le_refl _⟩) hP hD hS hA [] rfl rfl (fun H locs hP hD hS => ?_)
      have hP : va_P D vwCl [] H := hP
      have hD : va_D A [] := hD
      refine W.lcmp hx hb dX6_wordBy_57 ?_
      refine lv_if_ne (tgt := 63) hx hb dX6_wordBy_58 (by decide) (fun c8 => ?_) (fun c8 => ?_)
      · have h := zf h c8
        refine lv_lload_n hx hb dX6_wordBy_63 rfl (lv_at hl 0 rfl) ?_
        refine lv_bipush (v := 102) hx hb dX6_wordBy_64 (by decide) ?_
        refine lv_bipush (v := 114) hx hb dX6_wordBy_66 (by decide) ?_
        refine lv_bipush (v := 111) hx hb dX6_wordBy_68 (by decide) ?_
        refine lv_bipush (v := 109) hx hb dX6_wordBy_70 (by decide) ?_
        refine lv_iconst (v := 0) hx hb dX6_wordBy_72 (by decide) ?_
        refine lv_iconst (v := 0) hx hb dX6_wordBy_73 (by decide) ?_
        obtain ⟨r4, h4, h⟩ := zb h
        refine zl (zrS (As := [.int 102, .int 114, .int 111, .int 109, .int 0, .int 0]) (rest := [.long a1]) ⟨hx, hb, hml, hown, ht⟩ (c_X6_codeOf l D k   102 114 111 109 0 0 h4 _) (va_cwS 6 ht (gdS wb1103 wb1104 wb80 wb1105) rfl rfl rfl (by decide +kernel) ⟨Nat.le_of_ble_eq_true rfl, Nat.le_of_ble_eq_true rfl⟩) hK hP hD hS hA hm [] rfl rfl rfl hl.1 rfl (Nat.le_of_ble_eq_true rfl) dX6_wordBy_74 ⟨Nat.le_refl _, Nat.le_refl _⟩) hP hD hS hA [] rfl rfl (fun H locs hP hD hS => ?_)
        have hP : va_P D vwCl [] H := hP
        have hD : va_D A [] := hD
        refine W.lcmp hx hb dX6_wordBy_77 ?_
        refine lv_if_ne (tgt := 83) hx hb dX6_wordBy_78 (by decide) (fun c7 => ?_) (fun c7 => ?_)
        · have h := zf h c7
          refine lv_lload_n hx hb dX6_wordBy_83 rfl (lv_at hl 0 rfl) ?_
          refine lv_bipush (v := 116) hx hb dX6_wordBy_84 (by decide) ?_
          refine lv_bipush (v := 111) hx hb dX6_wordBy_86 (by decide) ?_
          refine lv_iconst (v := 0) hx hb dX6_wordBy_88 (by decide) ?_
          refine lv_iconst (v := 0) hx hb dX6_wordBy_89 (by decide) ?_
          refine lv_iconst (v := 0) hx hb dX6_wordBy_90 (by decide) ?_
          refine lv_iconst (v := 0) hx hb dX6_wordBy_91 (by decide) ?_
          obtain ⟨r5, h5, h⟩ := zb h
          refine zl (zrS (As := [.int 116, .int 111, .int 0, .int 0, .int 0, .int 0]) (rest := [.long a1]) ⟨hx, hb, hml, hown, ht⟩ (c_X6_codeOf l D k   116 111 0 0 0 0 h5 _) (va_cwS 6 ht (gdS wb1103 wb1104 wb80 wb1105) rfl rfl rfl (by decide +kernel) ⟨Nat.le_of_ble_eq_true rfl, Nat.le_of_ble_eq_true rfl⟩) hK hP hD hS hA hm [] rfl rfl rfl hl.1 rfl (Nat.le_of_ble_eq_true rfl) dX6_wordBy_92 ⟨Nat.le_refl _, Nat.le_refl _⟩) hP hD hS hA [] rfl rfl (fun H locs hP hD hS => ?_)
          have hP : va_P D vwCl [] H := hP
          have hD : va_D A [] := hD
          refine W.lcmp hx hb dX6_wordBy_95 ?_
          refine lv_if_ne (tgt := 101) hx hb dX6_wordBy_96 (by decide) (fun c6 => ?_) (fun c6 => ?_)
          · have h := zf h c6
            refine lv_lload_n hx hb dX6_wordBy_101 rfl (lv_at hl 0 rfl) ?_
            refine lv_bipush (v := 115) hx hb dX6_wordBy_102 (by decide) ?_
            refine lv_bipush (v := 114) hx hb dX6_wordBy_104 (by decide) ?_
            refine lv_bipush (v := 99) hx hb dX6_wordBy_106 (by decide) ?_
            refine lv_iconst (v := 0) hx hb dX6_wordBy_108 (by decide) ?_
            refine lv_iconst (v := 0) hx hb dX6_wordBy_109 (by decide) ?_
            refine lv_iconst (v := 0) hx hb dX6_wordBy_110 (by decide) ?_
            obtain ⟨r6, h6, h⟩ := zb h
            refine zl (zrS (As := [.int 115, .int 114, .int 99, .int 0, .int 0, .int 0]) (rest := [.long a1]) ⟨hx, hb, hml, hown, ht⟩ (c_X6_codeOf l D k   115 114 99 0 0 0 h6 _) (va_cwS 6 ht (gdS wb1103 wb1104 wb80 wb1105) rfl rfl rfl (by decide +kernel) ⟨Nat.le_of_ble_eq_true rfl, Nat.le_of_ble_eq_true rfl⟩) hK hP hD hS hA hm [] rfl rfl rfl hl.1 rfl (Nat.le_of_ble_eq_true rfl) dX6_wordBy_111 ⟨Nat.le_refl _, Nat.le_refl _⟩) hP hD hS hA [] rfl rfl (fun H locs hP hD hS => ?_)
            have hP : va_P D vwCl [] H := hP
            have hD : va_D A [] := hD
            refine W.lcmp hx hb dX6_wordBy_114 ?_
            refine lv_if_ne (tgt := 120) hx hb dX6_wordBy_115 (by decide) (fun c5 => ?_) (fun c5 => ?_)
            · have h := zf h c5
              refine lv_lload_n hx hb dX6_wordBy_120 rfl (lv_at hl 0 rfl) ?_
              refine lv_bipush (v := 100) hx hb dX6_wordBy_121 (by decide) ?_
              refine lv_bipush (v := 115) hx hb dX6_wordBy_123 (by decide) ?_
              refine lv_bipush (v := 116) hx hb dX6_wordBy_125 (by decide) ?_
              refine lv_iconst (v := 0) hx hb dX6_wordBy_127 (by decide) ?_
              refine lv_iconst (v := 0) hx hb dX6_wordBy_128 (by decide) ?_
              refine lv_iconst (v := 0) hx hb dX6_wordBy_129 (by decide) ?_
              obtain ⟨r7, h7, h⟩ := zb h
              refine zl (zrS (As := [.int 100, .int 115, .int 116, .int 0, .int 0, .int 0]) (rest := [.long a1]) ⟨hx, hb, hml, hown, ht⟩ (c_X6_codeOf l D k   100 115 116 0 0 0 h7 _) (va_cwS 6 ht (gdS wb1103 wb1104 wb80 wb1105) rfl rfl rfl (by decide +kernel) ⟨Nat.le_of_ble_eq_true rfl, Nat.le_of_ble_eq_true rfl⟩) hK hP hD hS hA hm [] rfl rfl rfl hl.1 rfl (Nat.le_of_ble_eq_true rfl) dX6_wordBy_130 ⟨Nat.le_refl _, Nat.le_refl _⟩) hP hD hS hA [] rfl rfl (fun H locs hP hD hS => ?_)
              have hP : va_P D vwCl [] H := hP
              have hD : va_D A [] := hD
              refine W.lcmp hx hb dX6_wordBy_133 ?_
              refine lv_if_ne (tgt := 140) hx hb dX6_wordBy_134 (by decide) (fun c4 => ?_) (fun c4 => ?_)
              · have h := zf h c4
                refine lv_lload_n hx hb dX6_wordBy_140 rfl (lv_at hl 0 rfl) ?_
                refine lv_bipush (v := 112) hx hb dX6_wordBy_141 (by decide) ?_
                refine lv_bipush (v := 111) hx hb dX6_wordBy_143 (by decide) ?_
                refine lv_bipush (v := 114) hx hb dX6_wordBy_145 (by decide) ?_
                refine lv_bipush (v := 116) hx hb dX6_wordBy_147 (by decide) ?_
                refine lv_iconst (v := 0) hx hb dX6_wordBy_149 (by decide) ?_
                refine lv_iconst (v := 0) hx hb dX6_wordBy_150 (by decide) ?_
                obtain ⟨r8, h8, h⟩ := zb h
                refine zl (zrS (As := [.int 112, .int 111, .int 114, .int 116, .int 0, .int 0]) (rest := [.long a1]) ⟨hx, hb, hml, hown, ht⟩ (c_X6_codeOf l D k   112 111 114 116 0 0 h8 _) (va_cwS 6 ht (gdS wb1103 wb1104 wb80 wb1105) rfl rfl rfl (by decide +kernel) ⟨Nat.le_of_ble_eq_true rfl, Nat.le_of_ble_eq_true rfl⟩) hK hP hD hS hA hm [] rfl rfl rfl hl.1 rfl (Nat.le_of_ble_eq_true rfl) dX6_wordBy_151 ⟨Nat.le_refl _, Nat.le_refl _⟩) hP hD hS hA [] rfl rfl (fun H locs hP hD hS => ?_)
                have hP : va_P D vwCl [] H := hP
                have hD : va_D A [] := hD
                refine W.lcmp hx hb dX6_wordBy_154 ?_
                refine lv_if_ne (tgt := 161) hx hb dX6_wordBy_155 (by decide) (fun c3 => ?_) (fun c3 => ?_)
                · have h := zf h c3
                  refine lv_lload_n hx hb dX6_wordBy_161 rfl (lv_at hl 0 rfl) ?_
                  refine lv_bipush (v := 115) hx hb dX6_wordBy_162 (by decide) ?_
                  refine lv_bipush (v := 116) hx hb dX6_wordBy_164 (by decide) ?_
                  refine lv_bipush (v := 114) hx hb dX6_wordBy_166 (by decide) ?_
                  refine lv_bipush (v := 101) hx hb dX6_wordBy_168 (by decide) ?_
                  refine lv_bipush (v := 97) hx hb dX6_wordBy_170 (by decide) ?_
                  refine lv_bipush (v := 109) hx hb dX6_wordBy_172 (by decide) ?_
                  obtain ⟨r9, h9, h⟩ := zb h
                  refine zl (zrS (As := [.int 115, .int 116, .int 114, .int 101, .int 97, .int 109]) (rest := [.long a1]) ⟨hx, hb, hml, hown, ht⟩ (c_X6_codeOf l D k   115 116 114 101 97 109 h9 _) (va_cwS 6 ht (gdS wb1103 wb1104 wb80 wb1105) rfl rfl rfl (by decide +kernel) ⟨Nat.le_of_ble_eq_true rfl, Nat.le_of_ble_eq_true rfl⟩) hK hP hD hS hA hm [] rfl rfl rfl hl.1 rfl (Nat.le_of_ble_eq_true rfl) dX6_wordBy_174 ⟨Nat.le_refl _, Nat.le_refl _⟩) hP hD hS hA [] rfl rfl (fun H locs hP hD hS => ?_)
                  have hP : va_P D vwCl [] H := hP
                  have hD : va_D A [] := hD
                  refine W.lcmp hx hb dX6_wordBy_177 ?_
                  refine lv_if_ne (tgt := 184) hx hb dX6_wordBy_178 (by decide) (fun c2 => ?_) (fun c2 => ?_)
                  · have h := zf h c2
                    refine lv_lload_n hx hb dX6_wordBy_184 rfl (lv_at hl 0 rfl) ?_
                    refine lv_bipush (v := 115) hx hb dX6_wordBy_185 (by decide) ?_
                    refine lv_bipush (v := 105) hx hb dX6_wordBy_187 (by decide) ?_
                    refine lv_bipush (v := 110) hx hb dX6_wordBy_189 (by decide) ?_
                    refine lv_bipush (v := 103) hx hb dX6_wordBy_191 (by decide) ?_
                    refine lv_bipush (v := 108) hx hb dX6_wordBy_193 (by decide) ?_
                    refine lv_bipush (v := 101) hx hb dX6_wordBy_195 (by decide) ?_
                    obtain ⟨r10, h10, h⟩ := zb h
                    refine zl (zrS (As := [.int 115, .int 105, .int 110, .int 103, .int 108, .int 101]) (rest := [.long a1]) ⟨hx, hb, hml, hown, ht⟩ (c_X6_codeOf l D k   115 105 110 103 108 101 h10 _) (va_cwS 6 ht (gdS wb1103 wb1104 wb80 wb1105) rfl rfl rfl (by decide +kernel) ⟨Nat.le_of_ble_eq_true rfl, Nat.le_of_ble_eq_true rfl⟩) hK hP hD hS hA hm [] rfl rfl rfl hl.1 rfl (Nat.le_of_ble_eq_true rfl) dX6_wordBy_197 ⟨Nat.le_refl _, Nat.le_refl _⟩) hP hD hS hA [] rfl rfl (fun H locs hP hD hS => ?_)
                    have hP : va_P D vwCl [] H := hP
                    have hD : va_D A [] := hD
                    refine W.lcmp hx hb dX6_wordBy_200 ?_
                    refine lv_if_ne (tgt := 209) hx hb dX6_wordBy_201 (by decide) (fun c1 => ?_) (fun c1 => ?_)
                    · have h := zf h c1
                      refine lv_iconst (v := (-1)) hx hb dX6_wordBy_209 (by decide) ?_
                      obtain rfl := Option.some.inj h
                      exact W.iret (v := (-1)) hx hb hr (fun t ht9 hW => ⟨⟨_, (), rfl, rfl, zend ht9 hP⟩, hS.F ht9⟩) hS.2.2 dX6_wordBy_210
                    · have h := zt h c1
                      refine lv_bipush (v := 9) hx hb dX6_wordBy_204 (by decide) ?_
                      refine lv_goto (tgt := 210) hx hb dX6_wordBy_206 (by decide) ?_
                      obtain rfl := Option.some.inj h
                      exact W.iret (v := 9) hx hb hr (fun t ht9 hW => ⟨⟨_, (), rfl, rfl, zend ht9 hP⟩, hS.F ht9⟩) hS.2.2 dX6_wordBy_210
                  · have h := zt h c2
                    refine lv_bipush (v := 8) hx hb dX6_wordBy_181 (by decide) ?_
                    obtain rfl := Option.some.inj h
                    exact W.iret (v := 8) hx hb hr (fun t ht9 hW => ⟨⟨_, (), rfl, rfl, zend ht9 hP⟩, hS.F ht9⟩) hS.2.2 dX6_wordBy_183
                · have h := zt h c3
                  refine lv_bipush (v := 7) hx hb dX6_wordBy_158 (by decide) ?_
                  obtain rfl := Option.some.inj h
                  exact W.iret (v := 7) hx hb hr (fun t ht9 hW => ⟨⟨_, (), rfl, rfl, zend ht9 hP⟩, hS.F ht9⟩) hS.2.2 dX6_wordBy_160
              · have h := zt h c4
                refine lv_bipush (v := 6) hx hb dX6_wordBy_137 (by decide) ?_
                obtain rfl := Option.some.inj h
                exact W.iret (v := 6) hx hb hr (fun t ht9 hW => ⟨⟨_, (), rfl, rfl, zend ht9 hP⟩, hS.F ht9⟩) hS.2.2 dX6_wordBy_139
            · have h := zt h c5
              refine lv_iconst (v := 5) hx hb dX6_wordBy_118 (by decide) ?_
              obtain rfl := Option.some.inj h
              exact W.iret (v := 5) hx hb hr (fun t ht9 hW => ⟨⟨_, (), rfl, rfl, zend ht9 hP⟩, hS.F ht9⟩) hS.2.2 dX6_wordBy_119
          · have h := zt h c6
            refine lv_iconst (v := 4) hx hb dX6_wordBy_99 (by decide) ?_
            obtain rfl := Option.some.inj h
            exact W.iret (v := 4) hx hb hr (fun t ht9 hW => ⟨⟨_, (), rfl, rfl, zend ht9 hP⟩, hS.F ht9⟩) hS.2.2 dX6_wordBy_100
        · have h := zt h c7
          refine lv_iconst (v := 3) hx hb dX6_wordBy_81 (by decide) ?_
          obtain rfl := Option.some.inj h
          exact W.iret (v := 3) hx hb hr (fun t ht9 hW => ⟨⟨_, (), rfl, rfl, zend ht9 hP⟩, hS.F ht9⟩) hS.2.2 dX6_wordBy_82
      · have h := zt h c8
        refine lv_iconst (v := 2) hx hb dX6_wordBy_61 (by decide) ?_
        obtain rfl := Option.some.inj h
        exact W.iret (v := 2) hx hb hr (fun t ht9 hW => ⟨⟨_, (), rfl, rfl, zend ht9 hP⟩, hS.F ht9⟩) hS.2.2 dX6_wordBy_62
    · have h := zt h c9
      refine lv_iconst (v := 1) hx hb dX6_wordBy_39 (by decide) ?_
      obtain rfl := Option.some.inj h
      exact W.iret (v := 1) hx hb hr (fun t ht9 hW => ⟨⟨_, (), rfl, rfl, zend ht9 hP⟩, hS.F ht9⟩) hS.2.2 dX6_wordBy_40
  · have h := zt h c10
    refine lv_iconst (v := 0) hx hb dX6_wordBy_18 (by decide) ?_
    obtain rfl := Option.some.inj h
    exact W.iret (v := 0) hx hb hr (fun t ht9 hW => ⟨⟨_, (), rfl, rfl, zend ht9 hP⟩, hS.F ht9⟩) hS.2.2 dX6_wordBy_19
def f_X6_takesNumber_L34 (fu : Nat) (K : Int32 → Int32 → Option (Bool × Int32 × Int32 × Int32)) (v2 : Int32) (bytes : Int32) (text : Nat → Int32) : Nat → Int32 → Int32 → Option (Bool × Int32 × Int32 × Int32)
  | 0, _, _ => none
  | n + 1, at_, number =>
  (f_X6_isAt bytes at_ text 48 57).bind fun r3 => if (zB r3) = 0 then (K at_ number) else (if at_ = (v2 + 2) then ((f_X6_fails  at_).bind fun r4 => some (r4.1, at_, r4.2, number)) else (if zok at_ 120 then (f_X6_takesNumber_L34 fu K v2 bytes text n (at_ + 1) (((10 * number) + (text (Int32.toNatClampNeg at_))) - 48)) else none))
def f_X6_takesNumber (fu : Nat) (bytes : Int32) (at_ : Int32) (wrongAt : Int32) (number : Int32) (text : Nat → Int32) (a1 : Int32) : Option (Bool × Int32 × Int32 × Int32) :=
  (f_X6_blanks fu bytes at_ text ).bind fun r1 => (f_X6_isAt bytes r1 text 48 57).bind fun r2 => if (zB r2) = 0 then ((f_X6_fails  r1).bind fun r6 => some (r6.1, r1, r6.2, number)) else (f_X6_takesNumber_L34 fu (fun (x1 : Int32) (x2 : Int32) => if x2 ≤ a1 then (some (true, x1, wrongAt, x2)) else ((f_X6_fails  r1).bind fun r5 => if (zB r5.1) = 0 then (some (false, x1, r5.2, x2)) else (some (true, x1, r5.2, x2)))) r1 bytes text fu r1 0)
abbrev wk_X6_takesNumber : List Cond := Cond.code yX6_takesNumber cX6_takesNumber 3 (some .boolean) :: WB
abbrev rm_X6_takesNumber : Room := { frames := 3, cells := 0, slots := 0, locals := 64 }
set_option maxHeartbeats 4000000 in
set_option maxRecDepth 100000 in
theorem c_X6_takesNumber (l : Launch) (D : va_G) (k : Nat → Nat) (o on op orr ot oh og od : Nat) (states : Int32) (bytes : Int32) (reading : Int32) (at_ : Int32) (wrongAt : Int32) (number : Int32) (hh : Int64) (text : Nat → Int32) (a1 : Int32) (fu : Nat) {res : Bool × Int32 × Int32 × Int32} (h : f_X6_takesNumber fu bytes at_ wrongAt number text a1 = some res) : Ci l yX6_takesNumber wk_X6_takesNumber rm_X6_takesNumber D k [.ref o, .int a1] [(o, .inr (6, [.ref on, .ref op, .int states, .ref orr, .ref ot, .int bytes, .ref oh, .ref og, .ref od, .int reading, .int at_, .int wrongAt, .int number, .long hh])), (ot, .inl (k 0, 120, .inl text))] [(o, .inr (6, [.ref on, .ref op, .int states, .ref orr, .ref ot, .int bytes, .ref oh, .ref og, .ref od, .int reading, .int res.2.1, .int res.2.2.1, .int res.2.2.2, .long hh])), (ot, .inl (k 0, 120, .inl text))] (zB res.1) := by
  unfold Ci
  intro sz
  refine Met.ofW (cc := cX6_takesNumber) (maxL := 3) (ret := (some .boolean)) (by decide) rfl ?_
  intro p e s m args below meth c s₁ B hml hv
  obtain ⟨rfl, hsz, hP, hK, hD0, hm⟩ := hv
  have hx := B.exec
  have hb := B.bytes
  have hr := B.returns
  have ht : ∀ w ∈ WB, w.before _ s = true := fun w hw => atoms_spec (ws := wk_X6_takesNumber) B.pre w (List.mem_cons_of_mem _ hw)
  have hown : s.vm.findClass RX6 = some m.cls := findClass_of_methodNamed B.named
  have hlocks := B.notSynchronized
  subst hsz
  have hD := hD0.self (sz := s.heap.size)
  generalize hAe : va_A [(o, .inr (6, [.ref on, .ref op, .int states, .ref orr, .ref ot, .int bytes, .ref oh, .ref og, .ref od, .int reading, .int at_, .int wrongAt, .int number, .long hh])), (ot, .inl (k 0, 120, .inl text))] s.heap.size = A at hD hm ⊢
  have hA : ∀ q : Nat, s.heap.size ≤ q → A q := fun q h => by rw [← hAe]; exact Or.inr h
  have hS : va_S A s.heap s.heap [] := va_S.rf
  have hl := lv_entry ([.ref o, .int a1]) (n := 3) (Nat.le_of_ble_eq_true rfl)
  rw [lg_entry_eq]
  generalize (lg_sl ([.ref o, .int a1]) ++ List.replicate (3 - (lg_sl ([.ref o, .int a1])).length) Slot.unset).toArray = ls at hl ⊢
  have hl : lv_has ls 3 [(0, .ref o), (1, .int a1)] := hl
  obtain ⟨H, hH⟩ : ∃ H, H = s.heap := ⟨_, rfl⟩
  rw [← hH] at hP
  have hS : va_S A s.heap H [] := by rw [hH]; exact hS
  suffices hgo : W p l e _ s m _ below meth c H [] 0 0 _ _ by rw [hH] at hgo; exact hgo
  unfold f_X6_takesNumber at h
  refine lv_aload_n hx hb dX6_takesNumber_0 rfl (lv_at hl 0 rfl) ?_
  obtain ⟨r1, h1, h⟩ := zb h
  refine zv (zrV (C := RX6) (T := TX6) (N := 14) (As := []) (rest := []) ⟨hx, hb, hml, hown, ht⟩ (c_X6_blanks l D k o on op orr ot oh og od states bytes reading at_ wrongAt number hh text  fu h1 _) (cwV 0 ht (gdV wb1074 wb1076 wb60 wb80 wb1077) rfl rfl rfl (by decide +kernel) ⟨Nat.le_of_ble_eq_true rfl, Nat.le_of_ble_eq_true rfl⟩) hK hP hD hS hA hm [0, 1] rfl rfl 0 6 rfl rfl rfl hl.1 rfl (Nat.le_of_ble_eq_true rfl) dX6_takesNumber_1 ⟨Nat.le_refl _, Nat.le_refl _⟩) hP hD hS hA [0, 1] rfl rfl (fun H locs hP hD hS => ?_)
  have hP : va_P D vwCl [(o, .inr (6, [.ref on, .ref op, .int states, .ref orr, .ref ot, .int bytes, .ref oh, .ref og, .ref od, .int reading, .int r1, .int wrongAt, .int number, .long hh])), (ot, .inl (k 0, 120, .inl text))] H := hP
  have hD : va_D A [(o, .inr (6, [.ref on, .ref op, .int states, .ref orr, .ref ot, .int bytes, .ref oh, .ref og, .ref od, .int reading, .int r1, .int wrongAt, .int number, .long hh])), (ot, .inl (k 0, 120, .inl text))] := hD
  refine lv_aload_n hx hb dX6_takesNumber_4 rfl (lv_at hl 0 rfl) ?_
  refine lv_bipush (v := 48) hx hb dX6_takesNumber_5 (by decide) ?_
  refine lv_bipush (v := 57) hx hb dX6_takesNumber_7 (by decide) ?_
  obtain ⟨r2, h2, h⟩ := zb h
  refine zi (zrV (C := RX6) (T := TX6) (N := 14) (As := [.int 48, .int 57]) (rest := []) ⟨hx, hb, hml, hown, ht⟩ (c_X6_isAt l D k o on op orr ot oh og od states bytes reading r1 wrongAt number hh text 48 57 h2 _) (cwV 2 ht (gdV wb1078 wb1080 wb61 wb80 wb1081) rfl rfl rfl (by decide +kernel) ⟨Nat.le_of_ble_eq_true rfl, Nat.le_of_ble_eq_true rfl⟩) hK hP hD hS hA hm [0, 1] rfl rfl 0 6 rfl rfl rfl hl.1 rfl (Nat.le_of_ble_eq_true rfl) dX6_takesNumber_9 ⟨Nat.le_refl _, Nat.le_refl _⟩) hP hD hS hA [0, 1] rfl rfl (fun H locs hP hD hS => ?_)
  have hP : va_P D vwCl [(o, .inr (6, [.ref on, .ref op, .int states, .ref orr, .ref ot, .int bytes, .ref oh, .ref og, .ref od, .int reading, .int r1, .int wrongAt, .int number, .long hh])), (ot, .inl (k 0, 120, .inl text))] H := hP
  have hD : va_D A [(o, .inr (6, [.ref on, .ref op, .int states, .ref orr, .ref ot, .int bytes, .ref oh, .ref og, .ref od, .int reading, .int r1, .int wrongAt, .int number, .long hh])), (ot, .inl (k 0, 120, .inl text))] := hD
  refine lv_if_ne (tgt := 24) hx hb dX6_takesNumber_12 (by decide) (fun c5 => ?_) (fun c5 => ?_)
  · have h := zf h c5
    refine lv_aload_n hx hb dX6_takesNumber_24 rfl (lv_at hl 0 rfl) ?_
    refine va_get (D := D) (ci := 6) (v := .int r1) (C := RX6) (T := TX6) (N := 14) hx hb ht hiX6 hown hK hP 0 rfl rfl 10 (by decide) (ht _ wb775) (fun _ h9 => h9) rfl dX6_takesNumber_25 ?_
    refine lv_istore_n (lv' := [(2, .int r1), (0, .ref o), (1, .int a1)]) hx hb dX6_takesNumber_28 rfl hl (by decide) rfl (fun ls hl => ?_)
    refine lv_aload_n hx hb dX6_takesNumber_29 rfl (lv_at hl 1 rfl) ?_
    refine lv_iconst (v := 0) hx hb dX6_takesNumber_30 (by decide) ?_
    refine va_put (D := D) (ci := 6) (v := .int 0) (ty := .int) (C := RX6) (T := TX6) (N := 14) hx hb ht hiX6 tyX6 tyX6_ok nmX6 hown hK hP hD hS 0 rfl rfl 12 (by decide) (ht _ wb777) (fun _ h9 => h9) rfl (by decide +kernel) rfl rfl (Nat.le_of_ble_eq_true rfl) dX6_takesNumber_31 (fun H locs hP hD hS => ?_)
    have hP : va_P D vwCl [(o, .inr (6, [.ref on, .ref op, .int states, .ref orr, .ref ot, .int bytes, .ref oh, .ref og, .ref od, .int reading, .int r1, .int wrongAt, .int 0, .long hh])), (ot, .inl (k 0, 120, .inl text))] H := hP
    have hD : va_D A [(o, .inr (6, [.ref on, .ref op, .int states, .ref orr, .ref ot, .int bytes, .ref oh, .ref og, .ref od, .int reading, .int r1, .int wrongAt, .int 0, .long hh])), (ot, .inl (k 0, 120, .inl text))] := hD
    have loop34 : ∀ (v1 : Int32) (v2 : Int32) (states : Int32) (bytes : Int32) (reading : Int32) (wrongAt : Int32) (hh : Int64) (text : Nat → Int32), ∀ (K : Int32 → Int32 → Option (Bool × Int32 × Int32 × Int32)), (∀ (at_ : Int32) (number : Int32), K at_ number = some res → ∀ (H : Heap) (locs : List Loc), va_P D vwCl [(o, .inr (6, [.ref on, .ref op, .int states, .ref orr, .ref ot, .int bytes, .ref oh, .ref og, .ref od, .int reading, .int at_, .int wrongAt, .int number, .long hh])), (ot, .inl (k 0, 120, .inl text))] H → va_D A [(o, .inr (6, [.ref on, .ref op, .int states, .ref orr, .ref ot, .int bytes, .ref oh, .ref og, .ref od, .int reading, .int at_, .int wrongAt, .int number, .long hh])), (ot, .inl (k 0, 120, .inl text))] → va_S A s.heap H locs → ∀ ls : Array Slot, lv_has ls 3 [(0, .ref o), (1, .int v1), (2, .int v2)] → W p l e (headSpec wk_X6_takesNumber rm_X6_takesNumber).room s m ([.ref o, .int a1] : List Value).toArray below meth c H locs 0 0 (MQ below (va_Qi (fun xq9 (_ : Unit) => xq9 = zB res.1) (fun _ tq9 => va_P D vwCl [(o, .inr (6, [.ref on, .ref op, .int states, .ref orr, .ref ot, .int bytes, .ref oh, .ref og, .ref od, .int reading, .int res.2.1, .int res.2.2.1, .int res.2.2.2, .long hh])), (ot, .inl (k 0, 120, .inl text))] tq9.heap) A) ([.ref o, .int a1] : List Value).toArray s 0 0 A) (F0 m 101 ls [])) → ∀ (n : Nat) (at_ : Int32) (number : Int32), f_X6_takesNumber_L34 fu K v2 bytes text n at_ number = some res → ∀ (H : Heap) (locs : List Loc), va_P D vwCl [(o, .inr (6, [.ref on, .ref op, .int states, .ref orr, .ref ot, .int bytes, .ref oh, .ref og, .ref od, .int reading, .int at_, .int wrongAt, .int number, .long hh])), (ot, .inl (k 0, 120, .inl text))] H → va_D A [(o, .inr (6, [.ref on, .ref op, .int states, .ref orr, .ref ot, .int bytes, .ref oh, .ref og, .ref od, .int reading, .int at_, .int wrongAt, .int number, .long hh])), (ot, .inl (k 0, 120, .inl text))] → va_S A s.heap H locs → ∀ ls : Array Slot, lv_has ls 3 [(0, .ref o), (1, .int v1), (2, .int v2)] → W p l e (headSpec wk_X6_takesNumber rm_X6_takesNumber).room s m ([.ref o, .int a1] : List Value).toArray below meth c H locs 0 0 (MQ below (va_Qi (fun xq9 (_ : Unit) => xq9 = zB res.1) (fun _ tq9 => va_P D vwCl [(o, .inr (6, [.ref on, .ref op, .int states, .ref orr, .ref ot, .int bytes, .ref oh, .ref og, .ref od, .int reading, .int res.2.1, .int res.2.2.1, .int res.2.2.2, .long hh])), (ot, .inl (k 0, 120, .inl text))] tq9.heap) A) ([.ref o, .int a1] : List Value).toArray s 0 0 A) (F0 m 34 ls []) := by
      intro v1 v2 states bytes reading wrongAt hh text K hKK n
      induction n with
      | zero =>
        intro at_ number h
        rw [f_X6_takesNumber_L34] at h
        cases h
      | succ n ih =>
        intro at_ number h H locs hP hD hS ls hl
        rw [f_X6_takesNumber_L34] at h
        refine lv_aload_n hx hb dX6_takesNumber_34 rfl (lv_at hl 0 rfl) ?_
        refine lv_bipush (v := 48) hx hb dX6_takesNumber_35 (by decide) ?_
        refine lv_bipush (v := 57) hx hb dX6_takesNumber_37 (by decide) ?_
        obtain ⟨r3, h3, h⟩ := zb h
        refine zi (zrV (C := RX6) (T := TX6) (N := 14) (As := [.int 48, .int 57]) (rest := []) ⟨hx, hb, hml, hown, ht⟩ (c_X6_isAt l D k o on op orr ot oh og od states bytes reading at_ wrongAt number hh text 48 57 h3 _) (cwV 2 ht (gdV wb1078 wb1080 wb61 wb80 wb1081) rfl rfl rfl (by decide +kernel) ⟨Nat.le_of_ble_eq_true rfl, Nat.le_of_ble_eq_true rfl⟩) hK hP hD hS hA hm [0, 1] rfl rfl 0 6 rfl rfl rfl hl.1 rfl (Nat.le_of_ble_eq_true rfl) dX6_takesNumber_39 ⟨Nat.le_refl _, Nat.le_refl _⟩) hP hD hS hA [0, 1] rfl rfl (fun H locs hP hD hS => ?_)
        have hP : va_P D vwCl [(o, .inr (6, [.ref on, .ref op, .int states, .ref orr, .ref ot, .int bytes, .ref oh, .ref og, .ref od, .int reading, .int at_, .int wrongAt, .int number, .long hh])), (ot, .inl (k 0, 120, .inl text))] H := hP
        have hD : va_D A [(o, .inr (6, [.ref on, .ref op, .int states, .ref orr, .ref ot, .int bytes, .ref oh, .ref og, .ref od, .int reading, .int at_, .int wrongAt, .int number, .long hh])), (ot, .inl (k 0, 120, .inl text))] := hD
        refine lv_if_eq (tgt := 101) hx hb dX6_takesNumber_42 (by decide) (fun c2 => ?_) (fun c2 => ?_)
        · have h := zt h c2
          exact hKK _ _ h _ _ hP hD hS _ (lv_sub hl [0, 1, 2] rfl)
        · have h := zf h c2
          refine lv_aload_n hx hb dX6_takesNumber_45 rfl (lv_at hl 0 rfl) ?_
          refine va_get (D := D) (ci := 6) (v := .int at_) (C := RX6) (T := TX6) (N := 14) hx hb ht hiX6 hown hK hP 0 rfl rfl 10 (by decide) (ht _ wb775) (fun _ h9 => h9) rfl dX6_takesNumber_46 ?_
          refine lv_iload_n hx hb dX6_takesNumber_49 rfl (lv_at hl 2 rfl) ?_
          refine lv_iconst (v := 2) hx hb dX6_takesNumber_50 (by decide) ?_
          refine lv_iadd hx hb dX6_takesNumber_51 ?_
          refine lv_icmp_ne (tgt := 64) hx hb dX6_takesNumber_52 (by decide) (fun c1 => ?_) (fun c1 => ?_)
          · have h := zf h c1
            refine lv_aload_n hx hb dX6_takesNumber_64 rfl (lv_at hl 0 rfl) ?_
            refine lv_bipush (v := 10) hx hb dX6_takesNumber_65 (by decide) ?_
            refine lv_aload_n hx hb dX6_takesNumber_67 rfl (lv_at hl 0 rfl) ?_
            refine va_get (D := D) (ci := 6) (v := .int number) (C := RX6) (T := TX6) (N := 14) hx hb ht hiX6 hown hK hP 0 rfl rfl 12 (by decide) (ht _ wb777) (fun _ h9 => h9) rfl dX6_takesNumber_68 ?_
            refine lv_imul hx hb dX6_takesNumber_71 ?_
            refine lv_aload_n hx hb dX6_takesNumber_72 rfl (lv_at hl 0 rfl) ?_
            refine va_get (D := D) (ci := 6) (v := .ref ot) (C := RX6) (T := TX6) (N := 14) hx hb ht hiX6 hown hK hP 0 rfl rfl 4 (by decide) (ht _ wb769) (fun _ h9 => h9) rfl dX6_takesNumber_73 ?_
            refine lv_aload_n hx hb dX6_takesNumber_76 rfl (lv_at hl 0 rfl) ?_
            refine va_get (D := D) (ci := 6) (v := .int at_) (C := RX6) (T := TX6) (N := 14) hx hb ht hiX6 hown hK hP 0 rfl rfl 10 (by decide) (ht _ wb775) (fun _ h9 => h9) rfl dX6_takesNumber_77 ?_
            obtain ⟨hi1, h⟩ := zg h
            refine va_iald hx hb hK hP 1 0 rfl rfl hi1 dX6_takesNumber_80 ?_
            refine lv_iadd hx hb dX6_takesNumber_81 ?_
            refine lv_bipush (v := 48) hx hb dX6_takesNumber_82 (by decide) ?_
            refine lv_isub hx hb dX6_takesNumber_84 ?_
            refine va_put (D := D) (ci := 6) (v := .int (((10 * number) + (text (Int32.toNatClampNeg at_))) - 48)) (ty := .int) (C := RX6) (T := TX6) (N := 14) hx hb ht hiX6 tyX6 tyX6_ok nmX6 hown hK hP hD hS 0 rfl rfl 12 (by decide) (ht _ wb777) (fun _ h9 => h9) rfl (by decide +kernel) rfl rfl (Nat.le_of_ble_eq_true rfl) dX6_takesNumber_85 (fun H locs hP hD hS => ?_)
            have hP : va_P D vwCl [(o, .inr (6, [.ref on, .ref op, .int states, .ref orr, .ref ot, .int bytes, .ref oh, .ref og, .ref od, .int reading, .int at_, .int wrongAt, .int (((10 * number) + (text (Int32.toNatClampNeg at_))) - 48), .long hh])), (ot, .inl (k 0, 120, .inl text))] H := hP
            have hD : va_D A [(o, .inr (6, [.ref on, .ref op, .int states, .ref orr, .ref ot, .int bytes, .ref oh, .ref og, .ref od, .int reading, .int at_, .int wrongAt, .int (((10 * number) + (text (Int32.toNatClampNeg at_))) - 48), .long hh])), (ot, .inl (k 0, 120, .inl text))] := hD
            refine lv_aload_n hx hb dX6_takesNumber_88 rfl (lv_at hl 0 rfl) ?_
            refine lv_dup hx hb dX6_takesNumber_89 rfl ?_
            refine va_get (D := D) (ci := 6) (v := .int at_) (C := RX6) (T := TX6) (N := 14) hx hb ht hiX6 hown hK hP 0 rfl rfl 10 (by decide) (ht _ wb775) (fun _ h9 => h9) rfl dX6_takesNumber_90 ?_
            refine lv_iconst (v := 1) hx hb dX6_takesNumber_93 (by decide) ?_
            refine lv_iadd hx hb dX6_takesNumber_94 ?_
            refine va_put (D := D) (ci := 6) (v := .int (at_ + 1)) (ty := .int) (C := RX6) (T := TX6) (N := 14) hx hb ht hiX6 tyX6 tyX6_ok nmX6 hown hK hP hD hS 0 rfl rfl 10 (by decide) (ht _ wb775) (fun _ h9 => h9) rfl (by decide +kernel) rfl rfl (Nat.le_of_ble_eq_true rfl) dX6_takesNumber_95 (fun H locs hP hD hS => ?_)
            have hP : va_P D vwCl [(o, .inr (6, [.ref on, .ref op, .int states, .ref orr, .ref ot, .int bytes, .ref oh, .ref og, .ref od, .int reading, .int (at_ + 1), .int wrongAt, .int (((10 * number) + (text (Int32.toNatClampNeg at_))) - 48), .long hh])), (ot, .inl (k 0, 120, .inl text))] H := hP
            have hD : va_D A [(o, .inr (6, [.ref on, .ref op, .int states, .ref orr, .ref ot, .int bytes, .ref oh, .ref og, .ref od, .int reading, .int (at_ + 1), .int wrongAt, .int (((10 * number) + (text (Int32.toNatClampNeg at_))) - 48), .long hh])), (ot, .inl (k 0, 120, .inl text))] := hD
            refine lv_goto (tgt := 34) hx hb dX6_takesNumber_98 (by decide) ?_
            exact ih _ _ h _ _ hP hD hS _ (lv_sub hl [0, 1, 2] rfl)
          · have h := zt h c1
            refine lv_aload_n hx hb dX6_takesNumber_55 rfl (lv_at hl 0 rfl) ?_
            refine lv_aload_n hx hb dX6_takesNumber_56 rfl (lv_at hl 0 rfl) ?_
            refine va_get (D := D) (ci := 6) (v := .int at_) (C := RX6) (T := TX6) (N := 14) hx hb ht hiX6 hown hK hP 0 rfl rfl 10 (by decide) (ht _ wb775) (fun _ h9 => h9) rfl dX6_takesNumber_57 ?_
            obtain ⟨r4, h4, h⟩ := zb h
            refine zi (zrV (C := RX6) (T := TX6) (N := 14) (As := [.int at_]) (rest := []) ⟨hx, hb, hml, hown, ht⟩ (c_X6_fails l D k o on op orr ot oh og od states bytes reading at_ wrongAt number hh at_ h4 _) (cwV 1 ht (gdV wb1086 wb1088 wb63 wb80 wb1089) rfl rfl rfl (by decide +kernel) ⟨Nat.le_of_ble_eq_true rfl, Nat.le_of_ble_eq_true rfl⟩) hK hP hD hS hA hm [0] rfl rfl 0 6 rfl rfl rfl hl.1 rfl (Nat.le_of_ble_eq_true rfl) dX6_takesNumber_60 ⟨Nat.le_refl _, Nat.le_refl _⟩) hP hD hS hA [0] rfl rfl (fun H locs hP hD hS => ?_)
            have hP : va_P D vwCl [(o, .inr (6, [.ref on, .ref op, .int states, .ref orr, .ref ot, .int bytes, .ref oh, .ref og, .ref od, .int reading, .int at_, .int r4.2, .int number, .long hh])), (ot, .inl (k 0, 120, .inl text))] H := hP
            have hD : va_D A [(o, .inr (6, [.ref on, .ref op, .int states, .ref orr, .ref ot, .int bytes, .ref oh, .ref og, .ref od, .int reading, .int at_, .int r4.2, .int number, .long hh])), (ot, .inl (k 0, 120, .inl text))] := hD
            obtain rfl := Option.some.inj h
            exact W.zret (v := zB r4.1) (ty := .boolean) hx hb hr (zB_nar _) (fun t ht9 hW => ⟨⟨_, (), rfl, rfl, zend ht9 hP⟩, hS.F ht9⟩) hS.2.2 dX6_takesNumber_63
    refine loop34 _ _ _ _ _ _ _ _ _ ?_ fu _ _ h _ _ hP hD hS _ (lv_sub hl [1, 2, 0] rfl)
    intro x1 x2 h H locs hP hD hS ls hl
    try dsimp only at h
    have hP : va_P D vwCl [(o, .inr (6, [.ref on, .ref op, .int states, .ref orr, .ref ot, .int bytes, .ref oh, .ref og, .ref od, .int reading, .int x1, .int wrongAt, .int x2, .long hh])), (ot, .inl (k 0, 120, .inl text))] H := hP
    have hD : va_D A [(o, .inr (6, [.ref on, .ref op, .int states, .ref orr, .ref ot, .int bytes, .ref oh, .ref og, .ref od, .int reading, .int x1, .int wrongAt, .int x2, .long hh])), (ot, .inl (k 0, 120, .inl text))] := hD
    have hl : lv_has ls 3 [(0, .ref o), (1, .int a1), (2, .int r1)] := hl
    refine lv_aload_n hx hb dX6_takesNumber_101 rfl (lv_at hl 0 rfl) ?_
    refine va_get (D := D) (ci := 6) (v := .int x2) (C := RX6) (T := TX6) (N := 14) hx hb ht hiX6 hown hK hP 0 rfl rfl 12 (by decide) (ht _ wb777) (fun _ h9 => h9) rfl dX6_takesNumber_102 ?_
    refine lv_iload_n hx hb dX6_takesNumber_105 rfl (lv_at hl 1 rfl) ?_
    refine lv_icmp_le (tgt := 117) hx hb dX6_takesNumber_106 (by decide) (fun c4 => ?_) (fun c4 => ?_)
    · have h := zt h c4
      refine lv_iconst (v := 1) hx hb dX6_takesNumber_117 (by decide) ?_
      refine lv_goto (tgt := 122) hx hb dX6_takesNumber_118 (by decide) ?_
      obtain rfl := Option.some.inj h
      exact W.zret (v := 1) (ty := .boolean) hx hb hr (rfl) (fun t ht9 hW => ⟨⟨_, (), rfl, rfl, zend ht9 hP⟩, hS.F ht9⟩) hS.2.2 dX6_takesNumber_122
    · have h := zf h c4
      refine lv_aload_n hx hb dX6_takesNumber_109 rfl (lv_at hl 0 rfl) ?_
      refine lv_iload_n hx hb dX6_takesNumber_110 rfl (lv_at hl 2 rfl) ?_
      obtain ⟨r5, h5, h⟩ := zb h
      refine zi (zrV (C := RX6) (T := TX6) (N := 14) (As := [.int r1]) (rest := []) ⟨hx, hb, hml, hown, ht⟩ (c_X6_fails l D k o on op orr ot oh og od states bytes reading x1 wrongAt x2 hh r1 h5 _) (cwV 1 ht (gdV wb1086 wb1088 wb63 wb80 wb1089) rfl rfl rfl (by decide +kernel) ⟨Nat.le_of_ble_eq_true rfl, Nat.le_of_ble_eq_true rfl⟩) hK hP hD hS hA hm [0] rfl rfl 0 6 rfl rfl rfl hl.1 rfl (Nat.le_of_ble_eq_true rfl) dX6_takesNumber_111 ⟨Nat.le_refl _, Nat.le_refl _⟩) hP hD hS hA [0] rfl rfl (fun H locs hP hD hS => ?_)
      have hP : va_P D vwCl [(o, .inr (6, [.ref on, .ref op, .int states, .ref orr, .ref ot, .int bytes, .ref oh, .ref og, .ref od, .int reading, .int x1, .int r5.2, .int x2, .long hh])), (ot, .inl (k 0, 120, .inl text))] H := hP
      have hD : va_D A [(o, .inr (6, [.ref on, .ref op, .int states, .ref orr, .ref ot, .int bytes, .ref oh, .ref og, .ref od, .int reading, .int x1, .int r5.2, .int x2, .long hh])), (ot, .inl (k 0, 120, .inl text))] := hD
      refine lv_if_eq (tgt := 121) hx hb dX6_takesNumber_114 (by decide) (fun c3 => ?_) (fun c3 => ?_)
      · have h := zt h c3
        refine lv_iconst (v := 0) hx hb dX6_takesNumber_121 (by decide) ?_
        obtain rfl := Option.some.inj h
        exact W.zret (v := 0) (ty := .boolean) hx hb hr (rfl) (fun t ht9 hW => ⟨⟨_, (), rfl, rfl, zend ht9 hP⟩, hS.F ht9⟩) hS.2.2 dX6_takesNumber_122
      · have h := zf h c3
        refine lv_iconst (v := 1) hx hb dX6_takesNumber_117 (by decide) ?_
        refine lv_goto (tgt := 122) hx hb dX6_takesNumber_118 (by decide) ?_
        obtain rfl := Option.some.inj h
        exact W.zret (v := 1) (ty := .boolean) hx hb hr (rfl) (fun t ht9 hW => ⟨⟨_, (), rfl, rfl, zend ht9 hP⟩, hS.F ht9⟩) hS.2.2 dX6_takesNumber_122
  · have h := zt h c5
    refine lv_aload_n hx hb dX6_takesNumber_15 rfl (lv_at hl 0 rfl) ?_
    refine lv_aload_n hx hb dX6_takesNumber_16 rfl (lv_at hl 0 rfl) ?_
    refine va_get (D := D) (ci := 6) (v := .int r1) (C := RX6) (T := TX6) (N := 14) hx hb ht hiX6 hown hK hP 0 rfl rfl 10 (by decide) (ht _ wb775) (fun _ h9 => h9) rfl dX6_takesNumber_17 ?_
    obtain ⟨r6, h6, h⟩ := zb h
    refine zi (zrV (C := RX6) (T := TX6) (N := 14) (As := [.int r1]) (rest := []) ⟨hx, hb, hml, hown, ht⟩ (c_X6_fails l D k o on op orr ot oh og od states bytes reading r1 wrongAt number hh r1 h6 _) (cwV 1 ht (gdV wb1086 wb1088 wb63 wb80 wb1089) rfl rfl rfl (by decide +kernel) ⟨Nat.le_of_ble_eq_true rfl, Nat.le_of_ble_eq_true rfl⟩) hK hP hD hS hA hm [0] rfl rfl 0 6 rfl rfl rfl hl.1 rfl (Nat.le_of_ble_eq_true rfl) dX6_takesNumber_20 ⟨Nat.le_refl _, Nat.le_refl _⟩) hP hD hS hA [0] rfl rfl (fun H locs hP hD hS => ?_)
    have hP : va_P D vwCl [(o, .inr (6, [.ref on, .ref op, .int states, .ref orr, .ref ot, .int bytes, .ref oh, .ref og, .ref od, .int reading, .int r1, .int r6.2, .int number, .long hh])), (ot, .inl (k 0, 120, .inl text))] H := hP
    have hD : va_D A [(o, .inr (6, [.ref on, .ref op, .int states, .ref orr, .ref ot, .int bytes, .ref oh, .ref og, .ref od, .int reading, .int r1, .int r6.2, .int number, .long hh])), (ot, .inl (k 0, 120, .inl text))] := hD
    obtain rfl := Option.some.inj h
    exact W.zret (v := zB r6.1) (ty := .boolean) hx hb hr (zB_nar _) (fun t ht9 hW => ⟨⟨_, (), rfl, rfl, zend ht9 hP⟩, hS.F ht9⟩) hS.2.2 dX6_takesNumber_23
def f_X6_takesNumbers_L3 (fu : Nat) (K : Int32 → Int32 → Int32 → Int32 → (Nat → Int32) → Option (Bool × Int32 × Int32 × Int32 × (Nat → Int32))) (v1 : Int32) (v2 : Int32) (v3 : Int32) (bytes : Int32) (reading : Int32) (text : Nat → Int32) : Nat → Int32 → Int32 → Int32 → Int32 → (Nat → Int32) → Option (Bool × Int32 × Int32 × Int32 × (Nat → Int32))
  | 0, _, _, _, _, _ => none
  | n + 1, v4, at_, wrongAt, number, rread =>
  if v2 ≤ v4 then (K v4 at_ wrongAt number rread) else ((f_X6_takesNumber fu bytes at_ wrongAt number text v3).bind fun r1 => if (zB r1.1) = 0 then (some (false, r1.2.1, r1.2.2.1, r1.2.2.2, rread)) else (if zok (((11 * reading) + v1) + v4) 132 then (f_X6_takesNumbers_L3 fu K v1 v2 v3 bytes reading text n (v4 + 1) r1.2.1 r1.2.2.1 r1.2.2.2 (upd rread (Int32.toNatClampNeg (((11 * reading) + v1) + v4)) r1.2.2.2)) else none))
def f_X6_takesNumbers (fu : Nat) (bytes : Int32) (reading : Int32) (at_ : Int32) (wrongAt : Int32) (number : Int32) (text : Nat → Int32) (rread : Nat → Int32) (a1 : Int32) (a2 : Int32) (a3 : Int32) : Option (Bool × Int32 × Int32 × Int32 × (Nat → Int32)) :=
  f_X6_takesNumbers_L3 fu (fun (x1 : Int32) (x2 : Int32) (x3 : Int32) (x4 : Int32) (x5 : Nat → Int32) => some (true, x2, x3, x4, x5)) a1 a2 a3 bytes reading text fu 0 at_ wrongAt number rread
abbrev wk_X6_takesNumbers : List Cond := Cond.code yX6_takesNumbers cX6_takesNumbers 5 (some .boolean) :: WB
abbrev rm_X6_takesNumbers : Room := { frames := 4, cells := 0, slots := 0, locals := 86 }
set_option maxHeartbeats 4000000 in
set_option maxRecDepth 100000 in
theorem c_X6_takesNumbers (l : Launch) (D : va_G) (k : Nat → Nat) (o on op orr ot oh og od : Nat) (states : Int32) (bytes : Int32) (reading : Int32) (at_ : Int32) (wrongAt : Int32) (number : Int32) (hh : Int64) (text : Nat → Int32) (rread : Nat → Int32) (a1 : Int32) (a2 : Int32) (a3 : Int32) (fu : Nat) {res : Bool × Int32 × Int32 × Int32 × (Nat → Int32)} (h : f_X6_takesNumbers fu bytes reading at_ wrongAt number text rread a1 a2 a3 = some res) : Ci l yX6_takesNumbers wk_X6_takesNumbers rm_X6_takesNumbers D k [.ref o, .int a1, .int a2, .int a3] [(o, .inr (6, [.ref on, .ref op, .int states, .ref orr, .ref ot, .int bytes, .ref oh, .ref og, .ref od, .int reading, .int at_, .int wrongAt, .int number, .long hh])), (ot, .inl (k 0, 120, .inl text)), (od, .inl (k 0, 132, .inl rread))] [(o, .inr (6, [.ref on, .ref op, .int states, .ref orr, .ref ot, .int bytes, .ref oh, .ref og, .ref od, .int reading, .int res.2.1, .int res.2.2.1, .int res.2.2.2.1, .long hh])), (ot, .inl (k 0, 120, .inl text)), (od, .inl (k 0, 132, .inl res.2.2.2.2))] (zB res.1) := by
  unfold Ci
  intro sz
  refine Met.ofW (cc := cX6_takesNumbers) (maxL := 5) (ret := (some .boolean)) (by decide) rfl ?_
  intro p e s m args below meth c s₁ B hml hv
  obtain ⟨rfl, hsz, hP, hK, hD0, hm⟩ := hv
  have hx := B.exec
  have hb := B.bytes
  have hr := B.returns
  have ht : ∀ w ∈ WB, w.before _ s = true := fun w hw => atoms_spec (ws := wk_X6_takesNumbers) B.pre w (List.mem_cons_of_mem _ hw)
  have hown : s.vm.findClass RX6 = some m.cls := findClass_of_methodNamed B.named
  have hlocks := B.notSynchronized
  subst hsz
  have hD := hD0.self (sz := s.heap.size)
  generalize hAe : va_A [(o, .inr (6, [.ref on, .ref op, .int states, .ref orr, .ref ot, .int bytes, .ref oh, .ref og, .ref od, .int reading, .int at_, .int wrongAt, .int number, .long hh])), (ot, .inl (k 0, 120, .inl text)), (od, .inl (k 0, 132, .inl rread))] s.heap.size = A at hD hm ⊢
  have hA : ∀ q : Nat, s.heap.size ≤ q → A q := fun q h => by rw [← hAe]; exact Or.inr h
  have hS : va_S A s.heap s.heap [] := va_S.rf
  have hl := lv_entry ([.ref o, .int a1, .int a2, .int a3]) (n := 5) (Nat.le_of_ble_eq_true rfl)
  rw [lg_entry_eq]
  generalize (lg_sl ([.ref o, .int a1, .int a2, .int a3]) ++ List.replicate (5 - (lg_sl ([.ref o, .int a1, .int a2, .int a3])).length) Slot.unset).toArray = ls at hl ⊢
  have hl : lv_has ls 5 [(0, .ref o), (1, .int a1), (2, .int a2), (3, .int a3)] := hl
  obtain ⟨H, hH⟩ : ∃ H, H = s.heap := ⟨_, rfl⟩
  rw [← hH] at hP
  have hS : va_S A s.heap H [] := by rw [hH]; exact hS
  suffices hgo : W p l e _ s m _ below meth c H [] 0 0 _ _ by rw [hH] at hgo; exact hgo
  unfold f_X6_takesNumbers at h
  refine lv_iconst (v := 0) hx hb dX6_takesNumbers_0 (by decide) ?_
  refine lv_istore (lv' := [(4, .int 0), (0, .ref o), (1, .int a1), (2, .int a2), (3, .int a3)]) hx hb dX6_takesNumbers_1 hl (by decide) rfl (fun ls hl => ?_)
  have loop3 : ∀ (v1 : Int32) (v2 : Int32) (v3 : Int32) (states : Int32) (bytes : Int32) (reading : Int32) (hh : Int64) (text : Nat → Int32), ∀ (K : Int32 → Int32 → Int32 → Int32 → (Nat → Int32) → Option (Bool × Int32 × Int32 × Int32 × (Nat → Int32))), (∀ (v4 : Int32) (at_ : Int32) (wrongAt : Int32) (number : Int32) (rread : Nat → Int32), K v4 at_ wrongAt number rread = some res → ∀ (H : Heap) (locs : List Loc), va_P D vwCl [(o, .inr (6, [.ref on, .ref op, .int states, .ref orr, .ref ot, .int bytes, .ref oh, .ref og, .ref od, .int reading, .int at_, .int wrongAt, .int number, .long hh])), (ot, .inl (k 0, 120, .inl text)), (od, .inl (k 0, 132, .inl rread))] H → va_D A [(o, .inr (6, [.ref on, .ref op, .int states, .ref orr, .ref ot, .int bytes, .ref oh, .ref og, .ref od, .int reading, .int at_, .int wrongAt, .int number, .long hh])), (ot, .inl (k 0, 120, .inl text)), (od, .inl (k 0, 132, .inl rread))] → va_S A s.heap H locs → ∀ ls : Array Slot, lv_has ls 5 [(0, .ref o), (1, .int v1), (2, .int v2), (3, .int v3), (4, .int v4)] → W p l e (headSpec wk_X6_takesNumbers rm_X6_takesNumbers).room s m ([.ref o, .int a1, .int a2, .int a3] : List Value).toArray below meth c H locs 0 0 (MQ below (va_Qi (fun xq9 (_ : Unit) => xq9 = zB res.1) (fun _ tq9 => va_P D vwCl [(o, .inr (6, [.ref on, .ref op, .int states, .ref orr, .ref ot, .int bytes, .ref oh, .ref og, .ref od, .int reading, .int res.2.1, .int res.2.2.1, .int res.2.2.2.1, .long hh])), (ot, .inl (k 0, 120, .inl text)), (od, .inl (k 0, 132, .inl res.2.2.2.2))] tq9.heap) A) ([.ref o, .int a1, .int a2, .int a3] : List Value).toArray s 0 0 A) (F0 m 46 ls [])) → ∀ (n : Nat) (v4 : Int32) (at_ : Int32) (wrongAt : Int32) (number : Int32) (rread : Nat → Int32), f_X6_takesNumbers_L3 fu K v1 v2 v3 bytes reading text n v4 at_ wrongAt number rread = some res → ∀ (H : Heap) (locs : List Loc), va_P D vwCl [(o, .inr (6, [.ref on, .ref op, .int states, .ref orr, .ref ot, .int bytes, .ref oh, .ref og, .ref od, .int reading, .int at_, .int wrongAt, .int number, .long hh])), (ot, .inl (k 0, 120, .inl text)), (od, .inl (k 0, 132, .inl rread))] H → va_D A [(o, .inr (6, [.ref on, .ref op, .int states, .ref orr, .ref ot, .int bytes, .ref oh, .ref og, .ref od, .int reading, .int at_, .int wrongAt, .int number, .long hh])), (ot, .inl (k 0, 120, .inl text)), (od, .inl (k 0, 132, .inl rread))] → va_S A s.heap H locs → ∀ ls : Array Slot, lv_has ls 5 [(0, .ref o), (1, .int v1), (2, .int v2), (3, .int v3), (4, .int v4)] → W p l e (headSpec wk_X6_takesNumbers rm_X6_takesNumbers).room s m ([.ref o, .int a1, .int a2, .int a3] : List Value).toArray below meth c H locs 0 0 (MQ below (va_Qi (fun xq9 (_ : Unit) => xq9 = zB res.1) (fun _ tq9 => va_P D vwCl [(o, .inr (6, [.ref on, .ref op, .int states, .ref orr, .ref ot, .int bytes, .ref oh, .ref og, .ref od, .int reading, .int res.2.1, .int res.2.2.1, .int res.2.2.2.1, .long hh])), (ot, .inl (k 0, 120, .inl text)), (od, .inl (k 0, 132, .inl res.2.2.2.2))] tq9.heap) A) ([.ref o, .int a1, .int a2, .int a3] : List Value).toArray s 0 0 A) (F0 m 3 ls []) := by
    intro v1 v2 v3 states bytes reading hh text K hKK n
    induction n with
    | zero =>
      intro v4 at_ wrongAt number rread h
      rw [f_X6_takesNumbers_L3] at h
      cases h
    | succ n ih =>
      intro v4 at_ wrongAt number rread h H locs hP hD hS ls hl
      rw [f_X6_takesNumbers_L3] at h
      refine lv_iload hx hb dX6_takesNumbers_3 (lv_at hl 4 rfl) ?_
      refine lv_iload_n hx hb dX6_takesNumbers_5 rfl (lv_at hl 2 rfl) ?_
      refine lv_icmp_ge (tgt := 46) hx hb dX6_takesNumbers_6 (by decide) (fun c2 => ?_) (fun c2 => ?_)
      · have h := zt h c2
        exact hKK _ _ _ _ _ h _ _ hP hD hS _ (lv_sub hl [0, 1, 2, 3, 4] rfl)
      · have h := zf h c2
        refine lv_aload_n hx hb dX6_takesNumbers_9 rfl (lv_at hl 0 rfl) ?_
        refine lv_iload_n hx hb dX6_takesNumbers_10 rfl (lv_at hl 3 rfl) ?_
        obtain ⟨r1, h1, h⟩ := zb h
        refine zi (zrV (C := RX6) (T := TX6) (N := 14) (As := [.int v3]) (rest := []) ⟨hx, hb, hml, hown, ht⟩ (c_X6_takesNumber l D k o on op orr ot oh og od states bytes reading at_ wrongAt number hh text v3 fu h1 _) (cwV 1 ht (gdV wb1118 wb1120 wb68 wb80 wb1121) rfl rfl rfl (by decide +kernel) ⟨Nat.le_of_ble_eq_true rfl, Nat.le_of_ble_eq_true rfl⟩) hK hP hD hS hA hm [0, 1] rfl rfl 0 6 rfl rfl rfl hl.1 rfl (Nat.le_of_ble_eq_true rfl) dX6_takesNumbers_11 ⟨Nat.le_refl _, Nat.le_refl _⟩) hP hD hS hA [0, 1] rfl rfl (fun H locs hP hD hS => ?_)
        have hP : va_P D vwCl [(o, .inr (6, [.ref on, .ref op, .int states, .ref orr, .ref ot, .int bytes, .ref oh, .ref og, .ref od, .int reading, .int r1.2.1, .int r1.2.2.1, .int r1.2.2.2, .long hh])), (ot, .inl (k 0, 120, .inl text)), (od, .inl (k 0, 132, .inl rread))] H := hP
        have hD : va_D A [(o, .inr (6, [.ref on, .ref op, .int states, .ref orr, .ref ot, .int bytes, .ref oh, .ref og, .ref od, .int reading, .int r1.2.1, .int r1.2.2.1, .int r1.2.2.2, .long hh])), (ot, .inl (k 0, 120, .inl text)), (od, .inl (k 0, 132, .inl rread))] := hD
        refine lv_if_ne (tgt := 19) hx hb dX6_takesNumbers_14 (by decide) (fun c1 => ?_) (fun c1 => ?_)
        · have h := zf h c1
          refine lv_aload_n hx hb dX6_takesNumbers_19 rfl (lv_at hl 0 rfl) ?_
          refine va_get (D := D) (ci := 6) (v := .ref od) (C := RX6) (T := TX6) (N := 14) hx hb ht hiX6 hown hK hP 0 rfl rfl 8 (by decide) (ht _ wb773) (fun _ h9 => h9) rfl dX6_takesNumbers_20 ?_
          refine lv_bipush (v := 11) hx hb dX6_takesNumbers_23 (by decide) ?_
          refine lv_aload_n hx hb dX6_takesNumbers_25 rfl (lv_at hl 0 rfl) ?_
          refine va_get (D := D) (ci := 6) (v := .int reading) (C := RX6) (T := TX6) (N := 14) hx hb ht hiX6 hown hK hP 0 rfl rfl 9 (by decide) (ht _ wb774) (fun _ h9 => h9) rfl dX6_takesNumbers_26 ?_
          refine lv_imul hx hb dX6_takesNumbers_29 ?_
          refine lv_iload_n hx hb dX6_takesNumbers_30 rfl (lv_at hl 1 rfl) ?_
          refine lv_iadd hx hb dX6_takesNumbers_31 ?_
          refine lv_iload hx hb dX6_takesNumbers_32 (lv_at hl 4 rfl) ?_
          refine lv_iadd hx hb dX6_takesNumbers_34 ?_
          refine lv_aload_n hx hb dX6_takesNumbers_35 rfl (lv_at hl 0 rfl) ?_
          refine va_get (D := D) (ci := 6) (v := .int r1.2.2.2) (C := RX6) (T := TX6) (N := 14) hx hb ht hiX6 hown hK hP 0 rfl rfl 12 (by decide) (ht _ wb777) (fun _ h9 => h9) rfl dX6_takesNumbers_36 ?_
          obtain ⟨hi1, h⟩ := zg h
          refine va_iast hx hb hK hP hD hS 2 0 rfl rfl hi1 dX6_takesNumbers_39 (fun H locs hP hD hS => ?_)
          have hP : va_P D vwCl [(o, .inr (6, [.ref on, .ref op, .int states, .ref orr, .ref ot, .int bytes, .ref oh, .ref og, .ref od, .int reading, .int r1.2.1, .int r1.2.2.1, .int r1.2.2.2, .long hh])), (ot, .inl (k 0, 120, .inl text)), (od, .inl (k 0, 132, .inl (upd rread (Int32.toNatClampNeg (((11 * reading) + v1) + v4)) r1.2.2.2)))] H := hP
          have hD : va_D A [(o, .inr (6, [.ref on, .ref op, .int states, .ref orr, .ref ot, .int bytes, .ref oh, .ref og, .ref od, .int reading, .int r1.2.1, .int r1.2.2.1, .int r1.2.2.2, .long hh])), (ot, .inl (k 0, 120, .inl text)), (od, .inl (k 0, 132, .inl (upd rread (Int32.toNatClampNeg (((11 * reading) + v1) + v4)) r1.2.2.2)))] := hD
          refine lv_iinc (v := v4 + 1) (lv' := [(4, .int (v4 + 1)), (0, .ref o), (1, .int v1), (2, .int v2), (3, .int v3)]) hx hb dX6_takesNumbers_40 hl (k := 4) rfl rfl (by decide) rfl (fun ls hl => ?_)
          refine lv_goto (tgt := 3) hx hb dX6_takesNumbers_43 (by decide) ?_
          exact ih _ _ _ _ _ h _ _ hP hD hS _ (lv_sub hl [1, 2, 3, 4, 0] rfl)
        · have h := zt h c1
          refine lv_iconst (v := 0) hx hb dX6_takesNumbers_17 (by decide) ?_
          obtain rfl := Option.some.inj h
          exact W.zret (v := 0) (ty := .boolean) hx hb hr (rfl) (fun t ht9 hW => ⟨⟨_, (), rfl, rfl, zend ht9 hP⟩, hS.F ht9⟩) hS.2.2 dX6_takesNumbers_18
  refine loop3 _ _ _ _ _ _ _ _ _ ?_ fu _ _ _ _ _ h _ _ hP hD hS _ (lv_sub hl [1, 2, 3, 4, 0] rfl)
  intro x1 x2 x3 x4 x5 h H locs hP hD hS ls hl
  try dsimp only at h
  have hP : va_P D vwCl [(o, .inr (6, [.ref on, .ref op, .int states, .ref orr, .ref ot, .int bytes, .ref oh, .ref og, .ref od, .int reading, .int x2, .int x3, .int x4, .long hh])), (ot, .inl (k 0, 120, .inl text)), (od, .inl (k 0, 132, .inl x5))] H := hP
  have hD : va_D A [(o, .inr (6, [.ref on, .ref op, .int states, .ref orr, .ref ot, .int bytes, .ref oh, .ref og, .ref od, .int reading, .int x2, .int x3, .int x4, .long hh])), (ot, .inl (k 0, 120, .inl text)), (od, .inl (k 0, 132, .inl x5))] := hD
  have hl : lv_has ls 5 [(0, .ref o), (1, .int a1), (2, .int a2), (3, .int a3), (4, .int x1)] := hl
  refine lv_iconst (v := 1) hx hb dX6_takesNumbers_46 (by decide) ?_
  obtain rfl := Option.some.inj h
  exact W.zret (v := 1) (ty := .boolean) hx hb hr (rfl) (fun t ht9 hW => ⟨⟨_, (), rfl, rfl, zend ht9 hP⟩, hS.F ht9⟩) hS.2.2 dX6_takesNumbers_47
def f_X6_takesPart (fu : Nat) (bytes : Int32) (reading : Int32) (at_ : Int32) (wrongAt : Int32) (number : Int32) (text : Nat → Int32) (rread : Nat → Int32) (a1 : Int32) : Option (Bool × Int32 × Int32 × Int32 × (Nat → Int32)) :=
  if a1 = 3 then ((f_X6_takesNumbers fu bytes reading at_ wrongAt number text rread 0 1 6).bind fun r5 => some (r5.1, r5.2.1, r5.2.2.1, r5.2.2.2.1, r5.2.2.2.2)) else (if a1 = 4 then ((f_X6_takesNumbers fu bytes reading at_ wrongAt number text rread 1 1 6).bind fun r4 => some (r4.1, r4.2.1, r4.2.2.1, r4.2.2.2.1, r4.2.2.2.2)) else (if a1 = 5 then ((f_X6_takesNumbers fu bytes reading at_ wrongAt number text rread 2 2 31).bind fun r3 => some (r3.1, r3.2.1, r3.2.2.1, r3.2.2.2.1, r3.2.2.2.2)) else (if a1 = 6 then ((f_X6_takesNumbers fu bytes reading at_ wrongAt number text rread 4 2 31).bind fun r2 => some (r2.1, r2.2.1, r2.2.2.1, r2.2.2.2.1, r2.2.2.2.2)) else (if a1 = 7 then ((f_X6_takesNumbers fu bytes reading at_ wrongAt number text rread 6 2 15).bind fun r1 => some (r1.1, r1.2.1, r1.2.2.1, r1.2.2.2.1, r1.2.2.2.2)) else (if zok ((11 * reading) + 8) 132 then (some (true, at_, wrongAt, number, upd rread (Int32.toNatClampNeg ((11 * reading) + 8)) (a1 - 8))) else none)))))
abbrev wk_X6_takesPart : List Cond := Cond.code yX6_takesPart cX6_takesPart 2 (some .boolean) :: WB
abbrev rm_X6_takesPart : Room := { frames := 5, cells := 0, slots := 0, locals := 110 }
set_option maxHeartbeats 4000000 in
set_option maxRecDepth 100000 in
theorem c_X6_takesPart (l : Launch) (D : va_G) (k : Nat → Nat) (o on op orr ot oh og od : Nat) (states : Int32) (bytes : Int32) (reading : Int32) (at_ : Int32) (wrongAt : Int32) (number : Int32) (hh : Int64) (text : Nat → Int32) (rread : Nat → Int32) (a1 : Int32) (fu : Nat) {res : Bool × Int32 × Int32 × Int32 × (Nat → Int32)} (h : f_X6_takesPart fu bytes reading at_ wrongAt number text rread a1 = some res) : Ci l yX6_takesPart wk_X6_takesPart rm_X6_takesPart D k [.ref o, .int a1] [(o, .inr (6, [.ref on, .ref op, .int states, .ref orr, .ref ot, .int bytes, .ref oh, .ref og, .ref od, .int reading, .int at_, .int wrongAt, .int number, .long hh])), (ot, .inl (k 0, 120, .inl text)), (od, .inl (k 0, 132, .inl rread))] [(o, .inr (6, [.ref on, .ref op, .int states, .ref orr, .ref ot, .int bytes, .ref oh, .ref og, .ref od, .int reading, .int res.2.1, .int res.2.2.1, .int res.2.2.2.1, .long hh])), (ot, .inl (k 0, 120, .inl text)), (od, .inl (k 0, 132, .inl res.2.2.2.2))] (zB res.1) := by
  unfold Ci
  intro sz
  refine Met.ofW (cc := cX6_takesPart) (maxL := 2) (ret := (some .boolean)) (by decide) rfl ?_
  intro p e s m args below meth c s₁ B hml hv
  obtain ⟨rfl, hsz, hP, hK, hD0, hm⟩ := hv
  have hx := B.exec
  have hb := B.bytes
  have hr := B.returns
  have ht : ∀ w ∈ WB, w.before _ s = true := fun w hw => atoms_spec (ws := wk_X6_takesPart) B.pre w (List.mem_cons_of_mem _ hw)
  have hown : s.vm.findClass RX6 = some m.cls := findClass_of_methodNamed B.named
  have hlocks := B.notSynchronized
  subst hsz
  have hD := hD0.self (sz := s.heap.size)
  generalize hAe : va_A [(o, .inr (6, [.ref on, .ref op, .int states, .ref orr, .ref ot, .int bytes, .ref oh, .ref og, .ref od, .int reading, .int at_, .int wrongAt, .int number, .long hh])), (ot, .inl (k 0, 120, .inl text)), (od, .inl (k 0, 132, .inl rread))] s.heap.size = A at hD hm ⊢
  have hA : ∀ q : Nat, s.heap.size ≤ q → A q := fun q h => by rw [← hAe]; exact Or.inr h
  have hS : va_S A s.heap s.heap [] := va_S.rf
  have hl := lv_entry ([.ref o, .int a1]) (n := 2) (Nat.le_of_ble_eq_true rfl)
  rw [lg_entry_eq]
  generalize (lg_sl ([.ref o, .int a1]) ++ List.replicate (2 - (lg_sl ([.ref o, .int a1])).length) Slot.unset).toArray = ls at hl ⊢
  have hl : lv_has ls 2 [(0, .ref o), (1, .int a1)] := hl
  obtain ⟨H, hH⟩ : ∃ H, H = s.heap := ⟨_, rfl⟩
  rw [← hH] at hP
  have hS : va_S A s.heap H [] := by rw [hH]; exact hS
  suffices hgo : W p l e _ s m _ below meth c H [] 0 0 _ _ by rw [hH] at hgo; exact hgo
  unfold f_X6_takesPart at h
  refine lv_iload_n hx hb dX6_takesPart_0 rfl (lv_at hl 1 rfl) ?_
  by_cases c1 : a1 = 3
  · have h := zt h c1
    refine lv_tableIn (off := 35) (tgt := 36) hx hb dX6_takesPart_1 (by rw [c1]; decide) (by rw [c1]; decide) (by rw [c1]; rfl) (by decide) ?_
    refine lv_aload_n hx hb dX6_takesPart_36 rfl (lv_at hl 0 rfl) ?_
    refine lv_iconst (v := 0) hx hb dX6_takesPart_37 (by decide) ?_
    refine lv_iconst (v := 1) hx hb dX6_takesPart_38 (by decide) ?_
    refine lv_bipush (v := 6) hx hb dX6_takesPart_39 (by decide) ?_
    obtain ⟨r5, h5, h⟩ := zb h
    refine zi (zrV (C := RX6) (T := TX6) (N := 14) (As := [.int 0, .int 1, .int 6]) (rest := []) ⟨hx, hb, hml, hown, ht⟩ (c_X6_takesNumbers l D k o on op orr ot oh og od states bytes reading at_ wrongAt number hh text rread 0 1 6 fu h5 _) (cwV 3 ht (gdV wb1114 wb1116 wb67 wb80 wb1117) rfl rfl rfl (by decide +kernel) ⟨Nat.le_of_ble_eq_true rfl, Nat.le_of_ble_eq_true rfl⟩) hK hP hD hS hA hm [0, 1, 2] rfl rfl 0 6 rfl rfl rfl hl.1 rfl (Nat.le_of_ble_eq_true rfl) dX6_takesPart_41 ⟨Nat.le_refl _, Nat.le_refl _⟩) hP hD hS hA [0, 1, 2] rfl rfl (fun H locs hP hD hS => ?_)
    have hP : va_P D vwCl [(o, .inr (6, [.ref on, .ref op, .int states, .ref orr, .ref ot, .int bytes, .ref oh, .ref og, .ref od, .int reading, .int r5.2.1, .int r5.2.2.1, .int r5.2.2.2.1, .long hh])), (ot, .inl (k 0, 120, .inl text)), (od, .inl (k 0, 132, .inl r5.2.2.2.2))] H := hP
    have hD : va_D A [(o, .inr (6, [.ref on, .ref op, .int states, .ref orr, .ref ot, .int bytes, .ref oh, .ref og, .ref od, .int reading, .int r5.2.1, .int r5.2.2.1, .int r5.2.2.2.1, .long hh])), (ot, .inl (k 0, 120, .inl text)), (od, .inl (k 0, 132, .inl r5.2.2.2.2))] := hD
    obtain rfl := Option.some.inj h
    exact W.zret (v := zB r5.1) (ty := .boolean) hx hb hr (zB_nar _) (fun t ht9 hW => ⟨⟨_, (), rfl, rfl, zend ht9 hP⟩, hS.F ht9⟩) hS.2.2 dX6_takesPart_44
  · have h := zf h c1
    by_cases c2 : a1 = 4
    · have h := zt h c2
      refine lv_tableIn (off := 44) (tgt := 45) hx hb dX6_takesPart_1 (by rw [c2]; decide) (by rw [c2]; decide) (by rw [c2]; rfl) (by decide) ?_
      refine lv_aload_n hx hb dX6_takesPart_45 rfl (lv_at hl 0 rfl) ?_
      refine lv_iconst (v := 1) hx hb dX6_takesPart_46 (by decide) ?_
      refine lv_iconst (v := 1) hx hb dX6_takesPart_47 (by decide) ?_
      refine lv_bipush (v := 6) hx hb dX6_takesPart_48 (by decide) ?_
      obtain ⟨r4, h4, h⟩ := zb h
      refine zi (zrV (C := RX6) (T := TX6) (N := 14) (As := [.int 1, .int 1, .int 6]) (rest := []) ⟨hx, hb, hml, hown, ht⟩ (c_X6_takesNumbers l D k o on op orr ot oh og od states bytes reading at_ wrongAt number hh text rread 1 1 6 fu h4 _) (cwV 3 ht (gdV wb1114 wb1116 wb67 wb80 wb1117) rfl rfl rfl (by decide +kernel) ⟨Nat.le_of_ble_eq_true rfl, Nat.le_of_ble_eq_true rfl⟩) hK hP hD hS hA hm [0, 1, 2] rfl rfl 0 6 rfl rfl rfl hl.1 rfl (Nat.le_of_ble_eq_true rfl) dX6_takesPart_50 ⟨Nat.le_refl _, Nat.le_refl _⟩) hP hD hS hA [0, 1, 2] rfl rfl (fun H locs hP hD hS => ?_)
      have hP : va_P D vwCl [(o, .inr (6, [.ref on, .ref op, .int states, .ref orr, .ref ot, .int bytes, .ref oh, .ref og, .ref od, .int reading, .int r4.2.1, .int r4.2.2.1, .int r4.2.2.2.1, .long hh])), (ot, .inl (k 0, 120, .inl text)), (od, .inl (k 0, 132, .inl r4.2.2.2.2))] H := hP
      have hD : va_D A [(o, .inr (6, [.ref on, .ref op, .int states, .ref orr, .ref ot, .int bytes, .ref oh, .ref og, .ref od, .int reading, .int r4.2.1, .int r4.2.2.1, .int r4.2.2.2.1, .long hh])), (ot, .inl (k 0, 120, .inl text)), (od, .inl (k 0, 132, .inl r4.2.2.2.2))] := hD
      obtain rfl := Option.some.inj h
      exact W.zret (v := zB r4.1) (ty := .boolean) hx hb hr (zB_nar _) (fun t ht9 hW => ⟨⟨_, (), rfl, rfl, zend ht9 hP⟩, hS.F ht9⟩) hS.2.2 dX6_takesPart_53
    · have h := zf h c2
      by_cases c3 : a1 = 5
      · have h := zt h c3
        refine lv_tableIn (off := 53) (tgt := 54) hx hb dX6_takesPart_1 (by rw [c3]; decide) (by rw [c3]; decide) (by rw [c3]; rfl) (by decide) ?_
        refine lv_aload_n hx hb dX6_takesPart_54 rfl (lv_at hl 0 rfl) ?_
        refine lv_iconst (v := 2) hx hb dX6_takesPart_55 (by decide) ?_
        refine lv_iconst (v := 2) hx hb dX6_takesPart_56 (by decide) ?_
        refine lv_bipush (v := 31) hx hb dX6_takesPart_57 (by decide) ?_
        obtain ⟨r3, h3, h⟩ := zb h
        refine zi (zrV (C := RX6) (T := TX6) (N := 14) (As := [.int 2, .int 2, .int 31]) (rest := []) ⟨hx, hb, hml, hown, ht⟩ (c_X6_takesNumbers l D k o on op orr ot oh og od states bytes reading at_ wrongAt number hh text rread 2 2 31 fu h3 _) (cwV 3 ht (gdV wb1114 wb1116 wb67 wb80 wb1117) rfl rfl rfl (by decide +kernel) ⟨Nat.le_of_ble_eq_true rfl, Nat.le_of_ble_eq_true rfl⟩) hK hP hD hS hA hm [0, 1, 2] rfl rfl 0 6 rfl rfl rfl hl.1 rfl (Nat.le_of_ble_eq_true rfl) dX6_takesPart_59 ⟨Nat.le_refl _, Nat.le_refl _⟩) hP hD hS hA [0, 1, 2] rfl rfl (fun H locs hP hD hS => ?_)
        have hP : va_P D vwCl [(o, .inr (6, [.ref on, .ref op, .int states, .ref orr, .ref ot, .int bytes, .ref oh, .ref og, .ref od, .int reading, .int r3.2.1, .int r3.2.2.1, .int r3.2.2.2.1, .long hh])), (ot, .inl (k 0, 120, .inl text)), (od, .inl (k 0, 132, .inl r3.2.2.2.2))] H := hP
        have hD : va_D A [(o, .inr (6, [.ref on, .ref op, .int states, .ref orr, .ref ot, .int bytes, .ref oh, .ref og, .ref od, .int reading, .int r3.2.1, .int r3.2.2.1, .int r3.2.2.2.1, .long hh])), (ot, .inl (k 0, 120, .inl text)), (od, .inl (k 0, 132, .inl r3.2.2.2.2))] := hD
        obtain rfl := Option.some.inj h
        exact W.zret (v := zB r3.1) (ty := .boolean) hx hb hr (zB_nar _) (fun t ht9 hW => ⟨⟨_, (), rfl, rfl, zend ht9 hP⟩, hS.F ht9⟩) hS.2.2 dX6_takesPart_62
      · have h := zf h c3
        by_cases c4 : a1 = 6
        · have h := zt h c4
          refine lv_tableIn (off := 62) (tgt := 63) hx hb dX6_takesPart_1 (by rw [c4]; decide) (by rw [c4]; decide) (by rw [c4]; rfl) (by decide) ?_
          refine lv_aload_n hx hb dX6_takesPart_63 rfl (lv_at hl 0 rfl) ?_
          refine lv_iconst (v := 4) hx hb dX6_takesPart_64 (by decide) ?_
          refine lv_iconst (v := 2) hx hb dX6_takesPart_65 (by decide) ?_
          refine lv_bipush (v := 31) hx hb dX6_takesPart_66 (by decide) ?_
          obtain ⟨r2, h2, h⟩ := zb h
          refine zi (zrV (C := RX6) (T := TX6) (N := 14) (As := [.int 4, .int 2, .int 31]) (rest := []) ⟨hx, hb, hml, hown, ht⟩ (c_X6_takesNumbers l D k o on op orr ot oh og od states bytes reading at_ wrongAt number hh text rread 4 2 31 fu h2 _) (cwV 3 ht (gdV wb1114 wb1116 wb67 wb80 wb1117) rfl rfl rfl (by decide +kernel) ⟨Nat.le_of_ble_eq_true rfl, Nat.le_of_ble_eq_true rfl⟩) hK hP hD hS hA hm [0, 1, 2] rfl rfl 0 6 rfl rfl rfl hl.1 rfl (Nat.le_of_ble_eq_true rfl) dX6_takesPart_68 ⟨Nat.le_refl _, Nat.le_refl _⟩) hP hD hS hA [0, 1, 2] rfl rfl (fun H locs hP hD hS => ?_)
          have hP : va_P D vwCl [(o, .inr (6, [.ref on, .ref op, .int states, .ref orr, .ref ot, .int bytes, .ref oh, .ref og, .ref od, .int reading, .int r2.2.1, .int r2.2.2.1, .int r2.2.2.2.1, .long hh])), (ot, .inl (k 0, 120, .inl text)), (od, .inl (k 0, 132, .inl r2.2.2.2.2))] H := hP
          have hD : va_D A [(o, .inr (6, [.ref on, .ref op, .int states, .ref orr, .ref ot, .int bytes, .ref oh, .ref og, .ref od, .int reading, .int r2.2.1, .int r2.2.2.1, .int r2.2.2.2.1, .long hh])), (ot, .inl (k 0, 120, .inl text)), (od, .inl (k 0, 132, .inl r2.2.2.2.2))] := hD
          obtain rfl := Option.some.inj h
          exact W.zret (v := zB r2.1) (ty := .boolean) hx hb hr (zB_nar _) (fun t ht9 hW => ⟨⟨_, (), rfl, rfl, zend ht9 hP⟩, hS.F ht9⟩) hS.2.2 dX6_takesPart_71
        · have h := zf h c4
          by_cases c5 : a1 = 7
          · have h := zt h c5
            refine lv_tableIn (off := 71) (tgt := 72) hx hb dX6_takesPart_1 (by rw [c5]; decide) (by rw [c5]; decide) (by rw [c5]; rfl) (by decide) ?_
            refine lv_aload_n hx hb dX6_takesPart_72 rfl (lv_at hl 0 rfl) ?_
            refine lv_bipush (v := 6) hx hb dX6_takesPart_73 (by decide) ?_
            refine lv_iconst (v := 2) hx hb dX6_takesPart_75 (by decide) ?_
            refine lv_bipush (v := 15) hx hb dX6_takesPart_76 (by decide) ?_
            obtain ⟨r1, h1, h⟩ := zb h
            refine zi (zrV (C := RX6) (T := TX6) (N := 14) (As := [.int 6, .int 2, .int 15]) (rest := []) ⟨hx, hb, hml, hown, ht⟩ (c_X6_takesNumbers l D k o on op orr ot oh og od states bytes reading at_ wrongAt number hh text rread 6 2 15 fu h1 _) (cwV 3 ht (gdV wb1114 wb1116 wb67 wb80 wb1117) rfl rfl rfl (by decide +kernel) ⟨Nat.le_of_ble_eq_true rfl, Nat.le_of_ble_eq_true rfl⟩) hK hP hD hS hA hm [0, 1, 2] rfl rfl 0 6 rfl rfl rfl hl.1 rfl (Nat.le_of_ble_eq_true rfl) dX6_takesPart_78 ⟨Nat.le_refl _, Nat.le_refl _⟩) hP hD hS hA [0, 1, 2] rfl rfl (fun H locs hP hD hS => ?_)
            have hP : va_P D vwCl [(o, .inr (6, [.ref on, .ref op, .int states, .ref orr, .ref ot, .int bytes, .ref oh, .ref og, .ref od, .int reading, .int r1.2.1, .int r1.2.2.1, .int r1.2.2.2.1, .long hh])), (ot, .inl (k 0, 120, .inl text)), (od, .inl (k 0, 132, .inl r1.2.2.2.2))] H := hP
            have hD : va_D A [(o, .inr (6, [.ref on, .ref op, .int states, .ref orr, .ref ot, .int bytes, .ref oh, .ref og, .ref od, .int reading, .int r1.2.1, .int r1.2.2.1, .int r1.2.2.2.1, .long hh])), (ot, .inl (k 0, 120, .inl text)), (od, .inl (k 0, 132, .inl r1.2.2.2.2))] := hD
            obtain rfl := Option.some.inj h
            exact W.zret (v := zB r1.1) (ty := .boolean) hx hb hr (zB_nar _) (fun t ht9 hW => ⟨⟨_, (), rfl, rfl, zend ht9 hP⟩, hS.F ht9⟩) hS.2.2 dX6_takesPart_81
          · have h := zf h c5
            refine lv_tableOut (tgt := 82) hx hb dX6_takesPart_1 (by have e0 : (Int32.toInt a1) ≠ 3 := fun q => c1 (Int32.toInt_inj.mp (by rw [q]; rfl)); have e1 : (Int32.toInt a1) ≠ 4 := fun q => c2 (Int32.toInt_inj.mp (by rw [q]; rfl)); have e2 : (Int32.toInt a1) ≠ 5 := fun q => c3 (Int32.toInt_inj.mp (by rw [q]; rfl)); have e3 : (Int32.toInt a1) ≠ 6 := fun q => c4 (Int32.toInt_inj.mp (by rw [q]; rfl)); have e4 : (Int32.toInt a1) ≠ 7 := fun q => c5 (Int32.toInt_inj.mp (by rw [q]; rfl)); omega) (by decide) ?_
            refine lv_aload_n hx hb dX6_takesPart_82 rfl (lv_at hl 0 rfl) ?_
            refine va_get (D := D) (ci := 6) (v := .ref od) (C := RX6) (T := TX6) (N := 14) hx hb ht hiX6 hown hK hP 0 rfl rfl 8 (by decide) (ht _ wb773) (fun _ h9 => h9) rfl dX6_takesPart_83 ?_
            refine lv_bipush (v := 11) hx hb dX6_takesPart_86 (by decide) ?_
            refine lv_aload_n hx hb dX6_takesPart_88 rfl (lv_at hl 0 rfl) ?_
            refine va_get (D := D) (ci := 6) (v := .int reading) (C := RX6) (T := TX6) (N := 14) hx hb ht hiX6 hown hK hP 0 rfl rfl 9 (by decide) (ht _ wb774) (fun _ h9 => h9) rfl dX6_takesPart_89 ?_
            refine lv_imul hx hb dX6_takesPart_92 ?_
            refine lv_bipush (v := 8) hx hb dX6_takesPart_93 (by decide) ?_
            refine lv_iadd hx hb dX6_takesPart_95 ?_
            refine lv_iload_n hx hb dX6_takesPart_96 rfl (lv_at hl 1 rfl) ?_
            refine lv_bipush (v := 8) hx hb dX6_takesPart_97 (by decide) ?_
            refine lv_isub hx hb dX6_takesPart_99 ?_
            obtain ⟨hi1, h⟩ := zg h
            refine va_iast hx hb hK hP hD hS 2 0 rfl rfl hi1 dX6_takesPart_100 (fun H locs hP hD hS => ?_)
            have hP : va_P D vwCl [(o, .inr (6, [.ref on, .ref op, .int states, .ref orr, .ref ot, .int bytes, .ref oh, .ref og, .ref od, .int reading, .int at_, .int wrongAt, .int number, .long hh])), (ot, .inl (k 0, 120, .inl text)), (od, .inl (k 0, 132, .inl (upd rread (Int32.toNatClampNeg ((11 * reading) + 8)) (a1 - 8))))] H := hP
            have hD : va_D A [(o, .inr (6, [.ref on, .ref op, .int states, .ref orr, .ref ot, .int bytes, .ref oh, .ref og, .ref od, .int reading, .int at_, .int wrongAt, .int number, .long hh])), (ot, .inl (k 0, 120, .inl text)), (od, .inl (k 0, 132, .inl (upd rread (Int32.toNatClampNeg ((11 * reading) + 8)) (a1 - 8))))] := hD
            refine lv_iconst (v := 1) hx hb dX6_takesPart_101 (by decide) ?_
            obtain rfl := Option.some.inj h
            exact W.zret (v := 1) (ty := .boolean) hx hb hr (rfl) (fun t ht9 hW => ⟨⟨_, (), rfl, rfl, zend ht9 hP⟩, hS.F ht9⟩) hS.2.2 dX6_takesPart_102
def f_X6_takesParts_L6 (fu : Nat) (K : Int32 → Int32 → Int32 → Int32 → (Nat → Int32) → Option (Bool × Int32 × Int32 × Int32 × (Nat → Int32))) (bytes : Int32) (reading : Int32) (text : Nat → Int32) : Nat → Int32 → Int32 → Int32 → Int32 → (Nat → Int32) → Option (Bool × Int32 × Int32 × Int32 × (Nat → Int32))
  | 0, _, _, _, _, _ => none
  | n + 1, v1, at_, wrongAt, number, rread =>
  (f_X6_isAt bytes at_ text 59 59).bind fun r2 => if (zB r2) = 0 then ((f_X6_isAt bytes at_ text 97 122).bind fun r3 => if (zB r3) = 0 then ((f_X6_fails  at_).bind fun r15 => some (r15.1, at_, r15.2, number, rread)) else ((f_X6_takesWord fu bytes at_ text ).bind fun r4 => (f_X6_wordBy  r4.1).bind fun r5 => if r5 ≤ 7 then (if r5 < 3 then ((f_X6_fails  at_).bind fun r6 => some (r6.1, r4.2, r6.2, number, rread)) else (if ((v1 >>> (r5 &&& 31)) &&& 1) = 1 then ((f_X6_fails  at_).bind fun r7 => some (r7.1, r4.2, r7.2, number, rread)) else ((f_X6_takesPart fu bytes reading r4.2 wrongAt number text rread r5).bind fun r8 => if (zB r8.1) = 0 then (some (false, r8.2.1, r8.2.2.1, r8.2.2.2.1, r8.2.2.2.2)) else ((f_X6_blanks fu bytes r8.2.1 text ).bind fun r9 => f_X6_takesParts_L6 fu K bytes reading text n (v1 ||| (1 <<< (r5 &&& 31))) r9 r8.2.2.1 r8.2.2.2.1 r8.2.2.2.2)))) else (if r5 < 3 then ((f_X6_fails  at_).bind fun r10 => some (r10.1, r4.2, r10.2, number, rread)) else (if ((v1 >>> (r5 &&& 31)) &&& 1) = 1 then ((f_X6_fails  at_).bind fun r11 => some (r11.1, r4.2, r11.2, number, rread)) else (if (v1 >>> (8 &&& 31)) = 0 then ((f_X6_takesPart fu bytes reading r4.2 wrongAt number text rread r5).bind fun r12 => if (zB r12.1) = 0 then (some (false, r12.2.1, r12.2.2.1, r12.2.2.2.1, r12.2.2.2.2)) else ((f_X6_blanks fu bytes r12.2.1 text ).bind fun r13 => f_X6_takesParts_L6 fu K bytes reading text n (v1 ||| (1 <<< (r5 &&& 31))) r13 r12.2.2.1 r12.2.2.2.1 r12.2.2.2.2)) else ((f_X6_fails  at_).bind fun r14 => some (r14.1, r4.2, r14.2, number, rread))))))) else (K v1 at_ wrongAt number rread)
def f_X6_takesParts (fu : Nat) (bytes : Int32) (reading : Int32) (at_ : Int32) (wrongAt : Int32) (number : Int32) (text : Nat → Int32) (rread : Nat → Int32)  : Option (Bool × Int32 × Int32 × Int32 × (Nat → Int32)) :=
  (f_X6_blanks fu bytes at_ text ).bind fun r1 => f_X6_takesParts_L6 fu (fun (x1 : Int32) (x2 : Int32) (x3 : Int32) (x4 : Int32) (x5 : Nat → Int32) => some (true, x2 + 1, x3, x4, x5)) bytes reading text fu 0 r1 wrongAt number rread
abbrev wk_X6_takesParts : List Cond := Cond.code yX6_takesParts cX6_takesParts 5 (some .boolean) :: WB
abbrev rm_X6_takesParts : Room := { frames := 6, cells := 0, slots := 0, locals := 131 }
set_option maxHeartbeats 4000000 in
set_option maxRecDepth 100000 in
theorem c_X6_takesParts (l : Launch) (D : va_G) (k : Nat → Nat) (o on op orr ot oh og od : Nat) (states : Int32) (bytes : Int32) (reading : Int32) (at_ : Int32) (wrongAt : Int32) (number : Int32) (hh : Int64) (text : Nat → Int32) (rread : Nat → Int32)  (fu : Nat) {res : Bool × Int32 × Int32 × Int32 × (Nat → Int32)} (h : f_X6_takesParts fu bytes reading at_ wrongAt number text rread  = some res) : Ci l yX6_takesParts wk_X6_takesParts rm_X6_takesParts D k [.ref o] [(o, .inr (6, [.ref on, .ref op, .int states, .ref orr, .ref ot, .int bytes, .ref oh, .ref og, .ref od, .int reading, .int at_, .int wrongAt, .int number, .long hh])), (ot, .inl (k 0, 120, .inl text)), (od, .inl (k 0, 132, .inl rread))] [(o, .inr (6, [.ref on, .ref op, .int states, .ref orr, .ref ot, .int bytes, .ref oh, .ref og, .ref od, .int reading, .int res.2.1, .int res.2.2.1, .int res.2.2.2.1, .long hh])), (ot, .inl (k 0, 120, .inl text)), (od, .inl (k 0, 132, .inl res.2.2.2.2))] (zB res.1) := by
  unfold Ci
  intro sz
  refine Met.ofW (cc := cX6_takesParts) (maxL := 5) (ret := (some .boolean)) (by decide) rfl ?_
  intro p e s m args below meth c s₁ B hml hv
  obtain ⟨rfl, hsz, hP, hK, hD0, hm⟩ := hv
  have hx := B.exec
  have hb := B.bytes
  have hr := B.returns
  have ht : ∀ w ∈ WB, w.before _ s = true := fun w hw => atoms_spec (ws := wk_X6_takesParts) B.pre w (List.mem_cons_of_mem _ hw)
  have hown : s.vm.findClass RX6 = some m.cls := findClass_of_methodNamed B.named
  have hlocks := B.notSynchronized
  subst hsz
  have hD := hD0.self (sz := s.heap.size)
  generalize hAe : va_A [(o, .inr (6, [.ref on, .ref op, .int states, .ref orr, .ref ot, .int bytes, .ref oh, .ref og, .ref od, .int reading, .int at_, .int wrongAt, .int number, .long hh])), (ot, .inl (k 0, 120, .inl text)), (od, .inl (k 0, 132, .inl rread))] s.heap.size = A at hD hm ⊢
  have hA : ∀ q : Nat, s.heap.size ≤ q → A q := fun q h => by rw [← hAe]; exact Or.inr h
  have hS : va_S A s.heap s.heap [] := va_S.rf
  have hl := lv_entry ([.ref o]) (n := 5) (Nat.le_of_ble_eq_true rfl)
  rw [lg_entry_eq]
  generalize (lg_sl ([.ref o]) ++ List.replicate (5 - (lg_sl ([.ref o])).length) Slot.unset).toArray = ls at hl ⊢
  have hl : lv_has ls 5 [(0, .ref o)] := hl
  obtain ⟨H, hH⟩ : ∃ H, H = s.heap := ⟨_, rfl⟩
  rw [← hH] at hP
  have hS : va_S A s.heap H [] := by rw [hH]; exact hS
  suffices hgo : W p l e _ s m _ below meth c H [] 0 0 _ _ by rw [hH] at hgo; exact hgo
  unfold f_X6_takesParts at h
  refine lv_iconst (v := 0) hx hb dX6_takesParts_0 (by decide) ?_
  refine lv_istore_n (lv' := [(1, .int 0), (0, .ref o)]) hx hb dX6_takesParts_1 rfl hl (by decide) rfl (fun ls hl => ?_)
  refine lv_aload_n hx hb dX6_takesParts_2 rfl (lv_at hl 1 rfl) ?_
  obtain ⟨r1, h1, h⟩ := zb h
  refine zv (zrV (C := RX6) (T := TX6) (N := 14) (As := []) (rest := []) ⟨hx, hb, hml, hown, ht⟩ (c_X6_blanks l D k o on op orr ot oh og od states bytes reading at_ wrongAt number hh text  fu h1 _) (cwV 0 ht (gdV wb1074 wb1076 wb60 wb80 wb1077) rfl rfl rfl (by decide +kernel) ⟨Nat.le_of_ble_eq_true rfl, Nat.le_of_ble_eq_true rfl⟩) hK hP hD hS hA hm [0, 1] rfl rfl 0 6 rfl rfl rfl hl.1 rfl (Nat.le_of_ble_eq_true rfl) dX6_takesParts_3 ⟨Nat.le_refl _, Nat.le_refl _⟩) hP hD hS hA [0, 1] rfl rfl (fun H locs hP hD hS => ?_)
  have hP : va_P D vwCl [(o, .inr (6, [.ref on, .ref op, .int states, .ref orr, .ref ot, .int bytes, .ref oh, .ref og, .ref od, .int reading, .int r1, .int wrongAt, .int number, .long hh])), (ot, .inl (k 0, 120, .inl text)), (od, .inl (k 0, 132, .inl rread))] H := hP
  have hD : va_D A [(o, .inr (6, [.ref on, .ref op, .int states, .ref orr, .ref ot, .int bytes, .ref oh, .ref og, .ref od, .int reading, .int r1, .int wrongAt, .int number, .long hh])), (ot, .inl (k 0, 120, .inl text)), (od, .inl (k 0, 132, .inl rread))] := hD
  have loop6 : ∀ (states : Int32) (bytes : Int32) (reading : Int32) (hh : Int64) (text : Nat → Int32), ∀ (K : Int32 → Int32 → Int32 → Int32 → (Nat → Int32) → Option (Bool × Int32 × Int32 × Int32 × (Nat → Int32))), (∀ (v1 : Int32) (at_ : Int32) (wrongAt : Int32) (number : Int32) (rread : Nat → Int32), K v1 at_ wrongAt number rread = some res → ∀ (H : Heap) (locs : List Loc), va_P D vwCl [(o, .inr (6, [.ref on, .ref op, .int states, .ref orr, .ref ot, .int bytes, .ref oh, .ref og, .ref od, .int reading, .int at_, .int wrongAt, .int number, .long hh])), (ot, .inl (k 0, 120, .inl text)), (od, .inl (k 0, 132, .inl rread))] H → va_D A [(o, .inr (6, [.ref on, .ref op, .int states, .ref orr, .ref ot, .int bytes, .ref oh, .ref og, .ref od, .int reading, .int at_, .int wrongAt, .int number, .long hh])), (ot, .inl (k 0, 120, .inl text)), (od, .inl (k 0, 132, .inl rread))] → va_S A s.heap H locs → ∀ ls : Array Slot, lv_has ls 5 [(0, .ref o), (1, .int v1)] → W p l e (headSpec wk_X6_takesParts rm_X6_takesParts).room s m ([.ref o] : List Value).toArray below meth c H locs 0 0 (MQ below (va_Qi (fun xq9 (_ : Unit) => xq9 = zB res.1) (fun _ tq9 => va_P D vwCl [(o, .inr (6, [.ref on, .ref op, .int states, .ref orr, .ref ot, .int bytes, .ref oh, .ref og, .ref od, .int reading, .int res.2.1, .int res.2.2.1, .int res.2.2.2.1, .long hh])), (ot, .inl (k 0, 120, .inl text)), (od, .inl (k 0, 132, .inl res.2.2.2.2))] tq9.heap) A) ([.ref o] : List Value).toArray s 0 0 A) (F0 m 118 ls [])) → ∀ (n : Nat) (v1 : Int32) (at_ : Int32) (wrongAt : Int32) (number : Int32) (rread : Nat → Int32), f_X6_takesParts_L6 fu K bytes reading text n v1 at_ wrongAt number rread = some res → ∀ (H : Heap) (locs : List Loc), va_P D vwCl [(o, .inr (6, [.ref on, .ref op, .int states, .ref orr, .ref ot, .int bytes, .ref oh, .ref og, .ref od, .int reading, .int at_, .int wrongAt, .int number, .long hh])), (ot, .inl (k 0, 120, .inl text)), (od, .inl (k 0, 132, .inl rread))] H → va_D A [(o, .inr (6, [.ref on, .ref op, .int states, .ref orr, .ref ot, .int bytes, .ref oh, .ref og, .ref od, .int reading, .int at_, .int wrongAt, .int number, .long hh])), (ot, .inl (k 0, 120, .inl text)), (od, .inl (k 0, 132, .inl rread))] → va_S A s.heap H locs → ∀ ls : Array Slot, lv_has ls 5 [(0, .ref o), (1, .int v1)] → W p l e (headSpec wk_X6_takesParts rm_X6_takesParts).room s m ([.ref o] : List Value).toArray below meth c H locs 0 0 (MQ below (va_Qi (fun xq9 (_ : Unit) => xq9 = zB res.1) (fun _ tq9 => va_P D vwCl [(o, .inr (6, [.ref on, .ref op, .int states, .ref orr, .ref ot, .int bytes, .ref oh, .ref og, .ref od, .int reading, .int res.2.1, .int res.2.2.1, .int res.2.2.2.1, .long hh])), (ot, .inl (k 0, 120, .inl text)), (od, .inl (k 0, 132, .inl res.2.2.2.2))] tq9.heap) A) ([.ref o] : List Value).toArray s 0 0 A) (F0 m 6 ls []) := by
    intro states bytes reading hh text K hKK n
    induction n with
    | zero =>
      intro v1 at_ wrongAt number rread h
      rw [f_X6_takesParts_L6] at h
      cases h
    | succ n ih =>
      intro v1 at_ wrongAt number rread h H locs hP hD hS ls hl
      rw [f_X6_takesParts_L6] at h
      refine lv_aload_n hx hb dX6_takesParts_6 rfl (lv_at hl 0 rfl) ?_
      refine lv_bipush (v := 59) hx hb dX6_takesParts_7 (by decide) ?_
      refine lv_bipush (v := 59) hx hb dX6_takesParts_9 (by decide) ?_
      obtain ⟨r2, h2, h⟩ := zb h
      refine zi (zrV (C := RX6) (T := TX6) (N := 14) (As := [.int 59, .int 59]) (rest := []) ⟨hx, hb, hml, hown, ht⟩ (c_X6_isAt l D k o on op orr ot oh og od states bytes reading at_ wrongAt number hh text 59 59 h2 _) (cwV 2 ht (gdV wb1078 wb1080 wb61 wb80 wb1081) rfl rfl rfl (by decide +kernel) ⟨Nat.le_of_ble_eq_true rfl, Nat.le_of_ble_eq_true rfl⟩) hK hP hD hS hA hm [0, 1] rfl rfl 0 6 rfl rfl rfl hl.1 rfl (Nat.le_of_ble_eq_true rfl) dX6_takesParts_11 ⟨Nat.le_refl _, Nat.le_refl _⟩) hP hD hS hA [0, 1] rfl rfl (fun H locs hP hD hS => ?_)
      have hP : va_P D vwCl [(o, .inr (6, [.ref on, .ref op, .int states, .ref orr, .ref ot, .int bytes, .ref oh, .ref og, .ref od, .int reading, .int at_, .int wrongAt, .int number, .long hh])), (ot, .inl (k 0, 120, .inl text)), (od, .inl (k 0, 132, .inl rread))] H := hP
      have hD : va_D A [(o, .inr (6, [.ref on, .ref op, .int states, .ref orr, .ref ot, .int bytes, .ref oh, .ref og, .ref od, .int reading, .int at_, .int wrongAt, .int number, .long hh])), (ot, .inl (k 0, 120, .inl text)), (od, .inl (k 0, 132, .inl rread))] := hD
      refine lv_if_ne (tgt := 118) hx hb dX6_takesParts_14 (by decide) (fun c10 => ?_) (fun c10 => ?_)
      · have h := zf h c10
        exact hKK _ _ _ _ _ h _ _ hP hD hS _ (lv_sub hl [0, 1] rfl)
      · have h := zt h c10
        refine lv_aload_n hx hb dX6_takesParts_17 rfl (lv_at hl 0 rfl) ?_
        refine lv_bipush (v := 97) hx hb dX6_takesParts_18 (by decide) ?_
        refine lv_bipush (v := 122) hx hb dX6_takesParts_20 (by decide) ?_
        obtain ⟨r3, h3, h⟩ := zb h
        refine zi (zrV (C := RX6) (T := TX6) (N := 14) (As := [.int 97, .int 122]) (rest := []) ⟨hx, hb, hml, hown, ht⟩ (c_X6_isAt l D k o on op orr ot oh og od states bytes reading at_ wrongAt number hh text 97 122 h3 _) (cwV 2 ht (gdV wb1078 wb1080 wb61 wb80 wb1081) rfl rfl rfl (by decide +kernel) ⟨Nat.le_of_ble_eq_true rfl, Nat.le_of_ble_eq_true rfl⟩) hK hP hD hS hA hm [0, 1] rfl rfl 0 6 rfl rfl rfl hl.1 rfl (Nat.le_of_ble_eq_true rfl) dX6_takesParts_22 ⟨Nat.le_refl _, Nat.le_refl _⟩) hP hD hS hA [0, 1] rfl rfl (fun H locs hP hD hS => ?_)
        have hP : va_P D vwCl [(o, .inr (6, [.ref on, .ref op, .int states, .ref orr, .ref ot, .int bytes, .ref oh, .ref og, .ref od, .int reading, .int at_, .int wrongAt, .int number, .long hh])), (ot, .inl (k 0, 120, .inl text)), (od, .inl (k 0, 132, .inl rread))] H := hP
        have hD : va_D A [(o, .inr (6, [.ref on, .ref op, .int states, .ref orr, .ref ot, .int bytes, .ref oh, .ref og, .ref od, .int reading, .int at_, .int wrongAt, .int number, .long hh])), (ot, .inl (k 0, 120, .inl text)), (od, .inl (k 0, 132, .inl rread))] := hD
        refine lv_if_ne (tgt := 37) hx hb dX6_takesParts_25 (by decide) (fun c9 => ?_) (fun c9 => ?_)
        · have h := zf h c9
          refine lv_aload_n hx hb dX6_takesParts_37 rfl (lv_at hl 0 rfl) ?_
          refine va_get (D := D) (ci := 6) (v := .int at_) (C := RX6) (T := TX6) (N := 14) hx hb ht hiX6 hown hK hP 0 rfl rfl 10 (by decide) (ht _ wb775) (fun _ h9 => h9) rfl dX6_takesParts_38 ?_
          refine lv_istore_n (lv' := [(2, .int at_), (0, .ref o), (1, .int v1)]) hx hb dX6_takesParts_41 rfl hl (by decide) rfl (fun ls hl => ?_)
          refine lv_aload_n hx hb dX6_takesParts_42 rfl (lv_at hl 1 rfl) ?_
          obtain ⟨r4, h4, h⟩ := zb h
          refine zl (zrV (C := RX6) (T := TX6) (N := 14) (As := []) (rest := []) ⟨hx, hb, hml, hown, ht⟩ (c_X6_takesWord l D k o on op orr ot oh og od states bytes reading at_ wrongAt number hh text  fu h4 _) (cwV 0 ht (gdV wb1090 wb1092 wb64 wb80 wb1093) rfl rfl rfl (by decide +kernel) ⟨Nat.le_of_ble_eq_true rfl, Nat.le_of_ble_eq_true rfl⟩) hK hP hD hS hA hm [0, 1] rfl rfl 0 6 rfl rfl rfl hl.1 rfl (Nat.le_of_ble_eq_true rfl) dX6_takesParts_43 ⟨Nat.le_refl _, Nat.le_refl _⟩) hP hD hS hA [0, 1] rfl rfl (fun H locs hP hD hS => ?_)
          have hP : va_P D vwCl [(o, .inr (6, [.ref on, .ref op, .int states, .ref orr, .ref ot, .int bytes, .ref oh, .ref og, .ref od, .int reading, .int r4.2, .int wrongAt, .int number, .long hh])), (ot, .inl (k 0, 120, .inl text)), (od, .inl (k 0, 132, .inl rread))] H := hP
          have hD : va_D A [(o, .inr (6, [.ref on, .ref op, .int states, .ref orr, .ref ot, .int bytes, .ref oh, .ref og, .ref od, .int reading, .int r4.2, .int wrongAt, .int number, .long hh])), (ot, .inl (k 0, 120, .inl text)), (od, .inl (k 0, 132, .inl rread))] := hD
          obtain ⟨r5, h5, h⟩ := zb h
          refine zi (zrS (As := [.long r4.1]) (rest := []) ⟨hx, hb, hml, hown, ht⟩ (c_X6_wordBy l D k   r4.1 h5 _) (va_cwS 1 ht (gdS wb1100 wb1101 wb80 wb1102) rfl rfl rfl (by decide +kernel) ⟨Nat.le_of_ble_eq_true rfl, Nat.le_of_ble_eq_true rfl⟩) hK hP hD hS hA hm [] rfl rfl rfl hl.1 rfl (Nat.le_of_ble_eq_true rfl) dX6_takesParts_46 ⟨Nat.le_refl _, Nat.le_refl _⟩) hP hD hS hA [] rfl rfl (fun H locs hP hD hS => ?_)
          have hP : va_P D vwCl [(o, .inr (6, [.ref on, .ref op, .int states, .ref orr, .ref ot, .int bytes, .ref oh, .ref og, .ref od, .int reading, .int r4.2, .int wrongAt, .int number, .long hh])), (ot, .inl (k 0, 120, .inl text)), (od, .inl (k 0, 132, .inl rread))] H := hP
          have hD : va_D A [(o, .inr (6, [.ref on, .ref op, .int states, .ref orr, .ref ot, .int bytes, .ref oh, .ref og, .ref od, .int reading, .int r4.2, .int wrongAt, .int number, .long hh])), (ot, .inl (k 0, 120, .inl text)), (od, .inl (k 0, 132, .inl rread))] := hD
          refine lv_istore_n (lv' := [(3, .int r5), (2, .int at_), (0, .ref o), (1, .int v1)]) hx hb dX6_takesParts_49 rfl hl (by decide) rfl (fun ls hl => ?_)
          refine lv_iload_n hx hb dX6_takesParts_50 rfl (lv_at hl 0 rfl) ?_
          refine lv_bipush (v := 7) hx hb dX6_takesParts_51 (by decide) ?_
          refine lv_icmp_le (tgt := 60) hx hb dX6_takesParts_53 (by decide) (fun c8 => ?_) (fun c8 => ?_)
          · have h := zt h c8
            refine lv_iconst (v := 0) hx hb dX6_takesParts_60 (by decide) ?_
            refine lv_istore (lv' := [(4, .int 0), (3, .int r5), (2, .int at_), (0, .ref o), (1, .int v1)]) hx hb dX6_takesParts_61 hl (by decide) rfl (fun ls hl => ?_)
            refine lv_iload_n hx hb dX6_takesParts_63 rfl (lv_at hl 1 rfl) ?_
            refine lv_iconst (v := 3) hx hb dX6_takesParts_64 (by decide) ?_
            refine lv_icmp_lt (tgt := 89) hx hb dX6_takesParts_65 (by decide) (fun c3 => ?_) (fun c3 => ?_)
            · have h := zt h c3
              refine lv_aload_n hx hb dX6_takesParts_89 rfl (lv_at hl 3 rfl) ?_
              refine lv_iload_n hx hb dX6_takesParts_90 rfl (lv_at hl 2 rfl) ?_
              obtain ⟨r6, h6, h⟩ := zb h
              refine zi (zrV (C := RX6) (T := TX6) (N := 14) (As := [.int at_]) (rest := []) ⟨hx, hb, hml, hown, ht⟩ (c_X6_fails l D k o on op orr ot oh og od states bytes reading r4.2 wrongAt number hh at_ h6 _) (cwV 1 ht (gdV wb1086 wb1088 wb63 wb80 wb1089) rfl rfl rfl (by decide +kernel) ⟨Nat.le_of_ble_eq_true rfl, Nat.le_of_ble_eq_true rfl⟩) hK hP hD hS hA hm [0] rfl rfl 0 6 rfl rfl rfl hl.1 rfl (Nat.le_of_ble_eq_true rfl) dX6_takesParts_91 ⟨Nat.le_refl _, Nat.le_refl _⟩) hP hD hS hA [0] rfl rfl (fun H locs hP hD hS => ?_)
              have hP : va_P D vwCl [(o, .inr (6, [.ref on, .ref op, .int states, .ref orr, .ref ot, .int bytes, .ref oh, .ref og, .ref od, .int reading, .int r4.2, .int r6.2, .int number, .long hh])), (ot, .inl (k 0, 120, .inl text)), (od, .inl (k 0, 132, .inl rread))] H := hP
              have hD : va_D A [(o, .inr (6, [.ref on, .ref op, .int states, .ref orr, .ref ot, .int bytes, .ref oh, .ref og, .ref od, .int reading, .int r4.2, .int r6.2, .int number, .long hh])), (ot, .inl (k 0, 120, .inl text)), (od, .inl (k 0, 132, .inl rread))] := hD
              obtain rfl := Option.some.inj h
              exact W.zret (v := zB r6.1) (ty := .boolean) hx hb hr (zB_nar _) (fun t ht9 hW => ⟨⟨_, (), rfl, rfl, zend ht9 hP⟩, hS.F ht9⟩) hS.2.2 dX6_takesParts_94
            · have h := zf h c3
              refine lv_iload_n hx hb dX6_takesParts_68 rfl (lv_at hl 4 rfl) ?_
              refine lv_iload_n hx hb dX6_takesParts_69 rfl (lv_at hl 1 rfl) ?_
              refine lv_ishr hx hb dX6_takesParts_70 ?_
              refine lv_iconst (v := 1) hx hb dX6_takesParts_71 (by decide) ?_
              refine lv_iand hx hb dX6_takesParts_72 ?_
              refine lv_iconst (v := 1) hx hb dX6_takesParts_73 (by decide) ?_
              refine lv_icmp_eq (tgt := 89) hx hb dX6_takesParts_74 (by decide) (fun c2 => ?_) (fun c2 => ?_)
              · have h := zt h c2
                refine lv_aload_n hx hb dX6_takesParts_89 rfl (lv_at hl 3 rfl) ?_
                refine lv_iload_n hx hb dX6_takesParts_90 rfl (lv_at hl 2 rfl) ?_
                obtain ⟨r7, h7, h⟩ := zb h
                refine zi (zrV (C := RX6) (T := TX6) (N := 14) (As := [.int at_]) (rest := []) ⟨hx, hb, hml, hown, ht⟩ (c_X6_fails l D k o on op orr ot oh og od states bytes reading r4.2 wrongAt number hh at_ h7 _) (cwV 1 ht (gdV wb1086 wb1088 wb63 wb80 wb1089) rfl rfl rfl (by decide +kernel) ⟨Nat.le_of_ble_eq_true rfl, Nat.le_of_ble_eq_true rfl⟩) hK hP hD hS hA hm [0] rfl rfl 0 6 rfl rfl rfl hl.1 rfl (Nat.le_of_ble_eq_true rfl) dX6_takesParts_91 ⟨Nat.le_refl _, Nat.le_refl _⟩) hP hD hS hA [0] rfl rfl (fun H locs hP hD hS => ?_)
                have hP : va_P D vwCl [(o, .inr (6, [.ref on, .ref op, .int states, .ref orr, .ref ot, .int bytes, .ref oh, .ref og, .ref od, .int reading, .int r4.2, .int r7.2, .int number, .long hh])), (ot, .inl (k 0, 120, .inl text)), (od, .inl (k 0, 132, .inl rread))] H := hP
                have hD : va_D A [(o, .inr (6, [.ref on, .ref op, .int states, .ref orr, .ref ot, .int bytes, .ref oh, .ref og, .ref od, .int reading, .int r4.2, .int r7.2, .int number, .long hh])), (ot, .inl (k 0, 120, .inl text)), (od, .inl (k 0, 132, .inl rread))] := hD
                obtain rfl := Option.some.inj h
                exact W.zret (v := zB r7.1) (ty := .boolean) hx hb hr (zB_nar _) (fun t ht9 hW => ⟨⟨_, (), rfl, rfl, zend ht9 hP⟩, hS.F ht9⟩) hS.2.2 dX6_takesParts_94
              · have h := zf h c2
                refine lv_iload hx hb dX6_takesParts_77 (lv_at hl 0 rfl) ?_
                refine lv_if_eq (tgt := 95) hx hb dX6_takesParts_79 (by decide) (fun _ => ?_) (fun c9 => absurd (by decide) c9)
                refine lv_iload_n hx hb dX6_takesParts_95 rfl (lv_at hl 4 rfl) ?_
                refine lv_iconst (v := 1) hx hb dX6_takesParts_96 (by decide) ?_
                refine lv_iload_n hx hb dX6_takesParts_97 rfl (lv_at hl 1 rfl) ?_
                refine lv_ishl hx hb dX6_takesParts_98 ?_
                refine lv_ior hx hb dX6_takesParts_99 ?_
                refine lv_istore_n (lv' := [(1, .int (v1 ||| (1 <<< (r5 &&& 31)))), (4, .int 0), (3, .int r5), (2, .int at_), (0, .ref o)]) hx hb dX6_takesParts_100 rfl hl (by decide) rfl (fun ls hl => ?_)
                refine lv_aload_n hx hb dX6_takesParts_101 rfl (lv_at hl 4 rfl) ?_
                refine lv_iload_n hx hb dX6_takesParts_102 rfl (lv_at hl 2 rfl) ?_
                obtain ⟨r8, h8, h⟩ := zb h
                refine zi (zrV (C := RX6) (T := TX6) (N := 14) (As := [.int r5]) (rest := []) ⟨hx, hb, hml, hown, ht⟩ (c_X6_takesPart l D k o on op orr ot oh og od states bytes reading r4.2 wrongAt number hh text rread r5 fu h8 _) (cwV 1 ht (gdV wb1110 wb1112 wb66 wb80 wb1113) rfl rfl rfl (by decide +kernel) ⟨Nat.le_of_ble_eq_true rfl, Nat.le_of_ble_eq_true rfl⟩) hK hP hD hS hA hm [0, 1, 2] rfl rfl 0 6 rfl rfl rfl hl.1 rfl (Nat.le_of_ble_eq_true rfl) dX6_takesParts_103 ⟨Nat.le_refl _, Nat.le_refl _⟩) hP hD hS hA [0, 1, 2] rfl rfl (fun H locs hP hD hS => ?_)
                have hP : va_P D vwCl [(o, .inr (6, [.ref on, .ref op, .int states, .ref orr, .ref ot, .int bytes, .ref oh, .ref og, .ref od, .int reading, .int r8.2.1, .int r8.2.2.1, .int r8.2.2.2.1, .long hh])), (ot, .inl (k 0, 120, .inl text)), (od, .inl (k 0, 132, .inl r8.2.2.2.2))] H := hP
                have hD : va_D A [(o, .inr (6, [.ref on, .ref op, .int states, .ref orr, .ref ot, .int bytes, .ref oh, .ref og, .ref od, .int reading, .int r8.2.1, .int r8.2.2.1, .int r8.2.2.2.1, .long hh])), (ot, .inl (k 0, 120, .inl text)), (od, .inl (k 0, 132, .inl r8.2.2.2.2))] := hD
                refine lv_if_ne (tgt := 111) hx hb dX6_takesParts_106 (by decide) (fun c1 => ?_) (fun c1 => ?_)
                · have h := zf h c1
                  refine lv_aload_n hx hb dX6_takesParts_111 rfl (lv_at hl 4 rfl) ?_
                  obtain ⟨r9, h9, h⟩ := zb h
                  refine zv (zrV (C := RX6) (T := TX6) (N := 14) (As := []) (rest := []) ⟨hx, hb, hml, hown, ht⟩ (c_X6_blanks l D k o on op orr ot oh og od states bytes reading r8.2.1 r8.2.2.1 r8.2.2.2.1 hh text  fu h9 _) (cwV 0 ht (gdV wb1074 wb1076 wb60 wb80 wb1077) rfl rfl rfl (by decide +kernel) ⟨Nat.le_of_ble_eq_true rfl, Nat.le_of_ble_eq_true rfl⟩) hK hP hD hS hA hm [0, 1] rfl rfl 0 6 rfl rfl rfl hl.1 rfl (Nat.le_of_ble_eq_true rfl) dX6_takesParts_112 ⟨Nat.le_refl _, Nat.le_refl _⟩) hP hD hS hA [0, 1] rfl rfl (fun H locs hP hD hS => ?_)
                  have hP : va_P D vwCl [(o, .inr (6, [.ref on, .ref op, .int states, .ref orr, .ref ot, .int bytes, .ref oh, .ref og, .ref od, .int reading, .int r9, .int r8.2.2.1, .int r8.2.2.2.1, .long hh])), (ot, .inl (k 0, 120, .inl text)), (od, .inl (k 0, 132, .inl r8.2.2.2.2))] H := hP
                  have hD : va_D A [(o, .inr (6, [.ref on, .ref op, .int states, .ref orr, .ref ot, .int bytes, .ref oh, .ref og, .ref od, .int reading, .int r9, .int r8.2.2.1, .int r8.2.2.2.1, .long hh])), (ot, .inl (k 0, 120, .inl text)), (od, .inl (k 0, 132, .inl r8.2.2.2.2))] := hD
                  refine lv_goto (tgt := 6) hx hb dX6_takesParts_115 (by decide) ?_
                  exact ih _ _ _ _ _ h _ _ hP hD hS _ (lv_sub hl [4, 0] rfl)
                · have h := zt h c1
                  refine lv_iconst (v := 0) hx hb dX6_takesParts_109 (by decide) ?_
                  obtain rfl := Option.some.inj h
                  exact W.zret (v := 0) (ty := .boolean) hx hb hr (rfl) (fun t ht9 hW => ⟨⟨_, (), rfl, rfl, zend ht9 hP⟩, hS.F ht9⟩) hS.2.2 dX6_takesParts_110
          · have h := zf h c8
            refine lv_iconst (v := 1) hx hb dX6_takesParts_56 (by decide) ?_
            refine lv_goto (tgt := 61) hx hb dX6_takesParts_57 (by decide) ?_
            refine lv_istore (lv' := [(4, .int 1), (3, .int r5), (2, .int at_), (0, .ref o), (1, .int v1)]) hx hb dX6_takesParts_61 hl (by decide) rfl (fun ls hl => ?_)
            refine lv_iload_n hx hb dX6_takesParts_63 rfl (lv_at hl 1 rfl) ?_
            refine lv_iconst (v := 3) hx hb dX6_takesParts_64 (by decide) ?_
            refine lv_icmp_lt (tgt := 89) hx hb dX6_takesParts_65 (by decide) (fun c7 => ?_) (fun c7 => ?_)
            · have h := zt h c7
              refine lv_aload_n hx hb dX6_takesParts_89 rfl (lv_at hl 3 rfl) ?_
              refine lv_iload_n hx hb dX6_takesParts_90 rfl (lv_at hl 2 rfl) ?_
              obtain ⟨r10, h10, h⟩ := zb h
              refine zi (zrV (C := RX6) (T := TX6) (N := 14) (As := [.int at_]) (rest := []) ⟨hx, hb, hml, hown, ht⟩ (c_X6_fails l D k o on op orr ot oh og od states bytes reading r4.2 wrongAt number hh at_ h10 _) (cwV 1 ht (gdV wb1086 wb1088 wb63 wb80 wb1089) rfl rfl rfl (by decide +kernel) ⟨Nat.le_of_ble_eq_true rfl, Nat.le_of_ble_eq_true rfl⟩) hK hP hD hS hA hm [0] rfl rfl 0 6 rfl rfl rfl hl.1 rfl (Nat.le_of_ble_eq_true rfl) dX6_takesParts_91 ⟨Nat.le_refl _, Nat.le_refl _⟩) hP hD hS hA [0] rfl rfl (fun H locs hP hD hS => ?_)
              have hP : va_P D vwCl [(o, .inr (6, [.ref on, .ref op, .int states, .ref orr, .ref ot, .int bytes, .ref oh, .ref og, .ref od, .int reading, .int r4.2, .int r10.2, .int number, .long hh])), (ot, .inl (k 0, 120, .inl text)), (od, .inl (k 0, 132, .inl rread))] H := hP
              have hD : va_D A [(o, .inr (6, [.ref on, .ref op, .int states, .ref orr, .ref ot, .int bytes, .ref oh, .ref og, .ref od, .int reading, .int r4.2, .int r10.2, .int number, .long hh])), (ot, .inl (k 0, 120, .inl text)), (od, .inl (k 0, 132, .inl rread))] := hD
              obtain rfl := Option.some.inj h
              exact W.zret (v := zB r10.1) (ty := .boolean) hx hb hr (zB_nar _) (fun t ht9 hW => ⟨⟨_, (), rfl, rfl, zend ht9 hP⟩, hS.F ht9⟩) hS.2.2 dX6_takesParts_94
            · have h := zf h c7
              refine lv_iload_n hx hb dX6_takesParts_68 rfl (lv_at hl 4 rfl) ?_
              refine lv_iload_n hx hb dX6_takesParts_69 rfl (lv_at hl 1 rfl) ?_
              refine lv_ishr hx hb dX6_takesParts_70 ?_
              refine lv_iconst (v := 1) hx hb dX6_takesParts_71 (by decide) ?_
              refine lv_iand hx hb dX6_takesParts_72 ?_
              refine lv_iconst (v := 1) hx hb dX6_takesParts_73 (by decide) ?_
              refine lv_icmp_eq (tgt := 89) hx hb dX6_takesParts_74 (by decide) (fun c6 => ?_) (fun c6 => ?_)
              · have h := zt h c6
                refine lv_aload_n hx hb dX6_takesParts_89 rfl (lv_at hl 3 rfl) ?_
                refine lv_iload_n hx hb dX6_takesParts_90 rfl (lv_at hl 2 rfl) ?_
                obtain ⟨r11, h11, h⟩ := zb h
                refine zi (zrV (C := RX6) (T := TX6) (N := 14) (As := [.int at_]) (rest := []) ⟨hx, hb, hml, hown, ht⟩ (c_X6_fails l D k o on op orr ot oh og od states bytes reading r4.2 wrongAt number hh at_ h11 _) (cwV 1 ht (gdV wb1086 wb1088 wb63 wb80 wb1089) rfl rfl rfl (by decide +kernel) ⟨Nat.le_of_ble_eq_true rfl, Nat.le_of_ble_eq_true rfl⟩) hK hP hD hS hA hm [0] rfl rfl 0 6 rfl rfl rfl hl.1 rfl (Nat.le_of_ble_eq_true rfl) dX6_takesParts_91 ⟨Nat.le_refl _, Nat.le_refl _⟩) hP hD hS hA [0] rfl rfl (fun H locs hP hD hS => ?_)
                have hP : va_P D vwCl [(o, .inr (6, [.ref on, .ref op, .int states, .ref orr, .ref ot, .int bytes, .ref oh, .ref og, .ref od, .int reading, .int r4.2, .int r11.2, .int number, .long hh])), (ot, .inl (k 0, 120, .inl text)), (od, .inl (k 0, 132, .inl rread))] H := hP
                have hD : va_D A [(o, .inr (6, [.ref on, .ref op, .int states, .ref orr, .ref ot, .int bytes, .ref oh, .ref og, .ref od, .int reading, .int r4.2, .int r11.2, .int number, .long hh])), (ot, .inl (k 0, 120, .inl text)), (od, .inl (k 0, 132, .inl rread))] := hD
                obtain rfl := Option.some.inj h
                exact W.zret (v := zB r11.1) (ty := .boolean) hx hb hr (zB_nar _) (fun t ht9 hW => ⟨⟨_, (), rfl, rfl, zend ht9 hP⟩, hS.F ht9⟩) hS.2.2 dX6_takesParts_94
              · have h := zf h c6
                refine lv_iload hx hb dX6_takesParts_77 (lv_at hl 0 rfl) ?_
                refine lv_if_eq (tgt := 95) hx hb dX6_takesParts_79 (by decide) (fun c9 => absurd c9 (by decide)) (fun _ => ?_)
                refine lv_iload_n hx hb dX6_takesParts_82 rfl (lv_at hl 4 rfl) ?_
                refine lv_bipush (v := 8) hx hb dX6_takesParts_83 (by decide) ?_
                refine lv_ishr hx hb dX6_takesParts_85 ?_
                refine lv_if_eq (tgt := 95) hx hb dX6_takesParts_86 (by decide) (fun c5 => ?_) (fun c5 => ?_)
                · have h := zt h c5
                  refine lv_iload_n hx hb dX6_takesParts_95 rfl (lv_at hl 4 rfl) ?_
                  refine lv_iconst (v := 1) hx hb dX6_takesParts_96 (by decide) ?_
                  refine lv_iload_n hx hb dX6_takesParts_97 rfl (lv_at hl 1 rfl) ?_
                  refine lv_ishl hx hb dX6_takesParts_98 ?_
                  refine lv_ior hx hb dX6_takesParts_99 ?_
                  refine lv_istore_n (lv' := [(1, .int (v1 ||| (1 <<< (r5 &&& 31)))), (4, .int 1), (3, .int r5), (2, .int at_), (0, .ref o)]) hx hb dX6_takesParts_100 rfl hl (by decide) rfl (fun ls hl => ?_)
                  refine lv_aload_n hx hb dX6_takesParts_101 rfl (lv_at hl 4 rfl) ?_
                  refine lv_iload_n hx hb dX6_takesParts_102 rfl (lv_at hl 2 rfl) ?_
                  obtain ⟨r12, h12, h⟩ := zb h
                  refine zi (zrV (C := RX6) (T := TX6) (N := 14) (As := [.int r5]) (rest := []) ⟨hx, hb, hml, hown, ht⟩ (c_X6_takesPart l D k o on op orr ot oh og od states bytes reading r4.2 wrongAt number hh text rread r5 fu h12 _) (cwV 1 ht (gdV wb1110 wb1112 wb66 wb80 wb1113) rfl rfl rfl (by decide +kernel) ⟨Nat.le_of_ble_eq_true rfl, Nat.le_of_ble_eq_true rfl⟩) hK hP hD hS hA hm [0, 1, 2] rfl rfl 0 6 rfl rfl rfl hl.1 rfl (Nat.le_of_ble_eq_true rfl) dX6_takesParts_103 ⟨Nat.le_refl _, Nat.le_refl _⟩) hP hD hS hA [0, 1, 2] rfl rfl (fun H locs hP hD hS => ?_)
                  have hP : va_P D vwCl [(o, .inr (6, [.ref on, .ref op, .int states, .ref orr, .ref ot, .int bytes, .ref oh, .ref og, .ref od, .int reading, .int r12.2.1, .int r12.2.2.1, .int r12.2.2.2.1, .long hh])), (ot, .inl (k 0, 120, .inl text)), (od, .inl (k 0, 132, .inl r12.2.2.2.2))] H := hP
                  have hD : va_D A [(o, .inr (6, [.ref on, .ref op, .int states, .ref orr, .ref ot, .int bytes, .ref oh, .ref og, .ref od, .int reading, .int r12.2.1, .int r12.2.2.1, .int r12.2.2.2.1, .long hh])), (ot, .inl (k 0, 120, .inl text)), (od, .inl (k 0, 132, .inl r12.2.2.2.2))] := hD
                  refine lv_if_ne (tgt := 111) hx hb dX6_takesParts_106 (by decide) (fun c4 => ?_) (fun c4 => ?_)
                  · have h := zf h c4
                    refine lv_aload_n hx hb dX6_takesParts_111 rfl (lv_at hl 4 rfl) ?_
                    obtain ⟨r13, h13, h⟩ := zb h
                    refine zv (zrV (C := RX6) (T := TX6) (N := 14) (As := []) (rest := []) ⟨hx, hb, hml, hown, ht⟩ (c_X6_blanks l D k o on op orr ot oh og od states bytes reading r12.2.1 r12.2.2.1 r12.2.2.2.1 hh text  fu h13 _) (cwV 0 ht (gdV wb1074 wb1076 wb60 wb80 wb1077) rfl rfl rfl (by decide +kernel) ⟨Nat.le_of_ble_eq_true rfl, Nat.le_of_ble_eq_true rfl⟩) hK hP hD hS hA hm [0, 1] rfl rfl 0 6 rfl rfl rfl hl.1 rfl (Nat.le_of_ble_eq_true rfl) dX6_takesParts_112 ⟨Nat.le_refl _, Nat.le_refl _⟩) hP hD hS hA [0, 1] rfl rfl (fun H locs hP hD hS => ?_)
                    have hP : va_P D vwCl [(o, .inr (6, [.ref on, .ref op, .int states, .ref orr, .ref ot, .int bytes, .ref oh, .ref og, .ref od, .int reading, .int r13, .int r12.2.2.1, .int r12.2.2.2.1, .long hh])), (ot, .inl (k 0, 120, .inl text)), (od, .inl (k 0, 132, .inl r12.2.2.2.2))] H := hP
                    have hD : va_D A [(o, .inr (6, [.ref on, .ref op, .int states, .ref orr, .ref ot, .int bytes, .ref oh, .ref og, .ref od, .int reading, .int r13, .int r12.2.2.1, .int r12.2.2.2.1, .long hh])), (ot, .inl (k 0, 120, .inl text)), (od, .inl (k 0, 132, .inl r12.2.2.2.2))] := hD
                    refine lv_goto (tgt := 6) hx hb dX6_takesParts_115 (by decide) ?_
                    exact ih _ _ _ _ _ h _ _ hP hD hS _ (lv_sub hl [4, 0] rfl)
                  · have h := zt h c4
                    refine lv_iconst (v := 0) hx hb dX6_takesParts_109 (by decide) ?_
                    obtain rfl := Option.some.inj h
                    exact W.zret (v := 0) (ty := .boolean) hx hb hr (rfl) (fun t ht9 hW => ⟨⟨_, (), rfl, rfl, zend ht9 hP⟩, hS.F ht9⟩) hS.2.2 dX6_takesParts_110
                · have h := zf h c5
                  refine lv_aload_n hx hb dX6_takesParts_89 rfl (lv_at hl 3 rfl) ?_
                  refine lv_iload_n hx hb dX6_takesParts_90 rfl (lv_at hl 2 rfl) ?_
                  obtain ⟨r14, h14, h⟩ := zb h
                  refine zi (zrV (C := RX6) (T := TX6) (N := 14) (As := [.int at_]) (rest := []) ⟨hx, hb, hml, hown, ht⟩ (c_X6_fails l D k o on op orr ot oh og od states bytes reading r4.2 wrongAt number hh at_ h14 _) (cwV 1 ht (gdV wb1086 wb1088 wb63 wb80 wb1089) rfl rfl rfl (by decide +kernel) ⟨Nat.le_of_ble_eq_true rfl, Nat.le_of_ble_eq_true rfl⟩) hK hP hD hS hA hm [0] rfl rfl 0 6 rfl rfl rfl hl.1 rfl (Nat.le_of_ble_eq_true rfl) dX6_takesParts_91 ⟨Nat.le_refl _, Nat.le_refl _⟩) hP hD hS hA [0] rfl rfl (fun H locs hP hD hS => ?_)
                  have hP : va_P D vwCl [(o, .inr (6, [.ref on, .ref op, .int states, .ref orr, .ref ot, .int bytes, .ref oh, .ref og, .ref od, .int reading, .int r4.2, .int r14.2, .int number, .long hh])), (ot, .inl (k 0, 120, .inl text)), (od, .inl (k 0, 132, .inl rread))] H := hP
                  have hD : va_D A [(o, .inr (6, [.ref on, .ref op, .int states, .ref orr, .ref ot, .int bytes, .ref oh, .ref og, .ref od, .int reading, .int r4.2, .int r14.2, .int number, .long hh])), (ot, .inl (k 0, 120, .inl text)), (od, .inl (k 0, 132, .inl rread))] := hD
                  obtain rfl := Option.some.inj h
                  exact W.zret (v := zB r14.1) (ty := .boolean) hx hb hr (zB_nar _) (fun t ht9 hW => ⟨⟨_, (), rfl, rfl, zend ht9 hP⟩, hS.F ht9⟩) hS.2.2 dX6_takesParts_94
        · have h := zt h c9
          refine lv_aload_n hx hb dX6_takesParts_28 rfl (lv_at hl 0 rfl) ?_
          refine lv_aload_n hx hb dX6_takesParts_29 rfl (lv_at hl 0 rfl) ?_
          refine va_get (D := D) (ci := 6) (v := .int at_) (C := RX6) (T := TX6) (N := 14) hx hb ht hiX6 hown hK hP 0 rfl rfl 10 (by decide) (ht _ wb775) (fun _ h9 => h9) rfl dX6_takesParts_30 ?_
          obtain ⟨r15, h15, h⟩ := zb h
          refine zi (zrV (C := RX6) (T := TX6) (N := 14) (As := [.int at_]) (rest := []) ⟨hx, hb, hml, hown, ht⟩ (c_X6_fails l D k o on op orr ot oh og od states bytes reading at_ wrongAt number hh at_ h15 _) (cwV 1 ht (gdV wb1086 wb1088 wb63 wb80 wb1089) rfl rfl rfl (by decide +kernel) ⟨Nat.le_of_ble_eq_true rfl, Nat.le_of_ble_eq_true rfl⟩) hK hP hD hS hA hm [0] rfl rfl 0 6 rfl rfl rfl hl.1 rfl (Nat.le_of_ble_eq_true rfl) dX6_takesParts_33 ⟨Nat.le_refl _, Nat.le_refl _⟩) hP hD hS hA [0] rfl rfl (fun H locs hP hD hS => ?_)
          have hP : va_P D vwCl [(o, .inr (6, [.ref on, .ref op, .int states, .ref orr, .ref ot, .int bytes, .ref oh, .ref og, .ref od, .int reading, .int at_, .int r15.2, .int number, .long hh])), (ot, .inl (k 0, 120, .inl text)), (od, .inl (k 0, 132, .inl rread))] H := hP
          have hD : va_D A [(o, .inr (6, [.ref on, .ref op, .int states, .ref orr, .ref ot, .int bytes, .ref oh, .ref og, .ref od, .int reading, .int at_, .int r15.2, .int number, .long hh])), (ot, .inl (k 0, 120, .inl text)), (od, .inl (k 0, 132, .inl rread))] := hD
          obtain rfl := Option.some.inj h
          exact W.zret (v := zB r15.1) (ty := .boolean) hx hb hr (zB_nar _) (fun t ht9 hW => ⟨⟨_, (), rfl, rfl, zend ht9 hP⟩, hS.F ht9⟩) hS.2.2 dX6_takesParts_36
  refine loop6 _ _ _ _ _ _ ?_ fu _ _ _ _ _ h _ _ hP hD hS _ (lv_sub hl [1, 0] rfl)
  intro x1 x2 x3 x4 x5 h H locs hP hD hS ls hl
  try dsimp only at h
  have hP : va_P D vwCl [(o, .inr (6, [.ref on, .ref op, .int states, .ref orr, .ref ot, .int bytes, .ref oh, .ref og, .ref od, .int reading, .int x2, .int x3, .int x4, .long hh])), (ot, .inl (k 0, 120, .inl text)), (od, .inl (k 0, 132, .inl x5))] H := hP
  have hD : va_D A [(o, .inr (6, [.ref on, .ref op, .int states, .ref orr, .ref ot, .int bytes, .ref oh, .ref og, .ref od, .int reading, .int x2, .int x3, .int x4, .long hh])), (ot, .inl (k 0, 120, .inl text)), (od, .inl (k 0, 132, .inl x5))] := hD
  have hl : lv_has ls 5 [(0, .ref o), (1, .int x1)] := hl
  refine lv_aload_n hx hb dX6_takesParts_118 rfl (lv_at hl 0 rfl) ?_
  refine lv_dup hx hb dX6_takesParts_119 rfl ?_
  refine va_get (D := D) (ci := 6) (v := .int x2) (C := RX6) (T := TX6) (N := 14) hx hb ht hiX6 hown hK hP 0 rfl rfl 10 (by decide) (ht _ wb775) (fun _ h9 => h9) rfl dX6_takesParts_120 ?_
  refine lv_iconst (v := 1) hx hb dX6_takesParts_123 (by decide) ?_
  refine lv_iadd hx hb dX6_takesParts_124 ?_
  refine va_put (D := D) (ci := 6) (v := .int (x2 + 1)) (ty := .int) (C := RX6) (T := TX6) (N := 14) hx hb ht hiX6 tyX6 tyX6_ok nmX6 hown hK hP hD hS 0 rfl rfl 10 (by decide) (ht _ wb775) (fun _ h9 => h9) rfl (by decide +kernel) rfl rfl (Nat.le_of_ble_eq_true rfl) dX6_takesParts_125 (fun H locs hP hD hS => ?_)
  have hP : va_P D vwCl [(o, .inr (6, [.ref on, .ref op, .int states, .ref orr, .ref ot, .int bytes, .ref oh, .ref og, .ref od, .int reading, .int (x2 + 1), .int x3, .int x4, .long hh])), (ot, .inl (k 0, 120, .inl text)), (od, .inl (k 0, 132, .inl x5))] H := hP
  have hD : va_D A [(o, .inr (6, [.ref on, .ref op, .int states, .ref orr, .ref ot, .int bytes, .ref oh, .ref og, .ref od, .int reading, .int (x2 + 1), .int x3, .int x4, .long hh])), (ot, .inl (k 0, 120, .inl text)), (od, .inl (k 0, 132, .inl x5))] := hD
  refine lv_iconst (v := 1) hx hb dX6_takesParts_128 (by decide) ?_
  obtain rfl := Option.some.inj h
  exact W.zret (v := 1) (ty := .boolean) hx hb hr (rfl) (fun t ht9 hW => ⟨⟨_, (), rfl, rfl, zend ht9 hP⟩, hS.F ht9⟩) hS.2.2 dX6_takesParts_129
def f_X6_takesRule (fu : Nat) (bytes : Int32) (reading : Int32) (at_ : Int32) (wrongAt : Int32) (number : Int32) (text : Nat → Int32) (rread : Nat → Int32)  : Option (Bool × Int32 × Int32 × Int32 × Int32 × (Nat → Int32)) :=
  if reading = 12 then ((f_X6_fails  at_).bind fun r1 => some (r1.1, reading, at_, r1.2, number, rread)) else ((f_X6_isAt bytes at_ text 97 122).bind fun r2 => if (zB r2) = 0 then ((f_X6_fails  at_).bind fun r9 => some (r9.1, reading, at_, r9.2, number, rread)) else ((f_X6_takesWord fu bytes at_ text ).bind fun r3 => (f_X6_wordBy  r3.1).bind fun r4 => (f_X6_in  r4 0 2).bind fun r5 => if (zB r5) = 0 then ((f_X6_fails  at_).bind fun r8 => some (r8.1, reading, r3.2, r8.2, number, rread)) else ((f_X6_begins fu 132 rread (11 * reading) r4).bind fun r6 => (f_X6_takesParts fu bytes reading r3.2 wrongAt number text r6 ).bind fun r7 => if (zB r7.1) = 0 then (some (false, reading, r7.2.1, r7.2.2.1, r7.2.2.2.1, r7.2.2.2.2)) else (some (true, reading + 1, r7.2.1, r7.2.2.1, r7.2.2.2.1, r7.2.2.2.2)))))
abbrev wk_X6_takesRule : List Cond := Cond.code yX6_takesRule cX6_takesRule 3 (some .boolean) :: WB
abbrev rm_X6_takesRule : Room := { frames := 7, cells := 0, slots := 0, locals := 155 }
set_option maxHeartbeats 4000000 in
set_option maxRecDepth 100000 in
theorem c_X6_takesRule (l : Launch) (D : va_G) (k : Nat → Nat) (o on op orr ot oh og od : Nat) (states : Int32) (bytes : Int32) (reading : Int32) (at_ : Int32) (wrongAt : Int32) (number : Int32) (hh : Int64) (text : Nat → Int32) (rread : Nat → Int32)  (fu : Nat) {res : Bool × Int32 × Int32 × Int32 × Int32 × (Nat → Int32)} (h : f_X6_takesRule fu bytes reading at_ wrongAt number text rread  = some res) : Ci l yX6_takesRule wk_X6_takesRule rm_X6_takesRule D k [.ref o] [(o, .inr (6, [.ref on, .ref op, .int states, .ref orr, .ref ot, .int bytes, .ref oh, .ref og, .ref od, .int reading, .int at_, .int wrongAt, .int number, .long hh])), (ot, .inl (k 0, 120, .inl text)), (od, .inl (k 0, 132, .inl rread))] [(o, .inr (6, [.ref on, .ref op, .int states, .ref orr, .ref ot, .int bytes, .ref oh, .ref og, .ref od, .int res.2.1, .int res.2.2.1, .int res.2.2.2.1, .int res.2.2.2.2.1, .long hh])), (ot, .inl (k 0, 120, .inl text)), (od, .inl (k 0, 132, .inl res.2.2.2.2.2))] (zB res.1) := by
  unfold Ci
  intro sz
  refine Met.ofW (cc := cX6_takesRule) (maxL := 3) (ret := (some .boolean)) (by decide) rfl ?_
  intro p e s m args below meth c s₁ B hml hv
  obtain ⟨rfl, hsz, hP, hK, hD0, hm⟩ := hv
  have hx := B.exec
  have hb := B.bytes
  have hr := B.returns
  have ht : ∀ w ∈ WB, w.before _ s = true := fun w hw => atoms_spec (ws := wk_X6_takesRule) B.pre w (List.mem_cons_of_mem _ hw)
  have hown : s.vm.findClass RX6 = some m.cls := findClass_of_methodNamed B.named
  have hlocks := B.notSynchronized
  subst hsz
  have hD := hD0.self (sz := s.heap.size)
  generalize hAe : va_A [(o, .inr (6, [.ref on, .ref op, .int states, .ref orr, .ref ot, .int bytes, .ref oh, .ref og, .ref od, .int reading, .int at_, .int wrongAt, .int number, .long hh])), (ot, .inl (k 0, 120, .inl text)), (od, .inl (k 0, 132, .inl rread))] s.heap.size = A at hD hm ⊢
  have hA : ∀ q : Nat, s.heap.size ≤ q → A q := fun q h => by rw [← hAe]; exact Or.inr h
  have hS : va_S A s.heap s.heap [] := va_S.rf
  have hl := lv_entry ([.ref o]) (n := 3) (Nat.le_of_ble_eq_true rfl)
  rw [lg_entry_eq]
  generalize (lg_sl ([.ref o]) ++ List.replicate (3 - (lg_sl ([.ref o])).length) Slot.unset).toArray = ls at hl ⊢
  have hl : lv_has ls 3 [(0, .ref o)] := hl
  obtain ⟨H, hH⟩ : ∃ H, H = s.heap := ⟨_, rfl⟩
  rw [← hH] at hP
  have hS : va_S A s.heap H [] := by rw [hH]; exact hS
  suffices hgo : W p l e _ s m _ below meth c H [] 0 0 _ _ by rw [hH] at hgo; exact hgo
  unfold f_X6_takesRule at h
  refine lv_aload_n hx hb dX6_takesRule_0 rfl (lv_at hl 0 rfl) ?_
  refine va_get (D := D) (ci := 6) (v := .int at_) (C := RX6) (T := TX6) (N := 14) hx hb ht hiX6 hown hK hP 0 rfl rfl 10 (by decide) (ht _ wb775) (fun _ h9 => h9) rfl dX6_takesRule_1 ?_
  refine lv_istore_n (lv' := [(1, .int at_), (0, .ref o)]) hx hb dX6_takesRule_4 rfl hl (by decide) rfl (fun ls hl => ?_)
  refine lv_aload_n hx hb dX6_takesRule_5 rfl (lv_at hl 1 rfl) ?_
  refine va_get (D := D) (ci := 6) (v := .int reading) (C := RX6) (T := TX6) (N := 14) hx hb ht hiX6 hown hK hP 0 rfl rfl 9 (by decide) (ht _ wb774) (fun _ h9 => h9) rfl dX6_takesRule_6 ?_
  refine lv_bipush (v := 12) hx hb dX6_takesRule_9 (by decide) ?_
  refine lv_icmp_eq (tgt := 25) hx hb dX6_takesRule_11 (by decide) (fun c4 => ?_) (fun c4 => ?_)
  · have h := zt h c4
    refine lv_aload_n hx hb dX6_takesRule_25 rfl (lv_at hl 1 rfl) ?_
    refine lv_iload_n hx hb dX6_takesRule_26 rfl (lv_at hl 0 rfl) ?_
    obtain ⟨r1, h1, h⟩ := zb h
    refine zi (zrV (C := RX6) (T := TX6) (N := 14) (As := [.int at_]) (rest := []) ⟨hx, hb, hml, hown, ht⟩ (c_X6_fails l D k o on op orr ot oh og od states bytes reading at_ wrongAt number hh at_ h1 _) (cwV 1 ht (gdV wb1086 wb1088 wb63 wb80 wb1089) rfl rfl rfl (by decide +kernel) ⟨Nat.le_of_ble_eq_true rfl, Nat.le_of_ble_eq_true rfl⟩) hK hP hD hS hA hm [0] rfl rfl 0 6 rfl rfl rfl hl.1 rfl (Nat.le_of_ble_eq_true rfl) dX6_takesRule_27 ⟨Nat.le_refl _, Nat.le_refl _⟩) hP hD hS hA [0] rfl rfl (fun H locs hP hD hS => ?_)
    have hP : va_P D vwCl [(o, .inr (6, [.ref on, .ref op, .int states, .ref orr, .ref ot, .int bytes, .ref oh, .ref og, .ref od, .int reading, .int at_, .int r1.2, .int number, .long hh])), (ot, .inl (k 0, 120, .inl text)), (od, .inl (k 0, 132, .inl rread))] H := hP
    have hD : va_D A [(o, .inr (6, [.ref on, .ref op, .int states, .ref orr, .ref ot, .int bytes, .ref oh, .ref og, .ref od, .int reading, .int at_, .int r1.2, .int number, .long hh])), (ot, .inl (k 0, 120, .inl text)), (od, .inl (k 0, 132, .inl rread))] := hD
    obtain rfl := Option.some.inj h
    exact W.zret (v := zB r1.1) (ty := .boolean) hx hb hr (zB_nar _) (fun t ht9 hW => ⟨⟨_, (), rfl, rfl, zend ht9 hP⟩, hS.F ht9⟩) hS.2.2 dX6_takesRule_30
  · have h := zf h c4
    refine lv_aload_n hx hb dX6_takesRule_14 rfl (lv_at hl 1 rfl) ?_
    refine lv_bipush (v := 97) hx hb dX6_takesRule_15 (by decide) ?_
    refine lv_bipush (v := 122) hx hb dX6_takesRule_17 (by decide) ?_
    obtain ⟨r2, h2, h⟩ := zb h
    refine zi (zrV (C := RX6) (T := TX6) (N := 14) (As := [.int 97, .int 122]) (rest := []) ⟨hx, hb, hml, hown, ht⟩ (c_X6_isAt l D k o on op orr ot oh og od states bytes reading at_ wrongAt number hh text 97 122 h2 _) (cwV 2 ht (gdV wb1078 wb1080 wb61 wb80 wb1081) rfl rfl rfl (by decide +kernel) ⟨Nat.le_of_ble_eq_true rfl, Nat.le_of_ble_eq_true rfl⟩) hK hP hD hS hA hm [0, 1] rfl rfl 0 6 rfl rfl rfl hl.1 rfl (Nat.le_of_ble_eq_true rfl) dX6_takesRule_19 ⟨Nat.le_refl _, Nat.le_refl _⟩) hP hD hS hA [0, 1] rfl rfl (fun H locs hP hD hS => ?_)
    have hP : va_P D vwCl [(o, .inr (6, [.ref on, .ref op, .int states, .ref orr, .ref ot, .int bytes, .ref oh, .ref og, .ref od, .int reading, .int at_, .int wrongAt, .int number, .long hh])), (ot, .inl (k 0, 120, .inl text)), (od, .inl (k 0, 132, .inl rread))] H := hP
    have hD : va_D A [(o, .inr (6, [.ref on, .ref op, .int states, .ref orr, .ref ot, .int bytes, .ref oh, .ref og, .ref od, .int reading, .int at_, .int wrongAt, .int number, .long hh])), (ot, .inl (k 0, 120, .inl text)), (od, .inl (k 0, 132, .inl rread))] := hD
    refine lv_if_ne (tgt := 31) hx hb dX6_takesRule_22 (by decide) (fun c3 => ?_) (fun c3 => ?_)
    · have h := zf h c3
      refine lv_aload_n hx hb dX6_takesRule_31 rfl (lv_at hl 1 rfl) ?_
      obtain ⟨r3, h3, h⟩ := zb h
      refine zl (zrV (C := RX6) (T := TX6) (N := 14) (As := []) (rest := []) ⟨hx, hb, hml, hown, ht⟩ (c_X6_takesWord l D k o on op orr ot oh og od states bytes reading at_ wrongAt number hh text  fu h3 _) (cwV 0 ht (gdV wb1090 wb1092 wb64 wb80 wb1093) rfl rfl rfl (by decide +kernel) ⟨Nat.le_of_ble_eq_true rfl, Nat.le_of_ble_eq_true rfl⟩) hK hP hD hS hA hm [0, 1] rfl rfl 0 6 rfl rfl rfl hl.1 rfl (Nat.le_of_ble_eq_true rfl) dX6_takesRule_32 ⟨Nat.le_refl _, Nat.le_refl _⟩) hP hD hS hA [0, 1] rfl rfl (fun H locs hP hD hS => ?_)
      have hP : va_P D vwCl [(o, .inr (6, [.ref on, .ref op, .int states, .ref orr, .ref ot, .int bytes, .ref oh, .ref og, .ref od, .int reading, .int r3.2, .int wrongAt, .int number, .long hh])), (ot, .inl (k 0, 120, .inl text)), (od, .inl (k 0, 132, .inl rread))] H := hP
      have hD : va_D A [(o, .inr (6, [.ref on, .ref op, .int states, .ref orr, .ref ot, .int bytes, .ref oh, .ref og, .ref od, .int reading, .int r3.2, .int wrongAt, .int number, .long hh])), (ot, .inl (k 0, 120, .inl text)), (od, .inl (k 0, 132, .inl rread))] := hD
      obtain ⟨r4, h4, h⟩ := zb h
      refine zi (zrS (As := [.long r3.1]) (rest := []) ⟨hx, hb, hml, hown, ht⟩ (c_X6_wordBy l D k   r3.1 h4 _) (va_cwS 1 ht (gdS wb1100 wb1101 wb80 wb1102) rfl rfl rfl (by decide +kernel) ⟨Nat.le_of_ble_eq_true rfl, Nat.le_of_ble_eq_true rfl⟩) hK hP hD hS hA hm [] rfl rfl rfl hl.1 rfl (Nat.le_of_ble_eq_true rfl) dX6_takesRule_35 ⟨Nat.le_refl _, Nat.le_refl _⟩) hP hD hS hA [] rfl rfl (fun H locs hP hD hS => ?_)
      have hP : va_P D vwCl [(o, .inr (6, [.ref on, .ref op, .int states, .ref orr, .ref ot, .int bytes, .ref oh, .ref og, .ref od, .int reading, .int r3.2, .int wrongAt, .int number, .long hh])), (ot, .inl (k 0, 120, .inl text)), (od, .inl (k 0, 132, .inl rread))] H := hP
      have hD : va_D A [(o, .inr (6, [.ref on, .ref op, .int states, .ref orr, .ref ot, .int bytes, .ref oh, .ref og, .ref od, .int reading, .int r3.2, .int wrongAt, .int number, .long hh])), (ot, .inl (k 0, 120, .inl text)), (od, .inl (k 0, 132, .inl rread))] := hD
      refine lv_istore_n (lv' := [(2, .int r4), (1, .int at_), (0, .ref o)]) hx hb dX6_takesRule_38 rfl hl (by decide) rfl (fun ls hl => ?_)
      refine lv_iload_n hx hb dX6_takesRule_39 rfl (lv_at hl 0 rfl) ?_
      refine lv_iconst (v := 0) hx hb dX6_takesRule_40 (by decide) ?_
      refine lv_iconst (v := 2) hx hb dX6_takesRule_41 (by decide) ?_
      obtain ⟨r5, h5, h⟩ := zb h
      refine zi (zrS (As := [.int r4, .int 0, .int 2]) (rest := []) ⟨hx, hb, hml, hown, ht⟩ (c_X6_in l D k   r4 0 2 h5 _) (va_cwS 3 ht (gdS wb820 wb821 wb80 wb822) rfl rfl rfl (by decide +kernel) ⟨Nat.le_of_ble_eq_true rfl, Nat.le_of_ble_eq_true rfl⟩) hK hP hD hS hA hm [] rfl rfl rfl hl.1 rfl (Nat.le_of_ble_eq_true rfl) dX6_takesRule_42 ⟨Nat.le_refl _, Nat.le_refl _⟩) hP hD hS hA [] rfl rfl (fun H locs hP hD hS => ?_)
      have hP : va_P D vwCl [(o, .inr (6, [.ref on, .ref op, .int states, .ref orr, .ref ot, .int bytes, .ref oh, .ref og, .ref od, .int reading, .int r3.2, .int wrongAt, .int number, .long hh])), (ot, .inl (k 0, 120, .inl text)), (od, .inl (k 0, 132, .inl rread))] H := hP
      have hD : va_D A [(o, .inr (6, [.ref on, .ref op, .int states, .ref orr, .ref ot, .int bytes, .ref oh, .ref og, .ref od, .int reading, .int r3.2, .int wrongAt, .int number, .long hh])), (ot, .inl (k 0, 120, .inl text)), (od, .inl (k 0, 132, .inl rread))] := hD
      refine lv_if_ne (tgt := 54) hx hb dX6_takesRule_45 (by decide) (fun c2 => ?_) (fun c2 => ?_)
      · have h := zf h c2
        refine lv_aload_n hx hb dX6_takesRule_54 rfl (lv_at hl 2 rfl) ?_
        refine va_get (D := D) (ci := 6) (v := .ref od) (C := RX6) (T := TX6) (N := 14) hx hb ht hiX6 hown hK hP 0 rfl rfl 8 (by decide) (ht _ wb773) (fun _ h9 => h9) rfl dX6_takesRule_55 ?_
        refine lv_bipush (v := 11) hx hb dX6_takesRule_58 (by decide) ?_
        refine lv_aload_n hx hb dX6_takesRule_60 rfl (lv_at hl 2 rfl) ?_
        refine va_get (D := D) (ci := 6) (v := .int reading) (C := RX6) (T := TX6) (N := 14) hx hb ht hiX6 hown hK hP 0 rfl rfl 9 (by decide) (ht _ wb774) (fun _ h9 => h9) rfl dX6_takesRule_61 ?_
        refine lv_imul hx hb dX6_takesRule_64 ?_
        refine lv_iload_n hx hb dX6_takesRule_65 rfl (lv_at hl 0 rfl) ?_
        obtain ⟨r6, h6, h⟩ := zb h
        refine zv (zrS (As := [.ref od, .int (11 * reading), .int r4]) (rest := []) ⟨hx, hb, hml, hown, ht⟩ (c_X6_begins l D k od 132 rread (11 * reading) r4 fu h6 _) (va_cwS 3 ht (gdS wb850 wb851 wb80 wb852) rfl rfl rfl (by decide +kernel) ⟨Nat.le_of_ble_eq_true rfl, Nat.le_of_ble_eq_true rfl⟩) hK hP hD hS hA hm [2] rfl rfl rfl hl.1 rfl (Nat.le_of_ble_eq_true rfl) dX6_takesRule_66 ⟨Nat.le_refl _, Nat.le_refl _⟩) hP hD hS hA [2] rfl rfl (fun H locs hP hD hS => ?_)
        have hP : va_P D vwCl [(o, .inr (6, [.ref on, .ref op, .int states, .ref orr, .ref ot, .int bytes, .ref oh, .ref og, .ref od, .int reading, .int r3.2, .int wrongAt, .int number, .long hh])), (ot, .inl (k 0, 120, .inl text)), (od, .inl (k 0, 132, .inl r6))] H := hP
        have hD : va_D A [(o, .inr (6, [.ref on, .ref op, .int states, .ref orr, .ref ot, .int bytes, .ref oh, .ref og, .ref od, .int reading, .int r3.2, .int wrongAt, .int number, .long hh])), (ot, .inl (k 0, 120, .inl text)), (od, .inl (k 0, 132, .inl r6))] := hD
        refine lv_aload_n hx hb dX6_takesRule_69 rfl (lv_at hl 2 rfl) ?_
        obtain ⟨r7, h7, h⟩ := zb h
        refine zi (zrV (C := RX6) (T := TX6) (N := 14) (As := []) (rest := []) ⟨hx, hb, hml, hown, ht⟩ (c_X6_takesParts l D k o on op orr ot oh og od states bytes reading r3.2 wrongAt number hh text r6  fu h7 _) (cwV 0 ht (gdV wb1106 wb1108 wb65 wb80 wb1109) rfl rfl rfl (by decide +kernel) ⟨Nat.le_of_ble_eq_true rfl, Nat.le_of_ble_eq_true rfl⟩) hK hP hD hS hA hm [0, 1, 2] rfl rfl 0 6 rfl rfl rfl hl.1 rfl (Nat.le_of_ble_eq_true rfl) dX6_takesRule_70 ⟨Nat.le_refl _, Nat.le_refl _⟩) hP hD hS hA [0, 1, 2] rfl rfl (fun H locs hP hD hS => ?_)
        have hP : va_P D vwCl [(o, .inr (6, [.ref on, .ref op, .int states, .ref orr, .ref ot, .int bytes, .ref oh, .ref og, .ref od, .int reading, .int r7.2.1, .int r7.2.2.1, .int r7.2.2.2.1, .long hh])), (ot, .inl (k 0, 120, .inl text)), (od, .inl (k 0, 132, .inl r7.2.2.2.2))] H := hP
        have hD : va_D A [(o, .inr (6, [.ref on, .ref op, .int states, .ref orr, .ref ot, .int bytes, .ref oh, .ref og, .ref od, .int reading, .int r7.2.1, .int r7.2.2.1, .int r7.2.2.2.1, .long hh])), (ot, .inl (k 0, 120, .inl text)), (od, .inl (k 0, 132, .inl r7.2.2.2.2))] := hD
        refine lv_if_ne (tgt := 78) hx hb dX6_takesRule_73 (by decide) (fun c1 => ?_) (fun c1 => ?_)
        · have h := zf h c1
          refine lv_aload_n hx hb dX6_takesRule_78 rfl (lv_at hl 2 rfl) ?_
          refine lv_dup hx hb dX6_takesRule_79 rfl ?_
          refine va_get (D := D) (ci := 6) (v := .int reading) (C := RX6) (T := TX6) (N := 14) hx hb ht hiX6 hown hK hP 0 rfl rfl 9 (by decide) (ht _ wb774) (fun _ h9 => h9) rfl dX6_takesRule_80 ?_
          refine lv_iconst (v := 1) hx hb dX6_takesRule_83 (by decide) ?_
          refine lv_iadd hx hb dX6_takesRule_84 ?_
          refine va_put (D := D) (ci := 6) (v := .int (reading + 1)) (ty := .int) (C := RX6) (T := TX6) (N := 14) hx hb ht hiX6 tyX6 tyX6_ok nmX6 hown hK hP hD hS 0 rfl rfl 9 (by decide) (ht _ wb774) (fun _ h9 => h9) rfl (by decide +kernel) rfl rfl (Nat.le_of_ble_eq_true rfl) dX6_takesRule_85 (fun H locs hP hD hS => ?_)
          have hP : va_P D vwCl [(o, .inr (6, [.ref on, .ref op, .int states, .ref orr, .ref ot, .int bytes, .ref oh, .ref og, .ref od, .int (reading + 1), .int r7.2.1, .int r7.2.2.1, .int r7.2.2.2.1, .long hh])), (ot, .inl (k 0, 120, .inl text)), (od, .inl (k 0, 132, .inl r7.2.2.2.2))] H := hP
          have hD : va_D A [(o, .inr (6, [.ref on, .ref op, .int states, .ref orr, .ref ot, .int bytes, .ref oh, .ref og, .ref od, .int (reading + 1), .int r7.2.1, .int r7.2.2.1, .int r7.2.2.2.1, .long hh])), (ot, .inl (k 0, 120, .inl text)), (od, .inl (k 0, 132, .inl r7.2.2.2.2))] := hD
          refine lv_iconst (v := 1) hx hb dX6_takesRule_88 (by decide) ?_
          obtain rfl := Option.some.inj h
          exact W.zret (v := 1) (ty := .boolean) hx hb hr (rfl) (fun t ht9 hW => ⟨⟨_, (), rfl, rfl, zend ht9 hP⟩, hS.F ht9⟩) hS.2.2 dX6_takesRule_89
        · have h := zt h c1
          refine lv_iconst (v := 0) hx hb dX6_takesRule_76 (by decide) ?_
          obtain rfl := Option.some.inj h
          exact W.zret (v := 0) (ty := .boolean) hx hb hr (rfl) (fun t ht9 hW => ⟨⟨_, (), rfl, rfl, zend ht9 hP⟩, hS.F ht9⟩) hS.2.2 dX6_takesRule_77
      · have h := zt h c2
        refine lv_aload_n hx hb dX6_takesRule_48 rfl (lv_at hl 2 rfl) ?_
        refine lv_iload_n hx hb dX6_takesRule_49 rfl (lv_at hl 1 rfl) ?_
        obtain ⟨r8, h8, h⟩ := zb h
        refine zi (zrV (C := RX6) (T := TX6) (N := 14) (As := [.int at_]) (rest := []) ⟨hx, hb, hml, hown, ht⟩ (c_X6_fails l D k o on op orr ot oh og od states bytes reading r3.2 wrongAt number hh at_ h8 _) (cwV 1 ht (gdV wb1086 wb1088 wb63 wb80 wb1089) rfl rfl rfl (by decide +kernel) ⟨Nat.le_of_ble_eq_true rfl, Nat.le_of_ble_eq_true rfl⟩) hK hP hD hS hA hm [0] rfl rfl 0 6 rfl rfl rfl hl.1 rfl (Nat.le_of_ble_eq_true rfl) dX6_takesRule_50 ⟨Nat.le_refl _, Nat.le_refl _⟩) hP hD hS hA [0] rfl rfl (fun H locs hP hD hS => ?_)
        have hP : va_P D vwCl [(o, .inr (6, [.ref on, .ref op, .int states, .ref orr, .ref ot, .int bytes, .ref oh, .ref og, .ref od, .int reading, .int r3.2, .int r8.2, .int number, .long hh])), (ot, .inl (k 0, 120, .inl text)), (od, .inl (k 0, 132, .inl rread))] H := hP
        have hD : va_D A [(o, .inr (6, [.ref on, .ref op, .int states, .ref orr, .ref ot, .int bytes, .ref oh, .ref og, .ref od, .int reading, .int r3.2, .int r8.2, .int number, .long hh])), (ot, .inl (k 0, 120, .inl text)), (od, .inl (k 0, 132, .inl rread))] := hD
        obtain rfl := Option.some.inj h
        exact W.zret (v := zB r8.1) (ty := .boolean) hx hb hr (zB_nar _) (fun t ht9 hW => ⟨⟨_, (), rfl, rfl, zend ht9 hP⟩, hS.F ht9⟩) hS.2.2 dX6_takesRule_53
    · have h := zt h c3
      refine lv_aload_n hx hb dX6_takesRule_25 rfl (lv_at hl 1 rfl) ?_
      refine lv_iload_n hx hb dX6_takesRule_26 rfl (lv_at hl 0 rfl) ?_
      obtain ⟨r9, h9, h⟩ := zb h
      refine zi (zrV (C := RX6) (T := TX6) (N := 14) (As := [.int at_]) (rest := []) ⟨hx, hb, hml, hown, ht⟩ (c_X6_fails l D k o on op orr ot oh og od states bytes reading at_ wrongAt number hh at_ h9 _) (cwV 1 ht (gdV wb1086 wb1088 wb63 wb80 wb1089) rfl rfl rfl (by decide +kernel) ⟨Nat.le_of_ble_eq_true rfl, Nat.le_of_ble_eq_true rfl⟩) hK hP hD hS hA hm [0] rfl rfl 0 6 rfl rfl rfl hl.1 rfl (Nat.le_of_ble_eq_true rfl) dX6_takesRule_27 ⟨Nat.le_refl _, Nat.le_refl _⟩) hP hD hS hA [0] rfl rfl (fun H locs hP hD hS => ?_)
      have hP : va_P D vwCl [(o, .inr (6, [.ref on, .ref op, .int states, .ref orr, .ref ot, .int bytes, .ref oh, .ref og, .ref od, .int reading, .int at_, .int r9.2, .int number, .long hh])), (ot, .inl (k 0, 120, .inl text)), (od, .inl (k 0, 132, .inl rread))] H := hP
      have hD : va_D A [(o, .inr (6, [.ref on, .ref op, .int states, .ref orr, .ref ot, .int bytes, .ref oh, .ref og, .ref od, .int reading, .int at_, .int r9.2, .int number, .long hh])), (ot, .inl (k 0, 120, .inl text)), (od, .inl (k 0, 132, .inl rread))] := hD
      obtain rfl := Option.some.inj h
      exact W.zret (v := zB r9.1) (ty := .boolean) hx hb hr (zB_nar _) (fun t ht9 hW => ⟨⟨_, (), rfl, rfl, zend ht9 hP⟩, hS.F ht9⟩) hS.2.2 dX6_takesRule_30
def f_X6_isRead_L16 (fu : Nat) (K : Bool → Int32 → Int32 → Int32 → Int32 → (Nat → Int32) → Option (Bool × Int32 × Int32 × Int32 × Int32 × (Nat → Int32))) (bytes : Int32) (text : Nat → Int32) : Nat → Bool → Int32 → Int32 → Int32 → Int32 → (Nat → Int32) → Option (Bool × Int32 × Int32 × Int32 × Int32 × (Nat → Int32))
  | 0, _, _, _, _, _, _ => none
  | n + 1, v1, reading, at_, wrongAt, number, rread =>
  if (zB v1) = 0 then (K v1 reading at_ wrongAt number rread) else (if bytes ≤ at_ then (K v1 reading at_ wrongAt number rread) else ((f_X6_takesRule fu bytes reading at_ wrongAt number text rread ).bind fun r2 => (f_X6_blanks fu bytes r2.2.2.1 text ).bind fun r3 => f_X6_isRead_L16 fu K bytes text n r2.1 r2.2.1 r3 r2.2.2.2.1 r2.2.2.2.2.1 r2.2.2.2.2.2))
def f_X6_isRead (fu : Nat) (bytes : Int32) (wrongAt : Int32) (number : Int32) (text : Nat → Int32) (rread : Nat → Int32)  : Option (Bool × Int32 × Int32 × Int32 × Int32 × (Nat → Int32)) :=
  (f_X6_blanks fu bytes 0 text ).bind fun r1 => f_X6_isRead_L16 fu (fun (x1 : Bool) (x2 : Int32) (x3 : Int32) (x4 : Int32) (x5 : Int32) (x6 : Nat → Int32) => some (x1, x2, x3, x4, x5, x6)) bytes text fu true 0 r1 wrongAt number rread
abbrev wk_X6_isRead : List Cond := Cond.code yX6_isRead cX6_isRead 2 (some .boolean) :: WB
abbrev rm_X6_isRead : Room := { frames := 8, cells := 0, slots := 0, locals := 177 }
set_option maxHeartbeats 4000000 in
set_option maxRecDepth 100000 in
theorem c_X6_isRead (l : Launch) (D : va_G) (k : Nat → Nat) (o on op orr ot oh og od : Nat) (states : Int32) (bytes : Int32) (reading : Int32) (at_ : Int32) (wrongAt : Int32) (number : Int32) (hh : Int64) (text : Nat → Int32) (rread : Nat → Int32)  (fu : Nat) {res : Bool × Int32 × Int32 × Int32 × Int32 × (Nat → Int32)} (h : f_X6_isRead fu bytes wrongAt number text rread  = some res) : Ci l yX6_isRead wk_X6_isRead rm_X6_isRead D k [.ref o] [(o, .inr (6, [.ref on, .ref op, .int states, .ref orr, .ref ot, .int bytes, .ref oh, .ref og, .ref od, .int reading, .int at_, .int wrongAt, .int number, .long hh])), (ot, .inl (k 0, 120, .inl text)), (od, .inl (k 0, 132, .inl rread))] [(o, .inr (6, [.ref on, .ref op, .int states, .ref orr, .ref ot, .int bytes, .ref oh, .ref og, .ref od, .int res.2.1, .int res.2.2.1, .int res.2.2.2.1, .int res.2.2.2.2.1, .long hh])), (ot, .inl (k 0, 120, .inl text)), (od, .inl (k 0, 132, .inl res.2.2.2.2.2))] (zB res.1) := by
  unfold Ci
  intro sz
  refine Met.ofW (cc := cX6_isRead) (maxL := 2) (ret := (some .boolean)) (by decide) rfl ?_
  intro p e s m args below meth c s₁ B hml hv
  obtain ⟨rfl, hsz, hP, hK, hD0, hm⟩ := hv
  have hx := B.exec
  have hb := B.bytes
  have hr := B.returns
  have ht : ∀ w ∈ WB, w.before _ s = true := fun w hw => atoms_spec (ws := wk_X6_isRead) B.pre w (List.mem_cons_of_mem _ hw)
  have hown : s.vm.findClass RX6 = some m.cls := findClass_of_methodNamed B.named
  have hlocks := B.notSynchronized
  subst hsz
  have hD := hD0.self (sz := s.heap.size)
  generalize hAe : va_A [(o, .inr (6, [.ref on, .ref op, .int states, .ref orr, .ref ot, .int bytes, .ref oh, .ref og, .ref od, .int reading, .int at_, .int wrongAt, .int number, .long hh])), (ot, .inl (k 0, 120, .inl text)), (od, .inl (k 0, 132, .inl rread))] s.heap.size = A at hD hm ⊢
  have hA : ∀ q : Nat, s.heap.size ≤ q → A q := fun q h => by rw [← hAe]; exact Or.inr h
  have hS : va_S A s.heap s.heap [] := va_S.rf
  have hl := lv_entry ([.ref o]) (n := 2) (Nat.le_of_ble_eq_true rfl)
  rw [lg_entry_eq]
  generalize (lg_sl ([.ref o]) ++ List.replicate (2 - (lg_sl ([.ref o])).length) Slot.unset).toArray = ls at hl ⊢
  have hl : lv_has ls 2 [(0, .ref o)] := hl
  obtain ⟨H, hH⟩ : ∃ H, H = s.heap := ⟨_, rfl⟩
  rw [← hH] at hP
  have hS : va_S A s.heap H [] := by rw [hH]; exact hS
  suffices hgo : W p l e _ s m _ below meth c H [] 0 0 _ _ by rw [hH] at hgo; exact hgo
  unfold f_X6_isRead at h
  refine lv_aload_n hx hb dX6_isRead_0 rfl (lv_at hl 0 rfl) ?_
  refine lv_iconst (v := 0) hx hb dX6_isRead_1 (by decide) ?_
  refine va_put (D := D) (ci := 6) (v := .int 0) (ty := .int) (C := RX6) (T := TX6) (N := 14) hx hb ht hiX6 tyX6 tyX6_ok nmX6 hown hK hP hD hS 0 rfl rfl 10 (by decide) (ht _ wb775) (fun _ h9 => h9) rfl (by decide +kernel) rfl rfl (Nat.le_of_ble_eq_true rfl) dX6_isRead_2 (fun H locs hP hD hS => ?_)
  have hP : va_P D vwCl [(o, .inr (6, [.ref on, .ref op, .int states, .ref orr, .ref ot, .int bytes, .ref oh, .ref og, .ref od, .int reading, .int 0, .int wrongAt, .int number, .long hh])), (ot, .inl (k 0, 120, .inl text)), (od, .inl (k 0, 132, .inl rread))] H := hP
  have hD : va_D A [(o, .inr (6, [.ref on, .ref op, .int states, .ref orr, .ref ot, .int bytes, .ref oh, .ref og, .ref od, .int reading, .int 0, .int wrongAt, .int number, .long hh])), (ot, .inl (k 0, 120, .inl text)), (od, .inl (k 0, 132, .inl rread))] := hD
  refine lv_aload_n hx hb dX6_isRead_5 rfl (lv_at hl 0 rfl) ?_
  refine lv_iconst (v := 0) hx hb dX6_isRead_6 (by decide) ?_
  refine va_put (D := D) (ci := 6) (v := .int 0) (ty := .int) (C := RX6) (T := TX6) (N := 14) hx hb ht hiX6 tyX6 tyX6_ok nmX6 hown hK hP hD hS 0 rfl rfl 9 (by decide) (ht _ wb774) (fun _ h9 => h9) rfl (by decide +kernel) rfl rfl (Nat.le_of_ble_eq_true rfl) dX6_isRead_7 (fun H locs hP hD hS => ?_)
  have hP : va_P D vwCl [(o, .inr (6, [.ref on, .ref op, .int states, .ref orr, .ref ot, .int bytes, .ref oh, .ref og, .ref od, .int 0, .int 0, .int wrongAt, .int number, .long hh])), (ot, .inl (k 0, 120, .inl text)), (od, .inl (k 0, 132, .inl rread))] H := hP
  have hD : va_D A [(o, .inr (6, [.ref on, .ref op, .int states, .ref orr, .ref ot, .int bytes, .ref oh, .ref og, .ref od, .int 0, .int 0, .int wrongAt, .int number, .long hh])), (ot, .inl (k 0, 120, .inl text)), (od, .inl (k 0, 132, .inl rread))] := hD
  refine lv_aload_n hx hb dX6_isRead_10 rfl (lv_at hl 0 rfl) ?_
  obtain ⟨r1, h1, h⟩ := zb h
  refine zv (zrV (C := RX6) (T := TX6) (N := 14) (As := []) (rest := []) ⟨hx, hb, hml, hown, ht⟩ (c_X6_blanks l D k o on op orr ot oh og od states bytes 0 0 wrongAt number hh text  fu h1 _) (cwV 0 ht (gdV wb1074 wb1076 wb60 wb80 wb1077) rfl rfl rfl (by decide +kernel) ⟨Nat.le_of_ble_eq_true rfl, Nat.le_of_ble_eq_true rfl⟩) hK hP hD hS hA hm [0, 1] rfl rfl 0 6 rfl rfl rfl hl.1 rfl (Nat.le_of_ble_eq_true rfl) dX6_isRead_11 ⟨Nat.le_refl _, Nat.le_refl _⟩) hP hD hS hA [0, 1] rfl rfl (fun H locs hP hD hS => ?_)
  have hP : va_P D vwCl [(o, .inr (6, [.ref on, .ref op, .int states, .ref orr, .ref ot, .int bytes, .ref oh, .ref og, .ref od, .int 0, .int r1, .int wrongAt, .int number, .long hh])), (ot, .inl (k 0, 120, .inl text)), (od, .inl (k 0, 132, .inl rread))] H := hP
  have hD : va_D A [(o, .inr (6, [.ref on, .ref op, .int states, .ref orr, .ref ot, .int bytes, .ref oh, .ref og, .ref od, .int 0, .int r1, .int wrongAt, .int number, .long hh])), (ot, .inl (k 0, 120, .inl text)), (od, .inl (k 0, 132, .inl rread))] := hD
  refine lv_iconst (v := 1) hx hb dX6_isRead_14 (by decide) ?_
  refine lv_istore_n (lv' := [(1, .int 1), (0, .ref o)]) hx hb dX6_isRead_15 rfl hl (by decide) rfl (fun ls hl => ?_)
  have loop16 : ∀ (states : Int32) (bytes : Int32) (hh : Int64) (text : Nat → Int32), ∀ (K : Bool → Int32 → Int32 → Int32 → Int32 → (Nat → Int32) → Option (Bool × Int32 × Int32 × Int32 × Int32 × (Nat → Int32))), (∀ (v1 : Bool) (reading : Int32) (at_ : Int32) (wrongAt : Int32) (number : Int32) (rread : Nat → Int32), K v1 reading at_ wrongAt number rread = some res → ∀ (H : Heap) (locs : List Loc), va_P D vwCl [(o, .inr (6, [.ref on, .ref op, .int states, .ref orr, .ref ot, .int bytes, .ref oh, .ref og, .ref od, .int reading, .int at_, .int wrongAt, .int number, .long hh])), (ot, .inl (k 0, 120, .inl text)), (od, .inl (k 0, 132, .inl rread))] H → va_D A [(o, .inr (6, [.ref on, .ref op, .int states, .ref orr, .ref ot, .int bytes, .ref oh, .ref og, .ref od, .int reading, .int at_, .int wrongAt, .int number, .long hh])), (ot, .inl (k 0, 120, .inl text)), (od, .inl (k 0, 132, .inl rread))] → va_S A s.heap H locs → ∀ ls : Array Slot, lv_has ls 2 [(0, .ref o), (1, .int (zB v1))] → W p l e (headSpec wk_X6_isRead rm_X6_isRead).room s m ([.ref o] : List Value).toArray below meth c H locs 0 0 (MQ below (va_Qi (fun xq9 (_ : Unit) => xq9 = zB res.1) (fun _ tq9 => va_P D vwCl [(o, .inr (6, [.ref on, .ref op, .int states, .ref orr, .ref ot, .int bytes, .ref oh, .ref og, .ref od, .int res.2.1, .int res.2.2.1, .int res.2.2.2.1, .int res.2.2.2.2.1, .long hh])), (ot, .inl (k 0, 120, .inl text)), (od, .inl (k 0, 132, .inl res.2.2.2.2.2))] tq9.heap) A) ([.ref o] : List Value).toArray s 0 0 A) (F0 m 43 ls [])) → ∀ (n : Nat) (v1 : Bool) (reading : Int32) (at_ : Int32) (wrongAt : Int32) (number : Int32) (rread : Nat → Int32), f_X6_isRead_L16 fu K bytes text n v1 reading at_ wrongAt number rread = some res → ∀ (H : Heap) (locs : List Loc), va_P D vwCl [(o, .inr (6, [.ref on, .ref op, .int states, .ref orr, .ref ot, .int bytes, .ref oh, .ref og, .ref od, .int reading, .int at_, .int wrongAt, .int number, .long hh])), (ot, .inl (k 0, 120, .inl text)), (od, .inl (k 0, 132, .inl rread))] H → va_D A [(o, .inr (6, [.ref on, .ref op, .int states, .ref orr, .ref ot, .int bytes, .ref oh, .ref og, .ref od, .int reading, .int at_, .int wrongAt, .int number, .long hh])), (ot, .inl (k 0, 120, .inl text)), (od, .inl (k 0, 132, .inl rread))] → va_S A s.heap H locs → ∀ ls : Array Slot, lv_has ls 2 [(0, .ref o), (1, .int (zB v1))] → W p l e (headSpec wk_X6_isRead rm_X6_isRead).room s m ([.ref o] : List Value).toArray below meth c H locs 0 0 (MQ below (va_Qi (fun xq9 (_ : Unit) => xq9 = zB res.1) (fun _ tq9 => va_P D vwCl [(o, .inr (6, [.ref on, .ref op, .int states, .ref orr, .ref ot, .int bytes, .ref oh, .ref og, .ref od, .int res.2.1, .int res.2.2.1, .int res.2.2.2.1, .int res.2.2.2.2.1, .long hh])), (ot, .inl (k 0, 120, .inl text)), (od, .inl (k 0, 132, .inl res.2.2.2.2.2))] tq9.heap) A) ([.ref o] : List Value).toArray s 0 0 A) (F0 m 16 ls []) := by
    intro states bytes hh text K hKK n
    induction n with
    | zero =>
      intro v1 reading at_ wrongAt number rread h
      rw [f_X6_isRead_L16] at h
      cases h
    | succ n ih =>
      intro v1 reading at_ wrongAt number rread h H locs hP hD hS ls hl
      rw [f_X6_isRead_L16] at h
      refine lv_iload_n hx hb dX6_isRead_16 rfl (lv_at hl 1 rfl) ?_
      refine lv_if_eq (tgt := 43) hx hb dX6_isRead_17 (by decide) (fun c2 => ?_) (fun c2 => ?_)
      · have h := zt h c2
        exact hKK _ _ _ _ _ _ h _ _ hP hD hS _ (lv_sub hl [0, 1] rfl)
      · have h := zf h c2
        refine lv_aload_n hx hb dX6_isRead_20 rfl (lv_at hl 0 rfl) ?_
        refine va_get (D := D) (ci := 6) (v := .int at_) (C := RX6) (T := TX6) (N := 14) hx hb ht hiX6 hown hK hP 0 rfl rfl 10 (by decide) (ht _ wb775) (fun _ h9 => h9) rfl dX6_isRead_21 ?_
        refine lv_aload_n hx hb dX6_isRead_24 rfl (lv_at hl 0 rfl) ?_
        refine va_get (D := D) (ci := 6) (v := .int bytes) (C := RX6) (T := TX6) (N := 14) hx hb ht hiX6 hown hK hP 0 rfl rfl 5 (by decide) (ht _ wb770) (fun _ h9 => h9) rfl dX6_isRead_25 ?_
        refine lv_icmp_ge (tgt := 43) hx hb dX6_isRead_28 (by decide) (fun c1 => ?_) (fun c1 => ?_)
        · have h := zt h c1
          exact hKK _ _ _ _ _ _ h _ _ hP hD hS _ (lv_sub hl [0, 1] rfl)
        · have h := zf h c1
          refine lv_aload_n hx hb dX6_isRead_31 rfl (lv_at hl 0 rfl) ?_
          obtain ⟨r2, h2, h⟩ := zb h
          refine zi (zrV (C := RX6) (T := TX6) (N := 14) (As := []) (rest := []) ⟨hx, hb, hml, hown, ht⟩ (c_X6_takesRule l D k o on op orr ot oh og od states bytes reading at_ wrongAt number hh text rread  fu h2 _) (cwV 0 ht (gdV wb1082 wb1084 wb62 wb80 wb1085) rfl rfl rfl (by decide +kernel) ⟨Nat.le_of_ble_eq_true rfl, Nat.le_of_ble_eq_true rfl⟩) hK hP hD hS hA hm [0, 1, 2] rfl rfl 0 6 rfl rfl rfl hl.1 rfl (Nat.le_of_ble_eq_true rfl) dX6_isRead_32 ⟨Nat.le_refl _, Nat.le_refl _⟩) hP hD hS hA [0, 1, 2] rfl rfl (fun H locs hP hD hS => ?_)
          have hP : va_P D vwCl [(o, .inr (6, [.ref on, .ref op, .int states, .ref orr, .ref ot, .int bytes, .ref oh, .ref og, .ref od, .int r2.2.1, .int r2.2.2.1, .int r2.2.2.2.1, .int r2.2.2.2.2.1, .long hh])), (ot, .inl (k 0, 120, .inl text)), (od, .inl (k 0, 132, .inl r2.2.2.2.2.2))] H := hP
          have hD : va_D A [(o, .inr (6, [.ref on, .ref op, .int states, .ref orr, .ref ot, .int bytes, .ref oh, .ref og, .ref od, .int r2.2.1, .int r2.2.2.1, .int r2.2.2.2.1, .int r2.2.2.2.2.1, .long hh])), (ot, .inl (k 0, 120, .inl text)), (od, .inl (k 0, 132, .inl r2.2.2.2.2.2))] := hD
          refine lv_istore_n (lv' := [(1, .int (zB r2.1)), (0, .ref o)]) hx hb dX6_isRead_35 rfl hl (by decide) rfl (fun ls hl => ?_)
          refine lv_aload_n hx hb dX6_isRead_36 rfl (lv_at hl 1 rfl) ?_
          obtain ⟨r3, h3, h⟩ := zb h
          refine zv (zrV (C := RX6) (T := TX6) (N := 14) (As := []) (rest := []) ⟨hx, hb, hml, hown, ht⟩ (c_X6_blanks l D k o on op orr ot oh og od states bytes r2.2.1 r2.2.2.1 r2.2.2.2.1 r2.2.2.2.2.1 hh text  fu h3 _) (cwV 0 ht (gdV wb1074 wb1076 wb60 wb80 wb1077) rfl rfl rfl (by decide +kernel) ⟨Nat.le_of_ble_eq_true rfl, Nat.le_of_ble_eq_true rfl⟩) hK hP hD hS hA hm [0, 1] rfl rfl 0 6 rfl rfl rfl hl.1 rfl (Nat.le_of_ble_eq_true rfl) dX6_isRead_37 ⟨Nat.le_refl _, Nat.le_refl _⟩) hP hD hS hA [0, 1] rfl rfl (fun H locs hP hD hS => ?_)
          have hP : va_P D vwCl [(o, .inr (6, [.ref on, .ref op, .int states, .ref orr, .ref ot, .int bytes, .ref oh, .ref og, .ref od, .int r2.2.1, .int r3, .int r2.2.2.2.1, .int r2.2.2.2.2.1, .long hh])), (ot, .inl (k 0, 120, .inl text)), (od, .inl (k 0, 132, .inl r2.2.2.2.2.2))] H := hP
          have hD : va_D A [(o, .inr (6, [.ref on, .ref op, .int states, .ref orr, .ref ot, .int bytes, .ref oh, .ref og, .ref od, .int r2.2.1, .int r3, .int r2.2.2.2.1, .int r2.2.2.2.2.1, .long hh])), (ot, .inl (k 0, 120, .inl text)), (od, .inl (k 0, 132, .inl r2.2.2.2.2.2))] := hD
          refine lv_goto (tgt := 16) hx hb dX6_isRead_40 (by decide) ?_
          exact ih _ _ _ _ _ _ h _ _ hP hD hS _ (lv_sub hl [1, 0] rfl)
  refine loop16 _ _ _ _ _ ?_ fu _ _ _ _ _ _ h _ _ hP hD hS _ (lv_sub hl [1, 0] rfl)
  intro x1 x2 x3 x4 x5 x6 h H locs hP hD hS ls hl
  try dsimp only at h
  have hP : va_P D vwCl [(o, .inr (6, [.ref on, .ref op, .int states, .ref orr, .ref ot, .int bytes, .ref oh, .ref og, .ref od, .int x2, .int x3, .int x4, .int x5, .long hh])), (ot, .inl (k 0, 120, .inl text)), (od, .inl (k 0, 132, .inl x6))] H := hP
  have hD : va_D A [(o, .inr (6, [.ref on, .ref op, .int states, .ref orr, .ref ot, .int bytes, .ref oh, .ref og, .ref od, .int x2, .int x3, .int x4, .int x5, .long hh])), (ot, .inl (k 0, 120, .inl text)), (od, .inl (k 0, 132, .inl x6))] := hD
  have hl : lv_has ls 2 [(0, .ref o), (1, .int (zB x1))] := hl
  refine lv_iload_n hx hb dX6_isRead_43 rfl (lv_at hl 1 rfl) ?_
  obtain rfl := Option.some.inj h
  exact W.zret (v := zB x1) (ty := .boolean) hx hb hr (zB_nar _) (fun t ht9 hW => ⟨⟨_, (), rfl, rfl, zend ht9 hP⟩, hS.F ht9⟩) hS.2.2 dX6_isRead_44
def f_X6_reads_L32 (fu : Nat) (K : Int32 → (Nat → Int32) → Option (Int32 × Int32 × Int32 × Int32 × Int32 × Int32 × (Nat → Int32) × (Nat → Int32) × (Nat → Int32))) (reading : Int32) (rread : Nat → Int32) : Nat → Int32 → (Nat → Int32) → Option (Int32 × Int32 × Int32 × Int32 × Int32 × Int32 × (Nat → Int32) × (Nat → Int32) × (Nat → Int32))
  | 0, _, _ => none
  | n + 1, v1, now =>
  if (11 * reading) ≤ v1 then (K v1 now) else (if zok v1 132 then (if zok (33 + v1) 401 then (f_X6_reads_L32 fu K reading rread n (v1 + 1) (upd now (Int32.toNatClampNeg (33 + v1)) (rread (Int32.toNatClampNeg v1)))) else none) else none)
def f_X6_reads (fu : Nat) (states : Int32) (bytes : Int32) (wrongAt : Int32) (number : Int32) (text : Nat → Int32) (rread : Nat → Int32) (now : Nat → Int32) (past : Nat → Int32)  : Option (Int32 × Int32 × Int32 × Int32 × Int32 × Int32 × (Nat → Int32) × (Nat → Int32) × (Nat → Int32)) :=
  (f_X6_isRead fu bytes wrongAt number text rread ).bind fun r1 => if (zB r1.1) = 0 then (some ((-10) - r1.2.2.2.1, states, r1.2.1, r1.2.2.1, r1.2.2.2.1, r1.2.2.2.2.1, r1.2.2.2.2.2, now, past)) else ((f_X6_remembers fu states now past ).bind fun r2 => if zok 32 401 then (f_X6_reads_L32 fu (fun (x1 : Int32) (x2 : Nat → Int32) => some (r1.2.1, r2.1, r1.2.1, r1.2.2.1, r1.2.2.2.1, r1.2.2.2.2.1, r1.2.2.2.2.2, x2, r2.2)) r1.2.1 r1.2.2.2.2.2 fu 0 (upd now (Int32.toNatClampNeg 32) r1.2.1)) else none)
abbrev wk_X6_reads : List Cond := Cond.code yX6_reads cX6_reads 2 (some .int) :: WB
abbrev rm_X6_reads : Room := { frames := 9, cells := 0, slots := 0, locals := 198 }
set_option maxHeartbeats 4000000 in
set_option maxRecDepth 100000 in
theorem c_X6_reads (l : Launch) (D : va_G) (k : Nat → Nat) (o on op orr ot oh og od : Nat) (states : Int32) (bytes : Int32) (reading : Int32) (at_ : Int32) (wrongAt : Int32) (number : Int32) (hh : Int64) (text : Nat → Int32) (rread : Nat → Int32) (now : Nat → Int32) (past : Nat → Int32)  (fu : Nat) {res : Int32 × Int32 × Int32 × Int32 × Int32 × Int32 × (Nat → Int32) × (Nat → Int32) × (Nat → Int32)} (h : f_X6_reads fu states bytes wrongAt number text rread now past  = some res) : Ci l yX6_reads wk_X6_reads rm_X6_reads D k [.ref o] [(o, .inr (6, [.ref on, .ref op, .int states, .ref orr, .ref ot, .int bytes, .ref oh, .ref og, .ref od, .int reading, .int at_, .int wrongAt, .int number, .long hh])), (ot, .inl (k 0, 120, .inl text)), (od, .inl (k 0, 132, .inl rread)), (on, .inl (k 0, 401, .inl now)), (op, .inl (k 0, 2005, .inl past))] [(o, .inr (6, [.ref on, .ref op, .int res.2.1, .ref orr, .ref ot, .int bytes, .ref oh, .ref og, .ref od, .int res.2.2.1, .int res.2.2.2.1, .int res.2.2.2.2.1, .int res.2.2.2.2.2.1, .long hh])), (ot, .inl (k 0, 120, .inl text)), (od, .inl (k 0, 132, .inl res.2.2.2.2.2.2.1)), (on, .inl (k 0, 401, .inl res.2.2.2.2.2.2.2.1)), (op, .inl (k 0, 2005, .inl res.2.2.2.2.2.2.2.2))] res.1 := by
  unfold Ci
  intro sz
  refine Met.ofW (cc := cX6_reads) (maxL := 2) (ret := (some .int)) (by decide) rfl ?_
  intro p e s m args below meth c s₁ B hml hv
  obtain ⟨rfl, hsz, hP, hK, hD0, hm⟩ := hv
  have hx := B.exec
  have hb := B.bytes
  have hr := B.returns
  have ht : ∀ w ∈ WB, w.before _ s = true := fun w hw => atoms_spec (ws := wk_X6_reads) B.pre w (List.mem_cons_of_mem _ hw)
  have hown : s.vm.findClass RX6 = some m.cls := findClass_of_methodNamed B.named
  have hlocks := B.notSynchronized
  subst hsz
  have hD := hD0.self (sz := s.heap.size)
  generalize hAe : va_A [(o, .inr (6, [.ref on, .ref op, .int states, .ref orr, .ref ot, .int bytes, .ref oh, .ref og, .ref od, .int reading, .int at_, .int wrongAt, .int number, .long hh])), (ot, .inl (k 0, 120, .inl text)), (od, .inl (k 0, 132, .inl rread)), (on, .inl (k 0, 401, .inl now)), (op, .inl (k 0, 2005, .inl past))] s.heap.size = A at hD hm ⊢
  have hA : ∀ q : Nat, s.heap.size ≤ q → A q := fun q h => by rw [← hAe]; exact Or.inr h
  have hS : va_S A s.heap s.heap [] := va_S.rf
  have hl := lv_entry ([.ref o]) (n := 2) (Nat.le_of_ble_eq_true rfl)
  rw [lg_entry_eq]
  generalize (lg_sl ([.ref o]) ++ List.replicate (2 - (lg_sl ([.ref o])).length) Slot.unset).toArray = ls at hl ⊢
  have hl : lv_has ls 2 [(0, .ref o)] := hl
  obtain ⟨H, hH⟩ : ∃ H, H = s.heap := ⟨_, rfl⟩
  rw [← hH] at hP
  have hS : va_S A s.heap H [] := by rw [hH]; exact hS
  suffices hgo : W p l e _ s m _ below meth c H [] 0 0 _ _ by rw [hH] at hgo; exact hgo
  unfold f_X6_reads at h
  refine lv_aload_n hx hb dX6_reads_0 rfl (lv_at hl 0 rfl) ?_
  obtain ⟨r1, h1, h⟩ := zb h
  refine zi (zrV (C := RX6) (T := TX6) (N := 14) (As := []) (rest := []) ⟨hx, hb, hml, hown, ht⟩ (c_X6_isRead l D k o on op orr ot oh og od states bytes reading at_ wrongAt number hh text rread  fu h1 _) (cwV 0 ht (gdV wb1070 wb1072 wb59 wb80 wb1073) rfl rfl rfl (by decide +kernel) ⟨Nat.le_of_ble_eq_true rfl, Nat.le_of_ble_eq_true rfl⟩) hK hP hD hS hA hm [0, 1, 2] rfl rfl 0 6 rfl rfl rfl hl.1 rfl (Nat.le_of_ble_eq_true rfl) dX6_reads_1 ⟨Nat.le_refl _, Nat.le_refl _⟩) hP hD hS hA [0, 1, 2] rfl rfl (fun H locs hP hD hS => ?_)
  have hP : va_P D vwCl [(o, .inr (6, [.ref on, .ref op, .int states, .ref orr, .ref ot, .int bytes, .ref oh, .ref og, .ref od, .int r1.2.1, .int r1.2.2.1, .int r1.2.2.2.1, .int r1.2.2.2.2.1, .long hh])), (ot, .inl (k 0, 120, .inl text)), (od, .inl (k 0, 132, .inl r1.2.2.2.2.2)), (on, .inl (k 0, 401, .inl now)), (op, .inl (k 0, 2005, .inl past))] H := hP
  have hD : va_D A [(o, .inr (6, [.ref on, .ref op, .int states, .ref orr, .ref ot, .int bytes, .ref oh, .ref og, .ref od, .int r1.2.1, .int r1.2.2.1, .int r1.2.2.2.1, .int r1.2.2.2.2.1, .long hh])), (ot, .inl (k 0, 120, .inl text)), (od, .inl (k 0, 132, .inl r1.2.2.2.2.2)), (on, .inl (k 0, 401, .inl now)), (op, .inl (k 0, 2005, .inl past))] := hD
  refine lv_if_ne (tgt := 15) hx hb dX6_reads_4 (by decide) (fun c2 => ?_) (fun c2 => ?_)
  · have h := zf h c2
    refine lv_aload_n hx hb dX6_reads_15 rfl (lv_at hl 0 rfl) ?_
    obtain ⟨r2, h2, h⟩ := zb h
    refine zv (zrV (C := RX6) (T := TX6) (N := 14) (As := []) (rest := []) ⟨hx, hb, hml, hown, ht⟩ (c_X6_remembers l D k o on op orr ot oh og od states bytes r1.2.1 r1.2.2.1 r1.2.2.2.1 r1.2.2.2.2.1 hh now past  fu h2 _) (cwV 0 ht (gdV wb830 wb832 wb30 wb80 wb833) rfl rfl rfl (by decide +kernel) ⟨Nat.le_of_ble_eq_true rfl, Nat.le_of_ble_eq_true rfl⟩) hK hP hD hS hA hm [0, 3, 4] rfl rfl 0 6 rfl rfl rfl hl.1 rfl (Nat.le_of_ble_eq_true rfl) dX6_reads_16 ⟨Nat.le_refl _, Nat.le_refl _⟩) hP hD hS hA [0, 3, 4] rfl rfl (fun H locs hP hD hS => ?_)
    have hP : va_P D vwCl [(o, .inr (6, [.ref on, .ref op, .int r2.1, .ref orr, .ref ot, .int bytes, .ref oh, .ref og, .ref od, .int r1.2.1, .int r1.2.2.1, .int r1.2.2.2.1, .int r1.2.2.2.2.1, .long hh])), (ot, .inl (k 0, 120, .inl text)), (od, .inl (k 0, 132, .inl r1.2.2.2.2.2)), (on, .inl (k 0, 401, .inl now)), (op, .inl (k 0, 2005, .inl r2.2))] H := hP
    have hD : va_D A [(o, .inr (6, [.ref on, .ref op, .int r2.1, .ref orr, .ref ot, .int bytes, .ref oh, .ref og, .ref od, .int r1.2.1, .int r1.2.2.1, .int r1.2.2.2.1, .int r1.2.2.2.2.1, .long hh])), (ot, .inl (k 0, 120, .inl text)), (od, .inl (k 0, 132, .inl r1.2.2.2.2.2)), (on, .inl (k 0, 401, .inl now)), (op, .inl (k 0, 2005, .inl r2.2))] := hD
    refine lv_aload_n hx hb dX6_reads_19 rfl (lv_at hl 0 rfl) ?_
    refine va_get (D := D) (ci := 6) (v := .ref on) (C := RX6) (T := TX6) (N := 14) hx hb ht hiX6 hown hK hP 0 rfl rfl 0 (by decide) (ht _ wb765) (fun _ h9 => h9) rfl dX6_reads_20 ?_
    refine lv_bipush (v := 32) hx hb dX6_reads_23 (by decide) ?_
    refine lv_aload_n hx hb dX6_reads_25 rfl (lv_at hl 0 rfl) ?_
    refine va_get (D := D) (ci := 6) (v := .int r1.2.1) (C := RX6) (T := TX6) (N := 14) hx hb ht hiX6 hown hK hP 0 rfl rfl 9 (by decide) (ht _ wb774) (fun _ h9 => h9) rfl dX6_reads_26 ?_
    obtain ⟨hi1, h⟩ := zg h
    refine va_iast hx hb hK hP hD hS 3 0 rfl rfl hi1 dX6_reads_29 (fun H locs hP hD hS => ?_)
    have hP : va_P D vwCl [(o, .inr (6, [.ref on, .ref op, .int r2.1, .ref orr, .ref ot, .int bytes, .ref oh, .ref og, .ref od, .int r1.2.1, .int r1.2.2.1, .int r1.2.2.2.1, .int r1.2.2.2.2.1, .long hh])), (ot, .inl (k 0, 120, .inl text)), (od, .inl (k 0, 132, .inl r1.2.2.2.2.2)), (on, .inl (k 0, 401, .inl (upd now (Int32.toNatClampNeg 32) r1.2.1))), (op, .inl (k 0, 2005, .inl r2.2))] H := hP
    have hD : va_D A [(o, .inr (6, [.ref on, .ref op, .int r2.1, .ref orr, .ref ot, .int bytes, .ref oh, .ref og, .ref od, .int r1.2.1, .int r1.2.2.1, .int r1.2.2.2.1, .int r1.2.2.2.2.1, .long hh])), (ot, .inl (k 0, 120, .inl text)), (od, .inl (k 0, 132, .inl r1.2.2.2.2.2)), (on, .inl (k 0, 401, .inl (upd now (Int32.toNatClampNeg 32) r1.2.1))), (op, .inl (k 0, 2005, .inl r2.2))] := hD
    refine lv_iconst (v := 0) hx hb dX6_reads_30 (by decide) ?_
    refine lv_istore_n (lv' := [(1, .int 0), (0, .ref o)]) hx hb dX6_reads_31 rfl hl (by decide) rfl (fun ls hl => ?_)
    have loop32 : ∀ (states : Int32) (bytes : Int32) (reading : Int32) (at_ : Int32) (wrongAt : Int32) (number : Int32) (hh : Int64) (text : Nat → Int32) (rread : Nat → Int32) (past : Nat → Int32), ∀ (K : Int32 → (Nat → Int32) → Option (Int32 × Int32 × Int32 × Int32 × Int32 × Int32 × (Nat → Int32) × (Nat → Int32) × (Nat → Int32))), (∀ (v1 : Int32) (now : Nat → Int32), K v1 now = some res → ∀ (H : Heap) (locs : List Loc), va_P D vwCl [(o, .inr (6, [.ref on, .ref op, .int states, .ref orr, .ref ot, .int bytes, .ref oh, .ref og, .ref od, .int reading, .int at_, .int wrongAt, .int number, .long hh])), (ot, .inl (k 0, 120, .inl text)), (od, .inl (k 0, 132, .inl rread)), (on, .inl (k 0, 401, .inl now)), (op, .inl (k 0, 2005, .inl past))] H → va_D A [(o, .inr (6, [.ref on, .ref op, .int states, .ref orr, .ref ot, .int bytes, .ref oh, .ref og, .ref od, .int reading, .int at_, .int wrongAt, .int number, .long hh])), (ot, .inl (k 0, 120, .inl text)), (od, .inl (k 0, 132, .inl rread)), (on, .inl (k 0, 401, .inl now)), (op, .inl (k 0, 2005, .inl past))] → va_S A s.heap H locs → ∀ ls : Array Slot, lv_has ls 2 [(0, .ref o), (1, .int v1)] → W p l e (headSpec wk_X6_reads rm_X6_reads).room s m ([.ref o] : List Value).toArray below meth c H locs 0 0 (MQ below (va_Qi (fun xq9 (_ : Unit) => xq9 = res.1) (fun _ tq9 => va_P D vwCl [(o, .inr (6, [.ref on, .ref op, .int res.2.1, .ref orr, .ref ot, .int bytes, .ref oh, .ref og, .ref od, .int res.2.2.1, .int res.2.2.2.1, .int res.2.2.2.2.1, .int res.2.2.2.2.2.1, .long hh])), (ot, .inl (k 0, 120, .inl text)), (od, .inl (k 0, 132, .inl res.2.2.2.2.2.2.1)), (on, .inl (k 0, 401, .inl res.2.2.2.2.2.2.2.1)), (op, .inl (k 0, 2005, .inl res.2.2.2.2.2.2.2.2))] tq9.heap) A) ([.ref o] : List Value).toArray s 0 0 A) (F0 m 64 ls [])) → ∀ (n : Nat) (v1 : Int32) (now : Nat → Int32), f_X6_reads_L32 fu K reading rread n v1 now = some res → ∀ (H : Heap) (locs : List Loc), va_P D vwCl [(o, .inr (6, [.ref on, .ref op, .int states, .ref orr, .ref ot, .int bytes, .ref oh, .ref og, .ref od, .int reading, .int at_, .int wrongAt, .int number, .long hh])), (ot, .inl (k 0, 120, .inl text)), (od, .inl (k 0, 132, .inl rread)), (on, .inl (k 0, 401, .inl now)), (op, .inl (k 0, 2005, .inl past))] H → va_D A [(o, .inr (6, [.ref on, .ref op, .int states, .ref orr, .ref ot, .int bytes, .ref oh, .ref og, .ref od, .int reading, .int at_, .int wrongAt, .int number, .long hh])), (ot, .inl (k 0, 120, .inl text)), (od, .inl (k 0, 132, .inl rread)), (on, .inl (k 0, 401, .inl now)), (op, .inl (k 0, 2005, .inl past))] → va_S A s.heap H locs → ∀ ls : Array Slot, lv_has ls 2 [(0, .ref o), (1, .int v1)] → W p l e (headSpec wk_X6_reads rm_X6_reads).room s m ([.ref o] : List Value).toArray below meth c H locs 0 0 (MQ below (va_Qi (fun xq9 (_ : Unit) => xq9 = res.1) (fun _ tq9 => va_P D vwCl [(o, .inr (6, [.ref on, .ref op, .int res.2.1, .ref orr, .ref ot, .int bytes, .ref oh, .ref og, .ref od, .int res.2.2.1, .int res.2.2.2.1, .int res.2.2.2.2.1, .int res.2.2.2.2.2.1, .long hh])), (ot, .inl (k 0, 120, .inl text)), (od, .inl (k 0, 132, .inl res.2.2.2.2.2.2.1)), (on, .inl (k 0, 401, .inl res.2.2.2.2.2.2.2.1)), (op, .inl (k 0, 2005, .inl res.2.2.2.2.2.2.2.2))] tq9.heap) A) ([.ref o] : List Value).toArray s 0 0 A) (F0 m 32 ls []) := by
      intro states bytes reading at_ wrongAt number hh text rread past K hKK n
      induction n with
      | zero =>
        intro v1 now h
        rw [f_X6_reads_L32] at h
        cases h
      | succ n ih =>
        intro v1 now h H locs hP hD hS ls hl
        rw [f_X6_reads_L32] at h
        refine lv_iload_n hx hb dX6_reads_32 rfl (lv_at hl 1 rfl) ?_
        refine lv_bipush (v := 11) hx hb dX6_reads_33 (by decide) ?_
        refine lv_aload_n hx hb dX6_reads_35 rfl (lv_at hl 0 rfl) ?_
        refine va_get (D := D) (ci := 6) (v := .int reading) (C := RX6) (T := TX6) (N := 14) hx hb ht hiX6 hown hK hP 0 rfl rfl 9 (by decide) (ht _ wb774) (fun _ h9 => h9) rfl dX6_reads_36 ?_
        refine lv_imul hx hb dX6_reads_39 ?_
        refine lv_icmp_ge (tgt := 64) hx hb dX6_reads_40 (by decide) (fun c1 => ?_) (fun c1 => ?_)
        · have h := zt h c1
          exact hKK _ _ h _ _ hP hD hS _ (lv_sub hl [0, 1] rfl)
        · have h := zf h c1
          refine lv_aload_n hx hb dX6_reads_43 rfl (lv_at hl 0 rfl) ?_
          refine va_get (D := D) (ci := 6) (v := .ref on) (C := RX6) (T := TX6) (N := 14) hx hb ht hiX6 hown hK hP 0 rfl rfl 0 (by decide) (ht _ wb765) (fun _ h9 => h9) rfl dX6_reads_44 ?_
          refine lv_bipush (v := 33) hx hb dX6_reads_47 (by decide) ?_
          refine lv_iload_n hx hb dX6_reads_49 rfl (lv_at hl 1 rfl) ?_
          refine lv_iadd hx hb dX6_reads_50 ?_
          refine lv_aload_n hx hb dX6_reads_51 rfl (lv_at hl 0 rfl) ?_
          refine va_get (D := D) (ci := 6) (v := .ref od) (C := RX6) (T := TX6) (N := 14) hx hb ht hiX6 hown hK hP 0 rfl rfl 8 (by decide) (ht _ wb773) (fun _ h9 => h9) rfl dX6_reads_52 ?_
          refine lv_iload_n hx hb dX6_reads_55 rfl (lv_at hl 1 rfl) ?_
          obtain ⟨hi2, h⟩ := zg h
          refine va_iald hx hb hK hP 2 0 rfl rfl hi2 dX6_reads_56 ?_
          obtain ⟨hi3, h⟩ := zg h
          refine va_iast hx hb hK hP hD hS 3 0 rfl rfl hi3 dX6_reads_57 (fun H locs hP hD hS => ?_)
          have hP : va_P D vwCl [(o, .inr (6, [.ref on, .ref op, .int states, .ref orr, .ref ot, .int bytes, .ref oh, .ref og, .ref od, .int reading, .int at_, .int wrongAt, .int number, .long hh])), (ot, .inl (k 0, 120, .inl text)), (od, .inl (k 0, 132, .inl rread)), (on, .inl (k 0, 401, .inl (upd now (Int32.toNatClampNeg (33 + v1)) (rread (Int32.toNatClampNeg v1))))), (op, .inl (k 0, 2005, .inl past))] H := hP
          have hD : va_D A [(o, .inr (6, [.ref on, .ref op, .int states, .ref orr, .ref ot, .int bytes, .ref oh, .ref og, .ref od, .int reading, .int at_, .int wrongAt, .int number, .long hh])), (ot, .inl (k 0, 120, .inl text)), (od, .inl (k 0, 132, .inl rread)), (on, .inl (k 0, 401, .inl (upd now (Int32.toNatClampNeg (33 + v1)) (rread (Int32.toNatClampNeg v1))))), (op, .inl (k 0, 2005, .inl past))] := hD
          refine lv_iinc (v := v1 + 1) (lv' := [(1, .int (v1 + 1)), (0, .ref o)]) hx hb dX6_reads_58 hl (k := 1) rfl rfl (by decide) rfl (fun ls hl => ?_)
          refine lv_goto (tgt := 32) hx hb dX6_reads_61 (by decide) ?_
          exact ih _ _ h _ _ hP hD hS _ (lv_sub hl [1, 0] rfl)
    refine loop32 _ _ _ _ _ _ _ _ _ _ _ ?_ fu _ _ h _ _ hP hD hS _ (lv_sub hl [1, 0] rfl)
    intro x1 x2 h H locs hP hD hS ls hl
    try dsimp only at h
    have hP : va_P D vwCl [(o, .inr (6, [.ref on, .ref op, .int r2.1, .ref orr, .ref ot, .int bytes, .ref oh, .ref og, .ref od, .int r1.2.1, .int r1.2.2.1, .int r1.2.2.2.1, .int r1.2.2.2.2.1, .long hh])), (ot, .inl (k 0, 120, .inl text)), (od, .inl (k 0, 132, .inl r1.2.2.2.2.2)), (on, .inl (k 0, 401, .inl x2)), (op, .inl (k 0, 2005, .inl r2.2))] H := hP
    have hD : va_D A [(o, .inr (6, [.ref on, .ref op, .int r2.1, .ref orr, .ref ot, .int bytes, .ref oh, .ref og, .ref od, .int r1.2.1, .int r1.2.2.1, .int r1.2.2.2.1, .int r1.2.2.2.2.1, .long hh])), (ot, .inl (k 0, 120, .inl text)), (od, .inl (k 0, 132, .inl r1.2.2.2.2.2)), (on, .inl (k 0, 401, .inl x2)), (op, .inl (k 0, 2005, .inl r2.2))] := hD
    have hl : lv_has ls 2 [(0, .ref o), (1, .int x1)] := hl
    refine lv_aload_n hx hb dX6_reads_64 rfl (lv_at hl 0 rfl) ?_
    refine va_get (D := D) (ci := 6) (v := .int r1.2.1) (C := RX6) (T := TX6) (N := 14) hx hb ht hiX6 hown hK hP 0 rfl rfl 9 (by decide) (ht _ wb774) (fun _ h9 => h9) rfl dX6_reads_65 ?_
    obtain rfl := Option.some.inj h
    exact W.iret (v := r1.2.1) hx hb hr (fun t ht9 hW => ⟨⟨_, (), rfl, rfl, zend ht9 hP⟩, hS.F ht9⟩) hS.2.2 dX6_reads_68
  · have h := zt h c2
    refine lv_bipush (v := (-10)) hx hb dX6_reads_7 (by decide) ?_
    refine lv_aload_n hx hb dX6_reads_9 rfl (lv_at hl 0 rfl) ?_
    refine va_get (D := D) (ci := 6) (v := .int r1.2.2.2.1) (C := RX6) (T := TX6) (N := 14) hx hb ht hiX6 hown hK hP 0 rfl rfl 11 (by decide) (ht _ wb776) (fun _ h9 => h9) rfl dX6_reads_10 ?_
    refine lv_isub hx hb dX6_reads_13 ?_
    obtain rfl := Option.some.inj h
    exact W.iret (v := (-10) - r1.2.2.2.1) hx hb hr (fun t ht9 hW => ⟨⟨_, (), rfl, rfl, zend ht9 hP⟩, hS.F ht9⟩) hS.2.2 dX6_reads_14
def f_X6_toldOf (states : Int32) (bytes : Int32) (refused : Nat → Int32) (a1 : Int32) : Option (Int32) :=
  if 3 ≤ a1 then (if a1 = 3 then (some (bytes)) else (some (states))) else (if zok a1 3 then (some (refused (Int32.toNatClampNeg a1))) else none)
abbrev wk_X6_toldOf : List Cond := Cond.code yX6_toldOf cX6_toldOf 2 (some .int) :: WB
abbrev rm_X6_toldOf : Room := { frames := 0, cells := 0, slots := 0, locals := 0 }
set_option maxHeartbeats 4000000 in
set_option maxRecDepth 100000 in
theorem c_X6_toldOf (l : Launch) (D : va_G) (k : Nat → Nat) (o on op orr ot oh og od : Nat) (states : Int32) (bytes : Int32) (reading : Int32) (at_ : Int32) (wrongAt : Int32) (number : Int32) (hh : Int64) (refused : Nat → Int32) (a1 : Int32) {res : Int32} (h : f_X6_toldOf states bytes refused a1 = some res) : Ci l yX6_toldOf wk_X6_toldOf rm_X6_toldOf D k [.ref o, .int a1] [(o, .inr (6, [.ref on, .ref op, .int states, .ref orr, .ref ot, .int bytes, .ref oh, .ref og, .ref od, .int reading, .int at_, .int wrongAt, .int number, .long hh])), (orr, .inl (k 0, 3, .inl refused))] [(o, .inr (6, [.ref on, .ref op, .int states, .ref orr, .ref ot, .int bytes, .ref oh, .ref og, .ref od, .int reading, .int at_, .int wrongAt, .int number, .long hh])), (orr, .inl (k 0, 3, .inl refused))] res := by
  unfold Ci
  intro sz
  refine Met.ofW (cc := cX6_toldOf) (maxL := 2) (ret := (some .int)) (by decide) rfl ?_
  intro p e s m args below meth c s₁ B hml hv
  obtain ⟨rfl, hsz, hP, hK, hD0, hm⟩ := hv
  have hx := B.exec
  have hb := B.bytes
  have hr := B.returns
  have ht : ∀ w ∈ WB, w.before _ s = true := fun w hw => atoms_spec (ws := wk_X6_toldOf) B.pre w (List.mem_cons_of_mem _ hw)
  have hown : s.vm.findClass RX6 = some m.cls := findClass_of_methodNamed B.named
  have hlocks := B.notSynchronized
  subst hsz
  have hD := hD0.self (sz := s.heap.size)
  generalize hAe : va_A [(o, .inr (6, [.ref on, .ref op, .int states, .ref orr, .ref ot, .int bytes, .ref oh, .ref og, .ref od, .int reading, .int at_, .int wrongAt, .int number, .long hh])), (orr, .inl (k 0, 3, .inl refused))] s.heap.size = A at hD hm ⊢
  have hA : ∀ q : Nat, s.heap.size ≤ q → A q := fun q h => by rw [← hAe]; exact Or.inr h
  have hS : va_S A s.heap s.heap [] := va_S.rf
  have hl := lv_entry ([.ref o, .int a1]) (n := 2) (Nat.le_of_ble_eq_true rfl)
  rw [lg_entry_eq]
  generalize (lg_sl ([.ref o, .int a1]) ++ List.replicate (2 - (lg_sl ([.ref o, .int a1])).length) Slot.unset).toArray = ls at hl ⊢
  have hl : lv_has ls 2 [(0, .ref o), (1, .int a1)] := hl
  obtain ⟨H, hH⟩ : ∃ H, H = s.heap := ⟨_, rfl⟩
  rw [← hH] at hP
  have hS : va_S A s.heap H [] := by rw [hH]; exact hS
  suffices hgo : W p l e _ s m _ below meth c H [] 0 0 _ _ by rw [hH] at hgo; exact hgo
  unfold f_X6_toldOf at h
  refine lv_iload_n hx hb dX6_toldOf_0 rfl (lv_at hl 1 rfl) ?_
  refine lv_iconst (v := 3) hx hb dX6_toldOf_1 (by decide) ?_
  refine lv_icmp_ge (tgt := 14) hx hb dX6_toldOf_2 (by decide) (fun c2 => ?_) (fun c2 => ?_)
  · have h := zt h c2
    refine lv_iload_n hx hb dX6_toldOf_14 rfl (lv_at hl 1 rfl) ?_
    refine lv_iconst (v := 3) hx hb dX6_toldOf_15 (by decide) ?_
    refine lv_icmp_ne (tgt := 26) hx hb dX6_toldOf_16 (by decide) (fun c1 => ?_) (fun c1 => ?_)
    · have h := zf h c1
      refine lv_aload_n hx hb dX6_toldOf_26 rfl (lv_at hl 0 rfl) ?_
      refine va_get (D := D) (ci := 6) (v := .int states) (C := RX6) (T := TX6) (N := 14) hx hb ht hiX6 hown hK hP 0 rfl rfl 2 (by decide) (ht _ wb767) (fun _ h9 => h9) rfl dX6_toldOf_27 ?_
      obtain rfl := Option.some.inj h
      exact W.iret (v := states) hx hb hr (fun t ht9 hW => ⟨⟨_, (), rfl, rfl, zend ht9 hP⟩, hS.F ht9⟩) hS.2.2 dX6_toldOf_30
    · have h := zt h c1
      refine lv_aload_n hx hb dX6_toldOf_19 rfl (lv_at hl 0 rfl) ?_
      refine va_get (D := D) (ci := 6) (v := .int bytes) (C := RX6) (T := TX6) (N := 14) hx hb ht hiX6 hown hK hP 0 rfl rfl 5 (by decide) (ht _ wb770) (fun _ h9 => h9) rfl dX6_toldOf_20 ?_
      refine lv_goto (tgt := 30) hx hb dX6_toldOf_23 (by decide) ?_
      obtain rfl := Option.some.inj h
      exact W.iret (v := bytes) hx hb hr (fun t ht9 hW => ⟨⟨_, (), rfl, rfl, zend ht9 hP⟩, hS.F ht9⟩) hS.2.2 dX6_toldOf_30
  · have h := zf h c2
    refine lv_aload_n hx hb dX6_toldOf_5 rfl (lv_at hl 0 rfl) ?_
    refine va_get (D := D) (ci := 6) (v := .ref orr) (C := RX6) (T := TX6) (N := 14) hx hb ht hiX6 hown hK hP 0 rfl rfl 3 (by decide) (ht _ wb768) (fun _ h9 => h9) rfl dX6_toldOf_6 ?_
    refine lv_iload_n hx hb dX6_toldOf_9 rfl (lv_at hl 1 rfl) ?_
    obtain ⟨hi1, h⟩ := zg h
    refine va_iald hx hb hK hP 1 0 rfl rfl hi1 dX6_toldOf_10 ?_
    refine lv_goto (tgt := 30) hx hb dX6_toldOf_11 (by decide) ?_
    obtain rfl := Option.some.inj h
    exact W.iret (v := refused (Int32.toNatClampNeg a1)) hx hb hr (fun t ht9 hW => ⟨⟨_, (), rfl, rfl, zend ht9 hP⟩, hS.F ht9⟩) hS.2.2 dX6_toldOf_30
def f_X6_told (states : Int32) (bytes : Int32) (refused : Nat → Int32) (a1 : Int32) : Option (Int32 × (Nat → Int32)) :=
  (f_X6_in  a1 0 4).bind fun r1 => if (zB r1) = 0 then ((f_X6_bad refused ).bind fun r2 => some (r2.1, r2.2)) else ((f_X6_toldOf states bytes refused a1).bind fun r3 => some (r3, refused))
abbrev wk_X6_told : List Cond := Cond.code yX6_told cX6_told 2 (some .int) :: WB
abbrev rm_X6_told : Room := { frames := 1, cells := 0, slots := 0, locals := 22 }
set_option maxHeartbeats 4000000 in
set_option maxRecDepth 100000 in
theorem c_X6_told (l : Launch) (D : va_G) (k : Nat → Nat) (o on op orr ot oh og od : Nat) (states : Int32) (bytes : Int32) (reading : Int32) (at_ : Int32) (wrongAt : Int32) (number : Int32) (hh : Int64) (refused : Nat → Int32) (a1 : Int32) {res : Int32 × (Nat → Int32)} (h : f_X6_told states bytes refused a1 = some res) : Ci l yX6_told wk_X6_told rm_X6_told D k [.ref o, .int a1] [(o, .inr (6, [.ref on, .ref op, .int states, .ref orr, .ref ot, .int bytes, .ref oh, .ref og, .ref od, .int reading, .int at_, .int wrongAt, .int number, .long hh])), (orr, .inl (k 0, 3, .inl refused))] [(o, .inr (6, [.ref on, .ref op, .int states, .ref orr, .ref ot, .int bytes, .ref oh, .ref og, .ref od, .int reading, .int at_, .int wrongAt, .int number, .long hh])), (orr, .inl (k 0, 3, .inl res.2))] res.1 := by
  unfold Ci
  intro sz
  refine Met.ofW (cc := cX6_told) (maxL := 2) (ret := (some .int)) (by decide) rfl ?_
  intro p e s m args below meth c s₁ B hml hv
  obtain ⟨rfl, hsz, hP, hK, hD0, hm⟩ := hv
  have hx := B.exec
  have hb := B.bytes
  have hr := B.returns
  have ht : ∀ w ∈ WB, w.before _ s = true := fun w hw => atoms_spec (ws := wk_X6_told) B.pre w (List.mem_cons_of_mem _ hw)
  have hown : s.vm.findClass RX6 = some m.cls := findClass_of_methodNamed B.named
  have hlocks := B.notSynchronized
  subst hsz
  have hD := hD0.self (sz := s.heap.size)
  generalize hAe : va_A [(o, .inr (6, [.ref on, .ref op, .int states, .ref orr, .ref ot, .int bytes, .ref oh, .ref og, .ref od, .int reading, .int at_, .int wrongAt, .int number, .long hh])), (orr, .inl (k 0, 3, .inl refused))] s.heap.size = A at hD hm ⊢
  have hA : ∀ q : Nat, s.heap.size ≤ q → A q := fun q h => by rw [← hAe]; exact Or.inr h
  have hS : va_S A s.heap s.heap [] := va_S.rf
  have hl := lv_entry ([.ref o, .int a1]) (n := 2) (Nat.le_of_ble_eq_true rfl)
  rw [lg_entry_eq]
  generalize (lg_sl ([.ref o, .int a1]) ++ List.replicate (2 - (lg_sl ([.ref o, .int a1])).length) Slot.unset).toArray = ls at hl ⊢
  have hl : lv_has ls 2 [(0, .ref o), (1, .int a1)] := hl
  obtain ⟨H, hH⟩ : ∃ H, H = s.heap := ⟨_, rfl⟩
  rw [← hH] at hP
  have hS : va_S A s.heap H [] := by rw [hH]; exact hS
  suffices hgo : W p l e _ s m _ below meth c H [] 0 0 _ _ by rw [hH] at hgo; exact hgo
  unfold f_X6_told at h
  refine lv_iload_n hx hb dX6_told_0 rfl (lv_at hl 1 rfl) ?_
  refine lv_iconst (v := 0) hx hb dX6_told_1 (by decide) ?_
  refine lv_iconst (v := 4) hx hb dX6_told_2 (by decide) ?_
  obtain ⟨r1, h1, h⟩ := zb h
  refine zi (zrS (As := [.int a1, .int 0, .int 4]) (rest := []) ⟨hx, hb, hml, hown, ht⟩ (c_X6_in l D k   a1 0 4 h1 _) (va_cwS 3 ht (gdS wb820 wb821 wb80 wb822) rfl rfl rfl (by decide +kernel) ⟨Nat.le_of_ble_eq_true rfl, Nat.le_of_ble_eq_true rfl⟩) hK hP hD hS hA hm [] rfl rfl rfl hl.1 rfl (Nat.le_of_ble_eq_true rfl) dX6_told_3 ⟨Nat.le_refl _, Nat.le_refl _⟩) hP hD hS hA [] rfl rfl (fun H locs hP hD hS => ?_)
  have hP : va_P D vwCl [(o, .inr (6, [.ref on, .ref op, .int states, .ref orr, .ref ot, .int bytes, .ref oh, .ref og, .ref od, .int reading, .int at_, .int wrongAt, .int number, .long hh])), (orr, .inl (k 0, 3, .inl refused))] H := hP
  have hD : va_D A [(o, .inr (6, [.ref on, .ref op, .int states, .ref orr, .ref ot, .int bytes, .ref oh, .ref og, .ref od, .int reading, .int at_, .int wrongAt, .int number, .long hh])), (orr, .inl (k 0, 3, .inl refused))] := hD
  refine lv_if_eq (tgt := 17) hx hb dX6_told_6 (by decide) (fun c1 => ?_) (fun c1 => ?_)
  · have h := zt h c1
    refine lv_aload_n hx hb dX6_told_17 rfl (lv_at hl 0 rfl) ?_
    obtain ⟨r2, h2, h⟩ := zb h
    refine zi (zrV (C := RX6) (T := TX6) (N := 14) (As := []) (rest := []) ⟨hx, hb, hml, hown, ht⟩ (c_X6_bad l D k o on op orr ot oh og od states bytes reading at_ wrongAt number hh refused  h2 _) (cwV 0 ht (gdV wb826 wb828 wb29 wb80 wb829) rfl rfl rfl (by decide +kernel) ⟨Nat.le_of_ble_eq_true rfl, Nat.le_of_ble_eq_true rfl⟩) hK hP hD hS hA hm [0, 1] rfl rfl 0 6 rfl rfl rfl hl.1 rfl (Nat.le_of_ble_eq_true rfl) dX6_told_18 ⟨Nat.le_refl _, Nat.le_refl _⟩) hP hD hS hA [0, 1] rfl rfl (fun H locs hP hD hS => ?_)
    have hP : va_P D vwCl [(o, .inr (6, [.ref on, .ref op, .int states, .ref orr, .ref ot, .int bytes, .ref oh, .ref og, .ref od, .int reading, .int at_, .int wrongAt, .int number, .long hh])), (orr, .inl (k 0, 3, .inl r2.2))] H := hP
    have hD : va_D A [(o, .inr (6, [.ref on, .ref op, .int states, .ref orr, .ref ot, .int bytes, .ref oh, .ref og, .ref od, .int reading, .int at_, .int wrongAt, .int number, .long hh])), (orr, .inl (k 0, 3, .inl r2.2))] := hD
    obtain rfl := Option.some.inj h
    exact W.iret (v := r2.1) hx hb hr (fun t ht9 hW => ⟨⟨_, (), rfl, rfl, zend ht9 hP⟩, hS.F ht9⟩) hS.2.2 dX6_told_21
  · have h := zf h c1
    refine lv_aload_n hx hb dX6_told_9 rfl (lv_at hl 0 rfl) ?_
    refine lv_iload_n hx hb dX6_told_10 rfl (lv_at hl 1 rfl) ?_
    obtain ⟨r3, h3, h⟩ := zb h
    refine zi (zrV (C := RX6) (T := TX6) (N := 14) (As := [.int a1]) (rest := []) ⟨hx, hb, hml, hown, ht⟩ (c_X6_toldOf l D k o on op orr ot oh og od states bytes reading at_ wrongAt number hh refused a1 h3 _) (cwV 1 ht (gdV wb1126 wb1128 wb69 wb80 wb1129) rfl rfl rfl (by decide +kernel) ⟨Nat.le_of_ble_eq_true rfl, Nat.le_of_ble_eq_true rfl⟩) hK hP hD hS hA hm [0, 1] rfl rfl 0 6 rfl rfl rfl hl.1 rfl (Nat.le_of_ble_eq_true rfl) dX6_told_11 ⟨Nat.le_refl _, Nat.le_refl _⟩) hP hD hS hA [0, 1] rfl rfl (fun H locs hP hD hS => ?_)
    have hP : va_P D vwCl [(o, .inr (6, [.ref on, .ref op, .int states, .ref orr, .ref ot, .int bytes, .ref oh, .ref og, .ref od, .int reading, .int at_, .int wrongAt, .int number, .long hh])), (orr, .inl (k 0, 3, .inl refused))] H := hP
    have hD : va_D A [(o, .inr (6, [.ref on, .ref op, .int states, .ref orr, .ref ot, .int bytes, .ref oh, .ref og, .ref od, .int reading, .int at_, .int wrongAt, .int number, .long hh])), (orr, .inl (k 0, 3, .inl refused))] := hD
    refine lv_goto (tgt := 21) hx hb dX6_told_14 (by decide) ?_
    obtain rfl := Option.some.inj h
    exact W.iret (v := r3) hx hb hr (fun t ht9 hW => ⟨⟨_, (), rfl, rfl, zend ht9 hP⟩, hS.F ht9⟩) hS.2.2 dX6_told_21
def f_X6_mix (hh : Int64) (a1 : Int64) : Option (Int64) :=
  some ((31 * hh) + a1)
abbrev wk_X6_mix : List Cond := Cond.code yX6_mix cX6_mix 3 none :: WB
abbrev rm_X6_mix : Room := { frames := 0, cells := 0, slots := 0, locals := 0 }
set_option maxHeartbeats 4000000 in
set_option maxRecDepth 100000 in
theorem c_X6_mix (l : Launch) (D : va_G) (k : Nat → Nat) (o on op orr ot oh og od : Nat) (states : Int32) (bytes : Int32) (reading : Int32) (at_ : Int32) (wrongAt : Int32) (number : Int32) (hh : Int64) (a1 : Int64) {res : Int64} (h : f_X6_mix hh a1 = some res) : Cv l yX6_mix wk_X6_mix rm_X6_mix D k [.ref o, .long a1] [(o, .inr (6, [.ref on, .ref op, .int states, .ref orr, .ref ot, .int bytes, .ref oh, .ref og, .ref od, .int reading, .int at_, .int wrongAt, .int number, .long hh]))] [(o, .inr (6, [.ref on, .ref op, .int states, .ref orr, .ref ot, .int bytes, .ref oh, .ref og, .ref od, .int reading, .int at_, .int wrongAt, .int number, .long res]))] := by
  unfold Cv
  intro sz
  refine Met.ofW (cc := cX6_mix) (maxL := 3) (ret := none) (by decide) rfl ?_
  intro p e s m args below meth c s₁ B hml hv
  obtain ⟨rfl, hsz, hP, hK, hD0, hm⟩ := hv
  have hx := B.exec
  have hb := B.bytes
  have hr := B.returns
  have ht : ∀ w ∈ WB, w.before _ s = true := fun w hw => atoms_spec (ws := wk_X6_mix) B.pre w (List.mem_cons_of_mem _ hw)
  have hown : s.vm.findClass RX6 = some m.cls := findClass_of_methodNamed B.named
  have hlocks := B.notSynchronized
  subst hsz
  have hD := hD0.self (sz := s.heap.size)
  generalize hAe : va_A [(o, .inr (6, [.ref on, .ref op, .int states, .ref orr, .ref ot, .int bytes, .ref oh, .ref og, .ref od, .int reading, .int at_, .int wrongAt, .int number, .long hh]))] s.heap.size = A at hD hm ⊢
  have hA : ∀ q : Nat, s.heap.size ≤ q → A q := fun q h => by rw [← hAe]; exact Or.inr h
  have hS : va_S A s.heap s.heap [] := va_S.rf
  have hl := lv_entry ([.ref o, .long a1]) (n := 3) (Nat.le_of_ble_eq_true rfl)
  rw [lg_entry_eq]
  generalize (lg_sl ([.ref o, .long a1]) ++ List.replicate (3 - (lg_sl ([.ref o, .long a1])).length) Slot.unset).toArray = ls at hl ⊢
  have hl : lv_has ls 3 [(0, .ref o), (1, .long a1)] := hl
  obtain ⟨H, hH⟩ : ∃ H, H = s.heap := ⟨_, rfl⟩
  rw [← hH] at hP
  have hS : va_S A s.heap H [] := by rw [hH]; exact hS
  suffices hgo : W p l e _ s m _ below meth c H [] 0 0 _ _ by rw [hH] at hgo; exact hgo
  unfold f_X6_mix at h
  refine lv_aload_n hx hb dX6_mix_0 rfl (lv_at hl 0 rfl) ?_
  refine lv_ldc2 (v := 31) hx hb hown (ht _ wb1139) dX6_mix_1 ?_
  refine lv_aload_n hx hb dX6_mix_4 rfl (lv_at hl 0 rfl) ?_
  refine va_get (D := D) (ci := 6) (v := .long hh) (C := RX6) (T := TX6) (N := 14) hx hb ht hiX6 hown hK hP 0 rfl rfl 13 (by decide) (ht _ wb778) (fun _ h9 => h9) rfl dX6_mix_5 ?_
  refine lv_lmul hx hb dX6_mix_8 ?_
  refine lv_lload_n hx hb dX6_mix_9 rfl (lv_at hl 1 rfl) ?_
  refine lv_ladd hx hb dX6_mix_10 ?_
  refine va_put (D := D) (ci := 6) (v := .long ((31 * hh) + a1)) (ty := .long) (C := RX6) (T := TX6) (N := 14) hx hb ht hiX6 tyX6 tyX6_ok nmX6 hown hK hP hD hS 0 rfl rfl 13 (by decide) (ht _ wb778) (fun _ h9 => h9) rfl (by decide +kernel) rfl rfl (Nat.le_of_ble_eq_true rfl) dX6_mix_11 (fun H locs hP hD hS => ?_)
  have hP : va_P D vwCl [(o, .inr (6, [.ref on, .ref op, .int states, .ref orr, .ref ot, .int bytes, .ref oh, .ref og, .ref od, .int reading, .int at_, .int wrongAt, .int number, .long ((31 * hh) + a1)]))] H := hP
  have hD : va_D A [(o, .inr (6, [.ref on, .ref op, .int states, .ref orr, .ref ot, .int bytes, .ref oh, .ref og, .ref od, .int reading, .int at_, .int wrongAt, .int number, .long ((31 * hh) + a1)]))] := hD
  obtain rfl := Option.some.inj h
  exact W.vret hx hb hr (fun t ht9 hW => ⟨⟨(), rfl, trivial, zend ht9 hP⟩, hS.F ht9⟩) hS.2.2 dX6_mix_14
def f_X6_digest_L9 (fu : Nat) (K : Int32 → Int64 → Option (Int64 × Int64)) (states : Int32) (bytes : Int32) (refused : Nat → Int32) : Nat → Int32 → Int64 → Option (Int64 × Int64)
  | 0, _, _ => none
  | n + 1, v1, hh =>
  if 5 ≤ v1 then (K v1 hh) else ((f_X6_toldOf states bytes refused v1).bind fun r1 => (f_X6_mix hh (Int32.toInt64 r1)).bind fun r2 => f_X6_digest_L9 fu K states bytes refused n (v1 + 1) r2)
def f_X6_digest_L32 (fu : Nat) (K : Int32 → Int64 → Option (Int64 × Int64)) (now : Nat → Int32) : Nat → Int32 → Int64 → Option (Int64 × Int64)
  | 0, _, _ => none
  | n + 1, v1, hh =>
  if 10 ≤ v1 then (K v1 hh) else ((f_X6_countOf now v1).bind fun r3 => (f_X6_mix hh (Int32.toInt64 r3)).bind fun r4 => f_X6_digest_L32 fu K now n (v1 + 1) r4)
def f_X6_digest_L56 (fu : Nat) (K : Int32 → Int64 → Option (Int64 × Int64)) (now : Nat → Int32) : Nat → Int32 → Int64 → Option (Int64 × Int64)
  | 0, _, _ => none
  | n + 1, v1, hh =>
  if 32 ≤ v1 then (K v1 hh) else (if zok (0 + v1) 401 then ((f_X6_mix hh (Int32.toInt64 (now (Int32.toNatClampNeg (0 + v1))))).bind fun r5 => f_X6_digest_L56 fu K now n (v1 + 1) r5) else none)
def f_X6_digest_L83 (fu : Nat) (K : Int32 → Int64 → Option (Int64 × Int64)) (now : Nat → Int32) : Nat → Int32 → Int64 → Option (Int64 × Int64)
  | 0, _, _ => none
  | n + 1, v1, hh =>
  if zok 32 401 then (if (11 * (now (Int32.toNatClampNeg 32))) ≤ v1 then (K v1 hh) else (if zok (33 + v1) 401 then ((f_X6_mix hh (Int32.toInt64 (now (Int32.toNatClampNeg (33 + v1))))).bind fun r6 => f_X6_digest_L83 fu K now n (v1 + 1) r6) else none)) else none
def f_X6_digest_L119 (fu : Nat) (K : Int32 → Int64 → Option (Int64 × Int64)) (now : Nat → Int32) : Nat → Int32 → Int64 → Option (Int64 × Int64)
  | 0, _, _ => none
  | n + 1, v1, hh =>
  if zok 298 401 then (if (7 * (now (Int32.toNatClampNeg 298))) ≤ v1 then (K v1 hh) else (if zok (299 + v1) 401 then ((f_X6_mix hh (Int32.toInt64 (now (Int32.toNatClampNeg (299 + v1))))).bind fun r7 => f_X6_digest_L119 fu K now n (v1 + 1) r7) else none)) else none
def f_X6_digest_L157 (fu : Nat) (K : Int32 → Int64 → Option (Int64 × Int64)) (now : Nat → Int32) : Nat → Int32 → Int64 → Option (Int64 × Int64)
  | 0, _, _ => none
  | n + 1, v1, hh =>
  if 8 ≤ v1 then (K v1 hh) else (if zok (386 + v1) 401 then ((f_X6_mix hh (Int32.toInt64 (now (Int32.toNatClampNeg (386 + v1))))).bind fun r8 => f_X6_digest_L157 fu K now n (v1 + 1) r8) else none)
def f_X6_digest (fu : Nat) (states : Int32) (bytes : Int32) (now : Nat → Int32) (refused : Nat → Int32)  : Option (Int64 × Int64) :=
  f_X6_digest_L9 fu (fun (x1 : Int32) (x2 : Int64) => f_X6_digest_L32 fu (fun (x3 : Int32) (x4 : Int64) => f_X6_digest_L56 fu (fun (x5 : Int32) (x6 : Int64) => f_X6_digest_L83 fu (fun (x7 : Int32) (x8 : Int64) => f_X6_digest_L119 fu (fun (x9 : Int32) (x10 : Int64) => f_X6_digest_L157 fu (fun (x11 : Int32) (x12 : Int64) => some (x12, x12)) now fu 1 x10) now fu 0 x8) now fu 0 x6) now fu 0 x4) now fu 0 x2) states bytes refused fu 0 2573
abbrev wk_X6_digest : List Cond := Cond.code yX6_digest cX6_digest 2 (some .long) :: WB
abbrev rm_X6_digest : Room := { frames := 1, cells := 0, slots := 0, locals := 22 }
set_option maxHeartbeats 4000000 in
set_option maxRecDepth 100000 in
theorem c_X6_digest (l : Launch) (D : va_G) (k : Nat → Nat) (o on op orr ot oh og od : Nat) (states : Int32) (bytes : Int32) (reading : Int32) (at_ : Int32) (wrongAt : Int32) (number : Int32) (hh : Int64) (now : Nat → Int32) (refused : Nat → Int32)  (fu : Nat) {res : Int64 × Int64} (h : f_X6_digest fu states bytes now refused  = some res) : Cl l yX6_digest wk_X6_digest rm_X6_digest D k [.ref o] [(o, .inr (6, [.ref on, .ref op, .int states, .ref orr, .ref ot, .int bytes, .ref oh, .ref og, .ref od, .int reading, .int at_, .int wrongAt, .int number, .long hh])), (on, .inl (k 0, 401, .inl now)), (orr, .inl (k 0, 3, .inl refused))] [(o, .inr (6, [.ref on, .ref op, .int states, .ref orr, .ref ot, .int bytes, .ref oh, .ref og, .ref od, .int reading, .int at_, .int wrongAt, .int number, .long res.2])), (on, .inl (k 0, 401, .inl now)), (orr, .inl (k 0, 3, .inl refused))] res.1 := by
  unfold Cl
  intro sz
  refine Met.ofW (cc := cX6_digest) (maxL := 2) (ret := (some .long)) (by decide) rfl ?_
  intro p e s m args below meth c s₁ B hml hv
  obtain ⟨rfl, hsz, hP, hK, hD0, hm⟩ := hv
  have hx := B.exec
  have hb := B.bytes
  have hr := B.returns
  have ht : ∀ w ∈ WB, w.before _ s = true := fun w hw => atoms_spec (ws := wk_X6_digest) B.pre w (List.mem_cons_of_mem _ hw)
  have hown : s.vm.findClass RX6 = some m.cls := findClass_of_methodNamed B.named
  have hlocks := B.notSynchronized
  subst hsz
  have hD := hD0.self (sz := s.heap.size)
  generalize hAe : va_A [(o, .inr (6, [.ref on, .ref op, .int states, .ref orr, .ref ot, .int bytes, .ref oh, .ref og, .ref od, .int reading, .int at_, .int wrongAt, .int number, .long hh])), (on, .inl (k 0, 401, .inl now)), (orr, .inl (k 0, 3, .inl refused))] s.heap.size = A at hD hm ⊢
  have hA : ∀ q : Nat, s.heap.size ≤ q → A q := fun q h => by rw [← hAe]; exact Or.inr h
  have hS : va_S A s.heap s.heap [] := va_S.rf
  have hl := lv_entry ([.ref o]) (n := 2) (Nat.le_of_ble_eq_true rfl)
  rw [lg_entry_eq]
  generalize (lg_sl ([.ref o]) ++ List.replicate (2 - (lg_sl ([.ref o])).length) Slot.unset).toArray = ls at hl ⊢
  have hl : lv_has ls 2 [(0, .ref o)] := hl
  obtain ⟨H, hH⟩ : ∃ H, H = s.heap := ⟨_, rfl⟩
  rw [← hH] at hP
  have hS : va_S A s.heap H [] := by rw [hH]; exact hS
  suffices hgo : W p l e _ s m _ below meth c H [] 0 0 _ _ by rw [hH] at hgo; exact hgo
  unfold f_X6_digest at h
  refine lv_aload_n hx hb dX6_digest_0 rfl (lv_at hl 0 rfl) ?_
  refine lv_ldc2 (v := 2573) hx hb hown (ht _ wb1134) dX6_digest_1 ?_
  refine va_put (D := D) (ci := 6) (v := .long 2573) (ty := .long) (C := RX6) (T := TX6) (N := 14) hx hb ht hiX6 tyX6 tyX6_ok nmX6 hown hK hP hD hS 0 rfl rfl 13 (by decide) (ht _ wb778) (fun _ h9 => h9) rfl (by decide +kernel) rfl rfl (Nat.le_of_ble_eq_true rfl) dX6_digest_4 (fun H locs hP hD hS => ?_)
  have hP : va_P D vwCl [(o, .inr (6, [.ref on, .ref op, .int states, .ref orr, .ref ot, .int bytes, .ref oh, .ref og, .ref od, .int reading, .int at_, .int wrongAt, .int number, .long 2573])), (on, .inl (k 0, 401, .inl now)), (orr, .inl (k 0, 3, .inl refused))] H := hP
  have hD : va_D A [(o, .inr (6, [.ref on, .ref op, .int states, .ref orr, .ref ot, .int bytes, .ref oh, .ref og, .ref od, .int reading, .int at_, .int wrongAt, .int number, .long 2573])), (on, .inl (k 0, 401, .inl now)), (orr, .inl (k 0, 3, .inl refused))] := hD
  refine lv_iconst (v := 0) hx hb dX6_digest_7 (by decide) ?_
  refine lv_istore_n (lv' := [(1, .int 0), (0, .ref o)]) hx hb dX6_digest_8 rfl hl (by decide) rfl (fun ls hl => ?_)
  have loop9 : ∀ (states : Int32) (bytes : Int32) (reading : Int32) (at_ : Int32) (wrongAt : Int32) (number : Int32) (now : Nat → Int32) (refused : Nat → Int32), ∀ (K : Int32 → Int64 → Option (Int64 × Int64)), (∀ (v1 : Int32) (hh : Int64), K v1 hh = some res → ∀ (H : Heap) (locs : List Loc), va_P D vwCl [(o, .inr (6, [.ref on, .ref op, .int states, .ref orr, .ref ot, .int bytes, .ref oh, .ref og, .ref od, .int reading, .int at_, .int wrongAt, .int number, .long hh])), (on, .inl (k 0, 401, .inl now)), (orr, .inl (k 0, 3, .inl refused))] H → va_D A [(o, .inr (6, [.ref on, .ref op, .int states, .ref orr, .ref ot, .int bytes, .ref oh, .ref og, .ref od, .int reading, .int at_, .int wrongAt, .int number, .long hh])), (on, .inl (k 0, 401, .inl now)), (orr, .inl (k 0, 3, .inl refused))] → va_S A s.heap H locs → ∀ ls : Array Slot, lv_has ls 2 [(0, .ref o), (1, .int v1)] → W p l e (headSpec wk_X6_digest rm_X6_digest).room s m ([.ref o] : List Value).toArray below meth c H locs 0 0 (MQ below (va_Ql (fun xq9 (_ : Unit) => xq9 = res.1) (fun _ tq9 => va_P D vwCl [(o, .inr (6, [.ref on, .ref op, .int states, .ref orr, .ref ot, .int bytes, .ref oh, .ref og, .ref od, .int reading, .int at_, .int wrongAt, .int number, .long res.2])), (on, .inl (k 0, 401, .inl now)), (orr, .inl (k 0, 3, .inl refused))] tq9.heap) A) ([.ref o] : List Value).toArray s 0 0 A) (F0 m 30 ls [])) → ∀ (n : Nat) (v1 : Int32) (hh : Int64), f_X6_digest_L9 fu K states bytes refused n v1 hh = some res → ∀ (H : Heap) (locs : List Loc), va_P D vwCl [(o, .inr (6, [.ref on, .ref op, .int states, .ref orr, .ref ot, .int bytes, .ref oh, .ref og, .ref od, .int reading, .int at_, .int wrongAt, .int number, .long hh])), (on, .inl (k 0, 401, .inl now)), (orr, .inl (k 0, 3, .inl refused))] H → va_D A [(o, .inr (6, [.ref on, .ref op, .int states, .ref orr, .ref ot, .int bytes, .ref oh, .ref og, .ref od, .int reading, .int at_, .int wrongAt, .int number, .long hh])), (on, .inl (k 0, 401, .inl now)), (orr, .inl (k 0, 3, .inl refused))] → va_S A s.heap H locs → ∀ ls : Array Slot, lv_has ls 2 [(0, .ref o), (1, .int v1)] → W p l e (headSpec wk_X6_digest rm_X6_digest).room s m ([.ref o] : List Value).toArray below meth c H locs 0 0 (MQ below (va_Ql (fun xq9 (_ : Unit) => xq9 = res.1) (fun _ tq9 => va_P D vwCl [(o, .inr (6, [.ref on, .ref op, .int states, .ref orr, .ref ot, .int bytes, .ref oh, .ref og, .ref od, .int reading, .int at_, .int wrongAt, .int number, .long res.2])), (on, .inl (k 0, 401, .inl now)), (orr, .inl (k 0, 3, .inl refused))] tq9.heap) A) ([.ref o] : List Value).toArray s 0 0 A) (F0 m 9 ls []) := by
    intro states bytes reading at_ wrongAt number now refused K hKK n
    induction n with
    | zero =>
      intro v1 hh h
      rw [f_X6_digest_L9] at h
      cases h
    | succ n ih =>
      intro v1 hh h H locs hP hD hS ls hl
      rw [f_X6_digest_L9] at h
      refine lv_iload_n hx hb dX6_digest_9 rfl (lv_at hl 1 rfl) ?_
      refine lv_iconst (v := 5) hx hb dX6_digest_10 (by decide) ?_
      refine lv_icmp_ge (tgt := 30) hx hb dX6_digest_11 (by decide) (fun c1 => ?_) (fun c1 => ?_)
      · have h := zt h c1
        exact hKK _ _ h _ _ hP hD hS _ (lv_sub hl [0, 1] rfl)
      · have h := zf h c1
        refine lv_aload_n hx hb dX6_digest_14 rfl (lv_at hl 0 rfl) ?_
        refine lv_aload_n hx hb dX6_digest_15 rfl (lv_at hl 0 rfl) ?_
        refine lv_iload_n hx hb dX6_digest_16 rfl (lv_at hl 1 rfl) ?_
        obtain ⟨r1, h1, h⟩ := zb h
        refine zi (zrV (C := RX6) (T := TX6) (N := 14) (As := [.int v1]) (rest := [.ref o]) ⟨hx, hb, hml, hown, ht⟩ (c_X6_toldOf l D k o on op orr ot oh og od states bytes reading at_ wrongAt number hh refused v1 h1 _) (cwV 1 ht (gdV wb1126 wb1128 wb69 wb80 wb1129) rfl rfl rfl (by decide +kernel) ⟨Nat.le_of_ble_eq_true rfl, Nat.le_of_ble_eq_true rfl⟩) hK hP hD hS hA hm [0, 2] rfl rfl 0 6 rfl rfl rfl hl.1 rfl (Nat.le_of_ble_eq_true rfl) dX6_digest_17 ⟨Nat.le_refl _, Nat.le_refl _⟩) hP hD hS hA [0, 2] rfl rfl (fun H locs hP hD hS => ?_)
        have hP : va_P D vwCl [(o, .inr (6, [.ref on, .ref op, .int states, .ref orr, .ref ot, .int bytes, .ref oh, .ref og, .ref od, .int reading, .int at_, .int wrongAt, .int number, .long hh])), (on, .inl (k 0, 401, .inl now)), (orr, .inl (k 0, 3, .inl refused))] H := hP
        have hD : va_D A [(o, .inr (6, [.ref on, .ref op, .int states, .ref orr, .ref ot, .int bytes, .ref oh, .ref og, .ref od, .int reading, .int at_, .int wrongAt, .int number, .long hh])), (on, .inl (k 0, 401, .inl now)), (orr, .inl (k 0, 3, .inl refused))] := hD
        refine lv_i2l (v := Int32.toInt64 r1) hx hb dX6_digest_20 rfl ?_
        obtain ⟨r2, h2, h⟩ := zb h
        refine zv (zrV (C := RX6) (T := TX6) (N := 14) (As := [.long (Int32.toInt64 r1)]) (rest := []) ⟨hx, hb, hml, hown, ht⟩ (c_X6_mix l D k o on op orr ot oh og od states bytes reading at_ wrongAt number hh (Int32.toInt64 r1) h2 _) (cwV 1 ht (gdV wb1135 wb1137 wb70 wb80 wb1138) rfl rfl rfl (by decide +kernel) ⟨Nat.le_of_ble_eq_true rfl, Nat.le_of_ble_eq_true rfl⟩) hK hP hD hS hA hm [0] rfl rfl 0 6 rfl rfl rfl hl.1 rfl (Nat.le_of_ble_eq_true rfl) dX6_digest_21 ⟨Nat.le_refl _, Nat.le_refl _⟩) hP hD hS hA [0] rfl rfl (fun H locs hP hD hS => ?_)
        have hP : va_P D vwCl [(o, .inr (6, [.ref on, .ref op, .int states, .ref orr, .ref ot, .int bytes, .ref oh, .ref og, .ref od, .int reading, .int at_, .int wrongAt, .int number, .long r2])), (on, .inl (k 0, 401, .inl now)), (orr, .inl (k 0, 3, .inl refused))] H := hP
        have hD : va_D A [(o, .inr (6, [.ref on, .ref op, .int states, .ref orr, .ref ot, .int bytes, .ref oh, .ref og, .ref od, .int reading, .int at_, .int wrongAt, .int number, .long r2])), (on, .inl (k 0, 401, .inl now)), (orr, .inl (k 0, 3, .inl refused))] := hD
        refine lv_iinc (v := v1 + 1) (lv' := [(1, .int (v1 + 1)), (0, .ref o)]) hx hb dX6_digest_24 hl (k := 1) rfl rfl (by decide) rfl (fun ls hl => ?_)
        refine lv_goto (tgt := 9) hx hb dX6_digest_27 (by decide) ?_
        exact ih _ _ h _ _ hP hD hS _ (lv_sub hl [1, 0] rfl)
  refine loop9 _ _ _ _ _ _ _ _ _ ?_ fu _ _ h _ _ hP hD hS _ (lv_sub hl [1, 0] rfl)
  intro x1 x2 h H locs hP hD hS ls hl
  try dsimp only at h
  have hP : va_P D vwCl [(o, .inr (6, [.ref on, .ref op, .int states, .ref orr, .ref ot, .int bytes, .ref oh, .ref og, .ref od, .int reading, .int at_, .int wrongAt, .int number, .long x2])), (on, .inl (k 0, 401, .inl now)), (orr, .inl (k 0, 3, .inl refused))] H := hP
  have hD : va_D A [(o, .inr (6, [.ref on, .ref op, .int states, .ref orr, .ref ot, .int bytes, .ref oh, .ref og, .ref od, .int reading, .int at_, .int wrongAt, .int number, .long x2])), (on, .inl (k 0, 401, .inl now)), (orr, .inl (k 0, 3, .inl refused))] := hD
  have hl : lv_has ls 2 [(0, .ref o), (1, .int x1)] := hl
  refine lv_iconst (v := 0) hx hb dX6_digest_30 (by decide) ?_
  refine lv_istore_n (lv' := [(1, .int 0), (0, .ref o)]) hx hb dX6_digest_31 rfl hl (by decide) rfl (fun ls hl => ?_)
  have loop32 : ∀ (states : Int32) (bytes : Int32) (reading : Int32) (at_ : Int32) (wrongAt : Int32) (number : Int32) (now : Nat → Int32) (refused : Nat → Int32), ∀ (K : Int32 → Int64 → Option (Int64 × Int64)), (∀ (v1 : Int32) (hh : Int64), K v1 hh = some res → ∀ (H : Heap) (locs : List Loc), va_P D vwCl [(o, .inr (6, [.ref on, .ref op, .int states, .ref orr, .ref ot, .int bytes, .ref oh, .ref og, .ref od, .int reading, .int at_, .int wrongAt, .int number, .long hh])), (on, .inl (k 0, 401, .inl now)), (orr, .inl (k 0, 3, .inl refused))] H → va_D A [(o, .inr (6, [.ref on, .ref op, .int states, .ref orr, .ref ot, .int bytes, .ref oh, .ref og, .ref od, .int reading, .int at_, .int wrongAt, .int number, .long hh])), (on, .inl (k 0, 401, .inl now)), (orr, .inl (k 0, 3, .inl refused))] → va_S A s.heap H locs → ∀ ls : Array Slot, lv_has ls 2 [(0, .ref o), (1, .int v1)] → W p l e (headSpec wk_X6_digest rm_X6_digest).room s m ([.ref o] : List Value).toArray below meth c H locs 0 0 (MQ below (va_Ql (fun xq9 (_ : Unit) => xq9 = res.1) (fun _ tq9 => va_P D vwCl [(o, .inr (6, [.ref on, .ref op, .int states, .ref orr, .ref ot, .int bytes, .ref oh, .ref og, .ref od, .int reading, .int at_, .int wrongAt, .int number, .long res.2])), (on, .inl (k 0, 401, .inl now)), (orr, .inl (k 0, 3, .inl refused))] tq9.heap) A) ([.ref o] : List Value).toArray s 0 0 A) (F0 m 54 ls [])) → ∀ (n : Nat) (v1 : Int32) (hh : Int64), f_X6_digest_L32 fu K now n v1 hh = some res → ∀ (H : Heap) (locs : List Loc), va_P D vwCl [(o, .inr (6, [.ref on, .ref op, .int states, .ref orr, .ref ot, .int bytes, .ref oh, .ref og, .ref od, .int reading, .int at_, .int wrongAt, .int number, .long hh])), (on, .inl (k 0, 401, .inl now)), (orr, .inl (k 0, 3, .inl refused))] H → va_D A [(o, .inr (6, [.ref on, .ref op, .int states, .ref orr, .ref ot, .int bytes, .ref oh, .ref og, .ref od, .int reading, .int at_, .int wrongAt, .int number, .long hh])), (on, .inl (k 0, 401, .inl now)), (orr, .inl (k 0, 3, .inl refused))] → va_S A s.heap H locs → ∀ ls : Array Slot, lv_has ls 2 [(0, .ref o), (1, .int v1)] → W p l e (headSpec wk_X6_digest rm_X6_digest).room s m ([.ref o] : List Value).toArray below meth c H locs 0 0 (MQ below (va_Ql (fun xq9 (_ : Unit) => xq9 = res.1) (fun _ tq9 => va_P D vwCl [(o, .inr (6, [.ref on, .ref op, .int states, .ref orr, .ref ot, .int bytes, .ref oh, .ref og, .ref od, .int reading, .int at_, .int wrongAt, .int number, .long res.2])), (on, .inl (k 0, 401, .inl now)), (orr, .inl (k 0, 3, .inl refused))] tq9.heap) A) ([.ref o] : List Value).toArray s 0 0 A) (F0 m 32 ls []) := by
    intro states bytes reading at_ wrongAt number now refused K hKK n
    induction n with
    | zero =>
      intro v1 hh h
      rw [f_X6_digest_L32] at h
      cases h
    | succ n ih =>
      intro v1 hh h H locs hP hD hS ls hl
      rw [f_X6_digest_L32] at h
      refine lv_iload_n hx hb dX6_digest_32 rfl (lv_at hl 1 rfl) ?_
      refine lv_bipush (v := 10) hx hb dX6_digest_33 (by decide) ?_
      refine lv_icmp_ge (tgt := 54) hx hb dX6_digest_35 (by decide) (fun c2 => ?_) (fun c2 => ?_)
      · have h := zt h c2
        exact hKK _ _ h _ _ hP hD hS _ (lv_sub hl [0, 1] rfl)
      · have h := zf h c2
        refine lv_aload_n hx hb dX6_digest_38 rfl (lv_at hl 0 rfl) ?_
        refine lv_aload_n hx hb dX6_digest_39 rfl (lv_at hl 0 rfl) ?_
        refine lv_iload_n hx hb dX6_digest_40 rfl (lv_at hl 1 rfl) ?_
        obtain ⟨r3, h3, h⟩ := zb h
        refine zi (zrV (C := RX6) (T := TX6) (N := 14) (As := [.int v1]) (rest := [.ref o]) ⟨hx, hb, hml, hown, ht⟩ (c_X6_countOf l D k o on op orr ot oh og od states bytes reading at_ wrongAt number hh now v1 h3 _) (cwV 1 ht (gdV wb1054 wb1056 wb58 wb80 wb1057) rfl rfl rfl (by decide +kernel) ⟨Nat.le_of_ble_eq_true rfl, Nat.le_of_ble_eq_true rfl⟩) hK hP hD hS hA hm [0, 1] rfl rfl 0 6 rfl rfl rfl hl.1 rfl (Nat.le_of_ble_eq_true rfl) dX6_digest_41 ⟨Nat.le_refl _, Nat.le_refl _⟩) hP hD hS hA [0, 1] rfl rfl (fun H locs hP hD hS => ?_)
        have hP : va_P D vwCl [(o, .inr (6, [.ref on, .ref op, .int states, .ref orr, .ref ot, .int bytes, .ref oh, .ref og, .ref od, .int reading, .int at_, .int wrongAt, .int number, .long hh])), (on, .inl (k 0, 401, .inl now)), (orr, .inl (k 0, 3, .inl refused))] H := hP
        have hD : va_D A [(o, .inr (6, [.ref on, .ref op, .int states, .ref orr, .ref ot, .int bytes, .ref oh, .ref og, .ref od, .int reading, .int at_, .int wrongAt, .int number, .long hh])), (on, .inl (k 0, 401, .inl now)), (orr, .inl (k 0, 3, .inl refused))] := hD
        refine lv_i2l (v := Int32.toInt64 r3) hx hb dX6_digest_44 rfl ?_
        obtain ⟨r4, h4, h⟩ := zb h
        refine zv (zrV (C := RX6) (T := TX6) (N := 14) (As := [.long (Int32.toInt64 r3)]) (rest := []) ⟨hx, hb, hml, hown, ht⟩ (c_X6_mix l D k o on op orr ot oh og od states bytes reading at_ wrongAt number hh (Int32.toInt64 r3) h4 _) (cwV 1 ht (gdV wb1135 wb1137 wb70 wb80 wb1138) rfl rfl rfl (by decide +kernel) ⟨Nat.le_of_ble_eq_true rfl, Nat.le_of_ble_eq_true rfl⟩) hK hP hD hS hA hm [0] rfl rfl 0 6 rfl rfl rfl hl.1 rfl (Nat.le_of_ble_eq_true rfl) dX6_digest_45 ⟨Nat.le_refl _, Nat.le_refl _⟩) hP hD hS hA [0] rfl rfl (fun H locs hP hD hS => ?_)
        have hP : va_P D vwCl [(o, .inr (6, [.ref on, .ref op, .int states, .ref orr, .ref ot, .int bytes, .ref oh, .ref og, .ref od, .int reading, .int at_, .int wrongAt, .int number, .long r4])), (on, .inl (k 0, 401, .inl now)), (orr, .inl (k 0, 3, .inl refused))] H := hP
        have hD : va_D A [(o, .inr (6, [.ref on, .ref op, .int states, .ref orr, .ref ot, .int bytes, .ref oh, .ref og, .ref od, .int reading, .int at_, .int wrongAt, .int number, .long r4])), (on, .inl (k 0, 401, .inl now)), (orr, .inl (k 0, 3, .inl refused))] := hD
        refine lv_iinc (v := v1 + 1) (lv' := [(1, .int (v1 + 1)), (0, .ref o)]) hx hb dX6_digest_48 hl (k := 1) rfl rfl (by decide) rfl (fun ls hl => ?_)
        refine lv_goto (tgt := 32) hx hb dX6_digest_51 (by decide) ?_
        exact ih _ _ h _ _ hP hD hS _ (lv_sub hl [1, 0] rfl)
  refine loop32 _ _ _ _ _ _ _ _ _ ?_ fu _ _ h _ _ hP hD hS _ (lv_sub hl [1, 0] rfl)
  intro x3 x4 h H locs hP hD hS ls hl
  try dsimp only at h
  have hP : va_P D vwCl [(o, .inr (6, [.ref on, .ref op, .int states, .ref orr, .ref ot, .int bytes, .ref oh, .ref og, .ref od, .int reading, .int at_, .int wrongAt, .int number, .long x4])), (on, .inl (k 0, 401, .inl now)), (orr, .inl (k 0, 3, .inl refused))] H := hP
  have hD : va_D A [(o, .inr (6, [.ref on, .ref op, .int states, .ref orr, .ref ot, .int bytes, .ref oh, .ref og, .ref od, .int reading, .int at_, .int wrongAt, .int number, .long x4])), (on, .inl (k 0, 401, .inl now)), (orr, .inl (k 0, 3, .inl refused))] := hD
  have hl : lv_has ls 2 [(0, .ref o), (1, .int x3)] := hl
  refine lv_iconst (v := 0) hx hb dX6_digest_54 (by decide) ?_
  refine lv_istore_n (lv' := [(1, .int 0), (0, .ref o)]) hx hb dX6_digest_55 rfl hl (by decide) rfl (fun ls hl => ?_)
  have loop56 : ∀ (states : Int32) (bytes : Int32) (reading : Int32) (at_ : Int32) (wrongAt : Int32) (number : Int32) (now : Nat → Int32) (refused : Nat → Int32), ∀ (K : Int32 → Int64 → Option (Int64 × Int64)), (∀ (v1 : Int32) (hh : Int64), K v1 hh = some res → ∀ (H : Heap) (locs : List Loc), va_P D vwCl [(o, .inr (6, [.ref on, .ref op, .int states, .ref orr, .ref ot, .int bytes, .ref oh, .ref og, .ref od, .int reading, .int at_, .int wrongAt, .int number, .long hh])), (on, .inl (k 0, 401, .inl now)), (orr, .inl (k 0, 3, .inl refused))] H → va_D A [(o, .inr (6, [.ref on, .ref op, .int states, .ref orr, .ref ot, .int bytes, .ref oh, .ref og, .ref od, .int reading, .int at_, .int wrongAt, .int number, .long hh])), (on, .inl (k 0, 401, .inl now)), (orr, .inl (k 0, 3, .inl refused))] → va_S A s.heap H locs → ∀ ls : Array Slot, lv_has ls 2 [(0, .ref o), (1, .int v1)] → W p l e (headSpec wk_X6_digest rm_X6_digest).room s m ([.ref o] : List Value).toArray below meth c H locs 0 0 (MQ below (va_Ql (fun xq9 (_ : Unit) => xq9 = res.1) (fun _ tq9 => va_P D vwCl [(o, .inr (6, [.ref on, .ref op, .int states, .ref orr, .ref ot, .int bytes, .ref oh, .ref og, .ref od, .int reading, .int at_, .int wrongAt, .int number, .long res.2])), (on, .inl (k 0, 401, .inl now)), (orr, .inl (k 0, 3, .inl refused))] tq9.heap) A) ([.ref o] : List Value).toArray s 0 0 A) (F0 m 81 ls [])) → ∀ (n : Nat) (v1 : Int32) (hh : Int64), f_X6_digest_L56 fu K now n v1 hh = some res → ∀ (H : Heap) (locs : List Loc), va_P D vwCl [(o, .inr (6, [.ref on, .ref op, .int states, .ref orr, .ref ot, .int bytes, .ref oh, .ref og, .ref od, .int reading, .int at_, .int wrongAt, .int number, .long hh])), (on, .inl (k 0, 401, .inl now)), (orr, .inl (k 0, 3, .inl refused))] H → va_D A [(o, .inr (6, [.ref on, .ref op, .int states, .ref orr, .ref ot, .int bytes, .ref oh, .ref og, .ref od, .int reading, .int at_, .int wrongAt, .int number, .long hh])), (on, .inl (k 0, 401, .inl now)), (orr, .inl (k 0, 3, .inl refused))] → va_S A s.heap H locs → ∀ ls : Array Slot, lv_has ls 2 [(0, .ref o), (1, .int v1)] → W p l e (headSpec wk_X6_digest rm_X6_digest).room s m ([.ref o] : List Value).toArray below meth c H locs 0 0 (MQ below (va_Ql (fun xq9 (_ : Unit) => xq9 = res.1) (fun _ tq9 => va_P D vwCl [(o, .inr (6, [.ref on, .ref op, .int states, .ref orr, .ref ot, .int bytes, .ref oh, .ref og, .ref od, .int reading, .int at_, .int wrongAt, .int number, .long res.2])), (on, .inl (k 0, 401, .inl now)), (orr, .inl (k 0, 3, .inl refused))] tq9.heap) A) ([.ref o] : List Value).toArray s 0 0 A) (F0 m 56 ls []) := by
    intro states bytes reading at_ wrongAt number now refused K hKK n
    induction n with
    | zero =>
      intro v1 hh h
      rw [f_X6_digest_L56] at h
      cases h
    | succ n ih =>
      intro v1 hh h H locs hP hD hS ls hl
      rw [f_X6_digest_L56] at h
      refine lv_iload_n hx hb dX6_digest_56 rfl (lv_at hl 1 rfl) ?_
      refine lv_bipush (v := 32) hx hb dX6_digest_57 (by decide) ?_
      refine lv_icmp_ge (tgt := 81) hx hb dX6_digest_59 (by decide) (fun c3 => ?_) (fun c3 => ?_)
      · have h := zt h c3
        exact hKK _ _ h _ _ hP hD hS _ (lv_sub hl [0, 1] rfl)
      · have h := zf h c3
        refine lv_aload_n hx hb dX6_digest_62 rfl (lv_at hl 0 rfl) ?_
        refine lv_aload_n hx hb dX6_digest_63 rfl (lv_at hl 0 rfl) ?_
        refine va_get (D := D) (ci := 6) (v := .ref on) (C := RX6) (T := TX6) (N := 14) hx hb ht hiX6 hown hK hP 0 rfl rfl 0 (by decide) (ht _ wb765) (fun _ h9 => h9) rfl dX6_digest_64 ?_
        refine lv_iconst (v := 0) hx hb dX6_digest_67 (by decide) ?_
        refine lv_iload_n hx hb dX6_digest_68 rfl (lv_at hl 1 rfl) ?_
        refine lv_iadd hx hb dX6_digest_69 ?_
        obtain ⟨hi1, h⟩ := zg h
        refine va_iald hx hb hK hP 1 0 rfl rfl hi1 dX6_digest_70 ?_
        refine lv_i2l (v := Int32.toInt64 (now (Int32.toNatClampNeg (0 + v1)))) hx hb dX6_digest_71 rfl ?_
        obtain ⟨r5, h5, h⟩ := zb h
        refine zv (zrV (C := RX6) (T := TX6) (N := 14) (As := [.long (Int32.toInt64 (now (Int32.toNatClampNeg (0 + v1))))]) (rest := []) ⟨hx, hb, hml, hown, ht⟩ (c_X6_mix l D k o on op orr ot oh og od states bytes reading at_ wrongAt number hh (Int32.toInt64 (now (Int32.toNatClampNeg (0 + v1)))) h5 _) (cwV 1 ht (gdV wb1135 wb1137 wb70 wb80 wb1138) rfl rfl rfl (by decide +kernel) ⟨Nat.le_of_ble_eq_true rfl, Nat.le_of_ble_eq_true rfl⟩) hK hP hD hS hA hm [0] rfl rfl 0 6 rfl rfl rfl hl.1 rfl (Nat.le_of_ble_eq_true rfl) dX6_digest_72 ⟨Nat.le_refl _, Nat.le_refl _⟩) hP hD hS hA [0] rfl rfl (fun H locs hP hD hS => ?_)
        have hP : va_P D vwCl [(o, .inr (6, [.ref on, .ref op, .int states, .ref orr, .ref ot, .int bytes, .ref oh, .ref og, .ref od, .int reading, .int at_, .int wrongAt, .int number, .long r5])), (on, .inl (k 0, 401, .inl now)), (orr, .inl (k 0, 3, .inl refused))] H := hP
        have hD : va_D A [(o, .inr (6, [.ref on, .ref op, .int states, .ref orr, .ref ot, .int bytes, .ref oh, .ref og, .ref od, .int reading, .int at_, .int wrongAt, .int number, .long r5])), (on, .inl (k 0, 401, .inl now)), (orr, .inl (k 0, 3, .inl refused))] := hD
        refine lv_iinc (v := v1 + 1) (lv' := [(1, .int (v1 + 1)), (0, .ref o)]) hx hb dX6_digest_75 hl (k := 1) rfl rfl (by decide) rfl (fun ls hl => ?_)
        refine lv_goto (tgt := 56) hx hb dX6_digest_78 (by decide) ?_
        exact ih _ _ h _ _ hP hD hS _ (lv_sub hl [1, 0] rfl)
  refine loop56 _ _ _ _ _ _ _ _ _ ?_ fu _ _ h _ _ hP hD hS _ (lv_sub hl [1, 0] rfl)
  intro x5 x6 h H locs hP hD hS ls hl
  try dsimp only at h
  have hP : va_P D vwCl [(o, .inr (6, [.ref on, .ref op, .int states, .ref orr, .ref ot, .int bytes, .ref oh, .ref og, .ref od, .int reading, .int at_, .int wrongAt, .int number, .long x6])), (on, .inl (k 0, 401, .inl now)), (orr, .inl (k 0, 3, .inl refused))] H := hP
  have hD : va_D A [(o, .inr (6, [.ref on, .ref op, .int states, .ref orr, .ref ot, .int bytes, .ref oh, .ref og, .ref od, .int reading, .int at_, .int wrongAt, .int number, .long x6])), (on, .inl (k 0, 401, .inl now)), (orr, .inl (k 0, 3, .inl refused))] := hD
  have hl : lv_has ls 2 [(0, .ref o), (1, .int x5)] := hl
  refine lv_iconst (v := 0) hx hb dX6_digest_81 (by decide) ?_
  refine lv_istore_n (lv' := [(1, .int 0), (0, .ref o)]) hx hb dX6_digest_82 rfl hl (by decide) rfl (fun ls hl => ?_)
  have loop83 : ∀ (states : Int32) (bytes : Int32) (reading : Int32) (at_ : Int32) (wrongAt : Int32) (number : Int32) (now : Nat → Int32) (refused : Nat → Int32), ∀ (K : Int32 → Int64 → Option (Int64 × Int64)), (∀ (v1 : Int32) (hh : Int64), K v1 hh = some res → ∀ (H : Heap) (locs : List Loc), va_P D vwCl [(o, .inr (6, [.ref on, .ref op, .int states, .ref orr, .ref ot, .int bytes, .ref oh, .ref og, .ref od, .int reading, .int at_, .int wrongAt, .int number, .long hh])), (on, .inl (k 0, 401, .inl now)), (orr, .inl (k 0, 3, .inl refused))] H → va_D A [(o, .inr (6, [.ref on, .ref op, .int states, .ref orr, .ref ot, .int bytes, .ref oh, .ref og, .ref od, .int reading, .int at_, .int wrongAt, .int number, .long hh])), (on, .inl (k 0, 401, .inl now)), (orr, .inl (k 0, 3, .inl refused))] → va_S A s.heap H locs → ∀ ls : Array Slot, lv_has ls 2 [(0, .ref o), (1, .int v1)] → W p l e (headSpec wk_X6_digest rm_X6_digest).room s m ([.ref o] : List Value).toArray below meth c H locs 0 0 (MQ below (va_Ql (fun xq9 (_ : Unit) => xq9 = res.1) (fun _ tq9 => va_P D vwCl [(o, .inr (6, [.ref on, .ref op, .int states, .ref orr, .ref ot, .int bytes, .ref oh, .ref og, .ref od, .int reading, .int at_, .int wrongAt, .int number, .long res.2])), (on, .inl (k 0, 401, .inl now)), (orr, .inl (k 0, 3, .inl refused))] tq9.heap) A) ([.ref o] : List Value).toArray s 0 0 A) (F0 m 117 ls [])) → ∀ (n : Nat) (v1 : Int32) (hh : Int64), f_X6_digest_L83 fu K now n v1 hh = some res → ∀ (H : Heap) (locs : List Loc), va_P D vwCl [(o, .inr (6, [.ref on, .ref op, .int states, .ref orr, .ref ot, .int bytes, .ref oh, .ref og, .ref od, .int reading, .int at_, .int wrongAt, .int number, .long hh])), (on, .inl (k 0, 401, .inl now)), (orr, .inl (k 0, 3, .inl refused))] H → va_D A [(o, .inr (6, [.ref on, .ref op, .int states, .ref orr, .ref ot, .int bytes, .ref oh, .ref og, .ref od, .int reading, .int at_, .int wrongAt, .int number, .long hh])), (on, .inl (k 0, 401, .inl now)), (orr, .inl (k 0, 3, .inl refused))] → va_S A s.heap H locs → ∀ ls : Array Slot, lv_has ls 2 [(0, .ref o), (1, .int v1)] → W p l e (headSpec wk_X6_digest rm_X6_digest).room s m ([.ref o] : List Value).toArray below meth c H locs 0 0 (MQ below (va_Ql (fun xq9 (_ : Unit) => xq9 = res.1) (fun _ tq9 => va_P D vwCl [(o, .inr (6, [.ref on, .ref op, .int states, .ref orr, .ref ot, .int bytes, .ref oh, .ref og, .ref od, .int reading, .int at_, .int wrongAt, .int number, .long res.2])), (on, .inl (k 0, 401, .inl now)), (orr, .inl (k 0, 3, .inl refused))] tq9.heap) A) ([.ref o] : List Value).toArray s 0 0 A) (F0 m 83 ls []) := by
    intro states bytes reading at_ wrongAt number now refused K hKK n
    induction n with
    | zero =>
      intro v1 hh h
      rw [f_X6_digest_L83] at h
      cases h
    | succ n ih =>
      intro v1 hh h H locs hP hD hS ls hl
      rw [f_X6_digest_L83] at h
      refine lv_iload_n hx hb dX6_digest_83 rfl (lv_at hl 1 rfl) ?_
      refine lv_bipush (v := 11) hx hb dX6_digest_84 (by decide) ?_
      refine lv_aload_n hx hb dX6_digest_86 rfl (lv_at hl 0 rfl) ?_
      refine va_get (D := D) (ci := 6) (v := .ref on) (C := RX6) (T := TX6) (N := 14) hx hb ht hiX6 hown hK hP 0 rfl rfl 0 (by decide) (ht _ wb765) (fun _ h9 => h9) rfl dX6_digest_87 ?_
      refine lv_bipush (v := 32) hx hb dX6_digest_90 (by decide) ?_
      obtain ⟨hi2, h⟩ := zg h
      refine va_iald hx hb hK hP 1 0 rfl rfl hi2 dX6_digest_92 ?_
      refine lv_imul hx hb dX6_digest_93 ?_
      refine lv_icmp_ge (tgt := 117) hx hb dX6_digest_94 (by decide) (fun c4 => ?_) (fun c4 => ?_)
      · have h := zt h c4
        exact hKK _ _ h _ _ hP hD hS _ (lv_sub hl [0, 1] rfl)
      · have h := zf h c4
        refine lv_aload_n hx hb dX6_digest_97 rfl (lv_at hl 0 rfl) ?_
        refine lv_aload_n hx hb dX6_digest_98 rfl (lv_at hl 0 rfl) ?_
        refine va_get (D := D) (ci := 6) (v := .ref on) (C := RX6) (T := TX6) (N := 14) hx hb ht hiX6 hown hK hP 0 rfl rfl 0 (by decide) (ht _ wb765) (fun _ h9 => h9) rfl dX6_digest_99 ?_
        refine lv_bipush (v := 33) hx hb dX6_digest_102 (by decide) ?_
        refine lv_iload_n hx hb dX6_digest_104 rfl (lv_at hl 1 rfl) ?_
        refine lv_iadd hx hb dX6_digest_105 ?_
        obtain ⟨hi3, h⟩ := zg h
        refine va_iald hx hb hK hP 1 0 rfl rfl hi3 dX6_digest_106 ?_
        refine lv_i2l (v := Int32.toInt64 (now (Int32.toNatClampNeg (33 + v1)))) hx hb dX6_digest_107 rfl ?_
        obtain ⟨r6, h6, h⟩ := zb h
        refine zv (zrV (C := RX6) (T := TX6) (N := 14) (As := [.long (Int32.toInt64 (now (Int32.toNatClampNeg (33 + v1))))]) (rest := []) ⟨hx, hb, hml, hown, ht⟩ (c_X6_mix l D k o on op orr ot oh og od states bytes reading at_ wrongAt number hh (Int32.toInt64 (now (Int32.toNatClampNeg (33 + v1)))) h6 _) (cwV 1 ht (gdV wb1135 wb1137 wb70 wb80 wb1138) rfl rfl rfl (by decide +kernel) ⟨Nat.le_of_ble_eq_true rfl, Nat.le_of_ble_eq_true rfl⟩) hK hP hD hS hA hm [0] rfl rfl 0 6 rfl rfl rfl hl.1 rfl (Nat.le_of_ble_eq_true rfl) dX6_digest_108 ⟨Nat.le_refl _, Nat.le_refl _⟩) hP hD hS hA [0] rfl rfl (fun H locs hP hD hS => ?_)
        have hP : va_P D vwCl [(o, .inr (6, [.ref on, .ref op, .int states, .ref orr, .ref ot, .int bytes, .ref oh, .ref og, .ref od, .int reading, .int at_, .int wrongAt, .int number, .long r6])), (on, .inl (k 0, 401, .inl now)), (orr, .inl (k 0, 3, .inl refused))] H := hP
        have hD : va_D A [(o, .inr (6, [.ref on, .ref op, .int states, .ref orr, .ref ot, .int bytes, .ref oh, .ref og, .ref od, .int reading, .int at_, .int wrongAt, .int number, .long r6])), (on, .inl (k 0, 401, .inl now)), (orr, .inl (k 0, 3, .inl refused))] := hD
        refine lv_iinc (v := v1 + 1) (lv' := [(1, .int (v1 + 1)), (0, .ref o)]) hx hb dX6_digest_111 hl (k := 1) rfl rfl (by decide) rfl (fun ls hl => ?_)
        refine lv_goto (tgt := 83) hx hb dX6_digest_114 (by decide) ?_
        exact ih _ _ h _ _ hP hD hS _ (lv_sub hl [1, 0] rfl)
  refine loop83 _ _ _ _ _ _ _ _ _ ?_ fu _ _ h _ _ hP hD hS _ (lv_sub hl [1, 0] rfl)
  intro x7 x8 h H locs hP hD hS ls hl
  try dsimp only at h
  have hP : va_P D vwCl [(o, .inr (6, [.ref on, .ref op, .int states, .ref orr, .ref ot, .int bytes, .ref oh, .ref og, .ref od, .int reading, .int at_, .int wrongAt, .int number, .long x8])), (on, .inl (k 0, 401, .inl now)), (orr, .inl (k 0, 3, .inl refused))] H := hP
  have hD : va_D A [(o, .inr (6, [.ref on, .ref op, .int states, .ref orr, .ref ot, .int bytes, .ref oh, .ref og, .ref od, .int reading, .int at_, .int wrongAt, .int number, .long x8])), (on, .inl (k 0, 401, .inl now)), (orr, .inl (k 0, 3, .inl refused))] := hD
  have hl : lv_has ls 2 [(0, .ref o), (1, .int x7)] := hl
  refine lv_iconst (v := 0) hx hb dX6_digest_117 (by decide) ?_
  refine lv_istore_n (lv' := [(1, .int 0), (0, .ref o)]) hx hb dX6_digest_118 rfl hl (by decide) rfl (fun ls hl => ?_)
  have loop119 : ∀ (states : Int32) (bytes : Int32) (reading : Int32) (at_ : Int32) (wrongAt : Int32) (number : Int32) (now : Nat → Int32) (refused : Nat → Int32), ∀ (K : Int32 → Int64 → Option (Int64 × Int64)), (∀ (v1 : Int32) (hh : Int64), K v1 hh = some res → ∀ (H : Heap) (locs : List Loc), va_P D vwCl [(o, .inr (6, [.ref on, .ref op, .int states, .ref orr, .ref ot, .int bytes, .ref oh, .ref og, .ref od, .int reading, .int at_, .int wrongAt, .int number, .long hh])), (on, .inl (k 0, 401, .inl now)), (orr, .inl (k 0, 3, .inl refused))] H → va_D A [(o, .inr (6, [.ref on, .ref op, .int states, .ref orr, .ref ot, .int bytes, .ref oh, .ref og, .ref od, .int reading, .int at_, .int wrongAt, .int number, .long hh])), (on, .inl (k 0, 401, .inl now)), (orr, .inl (k 0, 3, .inl refused))] → va_S A s.heap H locs → ∀ ls : Array Slot, lv_has ls 2 [(0, .ref o), (1, .int v1)] → W p l e (headSpec wk_X6_digest rm_X6_digest).room s m ([.ref o] : List Value).toArray below meth c H locs 0 0 (MQ below (va_Ql (fun xq9 (_ : Unit) => xq9 = res.1) (fun _ tq9 => va_P D vwCl [(o, .inr (6, [.ref on, .ref op, .int states, .ref orr, .ref ot, .int bytes, .ref oh, .ref og, .ref od, .int reading, .int at_, .int wrongAt, .int number, .long res.2])), (on, .inl (k 0, 401, .inl now)), (orr, .inl (k 0, 3, .inl refused))] tq9.heap) A) ([.ref o] : List Value).toArray s 0 0 A) (F0 m 155 ls [])) → ∀ (n : Nat) (v1 : Int32) (hh : Int64), f_X6_digest_L119 fu K now n v1 hh = some res → ∀ (H : Heap) (locs : List Loc), va_P D vwCl [(o, .inr (6, [.ref on, .ref op, .int states, .ref orr, .ref ot, .int bytes, .ref oh, .ref og, .ref od, .int reading, .int at_, .int wrongAt, .int number, .long hh])), (on, .inl (k 0, 401, .inl now)), (orr, .inl (k 0, 3, .inl refused))] H → va_D A [(o, .inr (6, [.ref on, .ref op, .int states, .ref orr, .ref ot, .int bytes, .ref oh, .ref og, .ref od, .int reading, .int at_, .int wrongAt, .int number, .long hh])), (on, .inl (k 0, 401, .inl now)), (orr, .inl (k 0, 3, .inl refused))] → va_S A s.heap H locs → ∀ ls : Array Slot, lv_has ls 2 [(0, .ref o), (1, .int v1)] → W p l e (headSpec wk_X6_digest rm_X6_digest).room s m ([.ref o] : List Value).toArray below meth c H locs 0 0 (MQ below (va_Ql (fun xq9 (_ : Unit) => xq9 = res.1) (fun _ tq9 => va_P D vwCl [(o, .inr (6, [.ref on, .ref op, .int states, .ref orr, .ref ot, .int bytes, .ref oh, .ref og, .ref od, .int reading, .int at_, .int wrongAt, .int number, .long res.2])), (on, .inl (k 0, 401, .inl now)), (orr, .inl (k 0, 3, .inl refused))] tq9.heap) A) ([.ref o] : List Value).toArray s 0 0 A) (F0 m 119 ls []) := by
    intro states bytes reading at_ wrongAt number now refused K hKK n
    induction n with
    | zero =>
      intro v1 hh h
      rw [f_X6_digest_L119] at h
      cases h
    | succ n ih =>
      intro v1 hh h H locs hP hD hS ls hl
      rw [f_X6_digest_L119] at h
      refine lv_iload_n hx hb dX6_digest_119 rfl (lv_at hl 1 rfl) ?_
      refine lv_bipush (v := 7) hx hb dX6_digest_120 (by decide) ?_
      refine lv_aload_n hx hb dX6_digest_122 rfl (lv_at hl 0 rfl) ?_
      refine va_get (D := D) (ci := 6) (v := .ref on) (C := RX6) (T := TX6) (N := 14) hx hb ht hiX6 hown hK hP 0 rfl rfl 0 (by decide) (ht _ wb765) (fun _ h9 => h9) rfl dX6_digest_123 ?_
      refine lv_sipush (v := 298) hx hb dX6_digest_126 (by decide) ?_
      obtain ⟨hi4, h⟩ := zg h
      refine va_iald hx hb hK hP 1 0 rfl rfl hi4 dX6_digest_129 ?_
      refine lv_imul hx hb dX6_digest_130 ?_
      refine lv_icmp_ge (tgt := 155) hx hb dX6_digest_131 (by decide) (fun c5 => ?_) (fun c5 => ?_)
      · have h := zt h c5
        exact hKK _ _ h _ _ hP hD hS _ (lv_sub hl [0, 1] rfl)
      · have h := zf h c5
        refine lv_aload_n hx hb dX6_digest_134 rfl (lv_at hl 0 rfl) ?_
        refine lv_aload_n hx hb dX6_digest_135 rfl (lv_at hl 0 rfl) ?_
        refine va_get (D := D) (ci := 6) (v := .ref on) (C := RX6) (T := TX6) (N := 14) hx hb ht hiX6 hown hK hP 0 rfl rfl 0 (by decide) (ht _ wb765) (fun _ h9 => h9) rfl dX6_digest_136 ?_
        refine lv_sipush (v := 299) hx hb dX6_digest_139 (by decide) ?_
        refine lv_iload_n hx hb dX6_digest_142 rfl (lv_at hl 1 rfl) ?_
        refine lv_iadd hx hb dX6_digest_143 ?_
        obtain ⟨hi5, h⟩ := zg h
        refine va_iald hx hb hK hP 1 0 rfl rfl hi5 dX6_digest_144 ?_
        refine lv_i2l (v := Int32.toInt64 (now (Int32.toNatClampNeg (299 + v1)))) hx hb dX6_digest_145 rfl ?_
        obtain ⟨r7, h7, h⟩ := zb h
        refine zv (zrV (C := RX6) (T := TX6) (N := 14) (As := [.long (Int32.toInt64 (now (Int32.toNatClampNeg (299 + v1))))]) (rest := []) ⟨hx, hb, hml, hown, ht⟩ (c_X6_mix l D k o on op orr ot oh og od states bytes reading at_ wrongAt number hh (Int32.toInt64 (now (Int32.toNatClampNeg (299 + v1)))) h7 _) (cwV 1 ht (gdV wb1135 wb1137 wb70 wb80 wb1138) rfl rfl rfl (by decide +kernel) ⟨Nat.le_of_ble_eq_true rfl, Nat.le_of_ble_eq_true rfl⟩) hK hP hD hS hA hm [0] rfl rfl 0 6 rfl rfl rfl hl.1 rfl (Nat.le_of_ble_eq_true rfl) dX6_digest_146 ⟨Nat.le_refl _, Nat.le_refl _⟩) hP hD hS hA [0] rfl rfl (fun H locs hP hD hS => ?_)
        have hP : va_P D vwCl [(o, .inr (6, [.ref on, .ref op, .int states, .ref orr, .ref ot, .int bytes, .ref oh, .ref og, .ref od, .int reading, .int at_, .int wrongAt, .int number, .long r7])), (on, .inl (k 0, 401, .inl now)), (orr, .inl (k 0, 3, .inl refused))] H := hP
        have hD : va_D A [(o, .inr (6, [.ref on, .ref op, .int states, .ref orr, .ref ot, .int bytes, .ref oh, .ref og, .ref od, .int reading, .int at_, .int wrongAt, .int number, .long r7])), (on, .inl (k 0, 401, .inl now)), (orr, .inl (k 0, 3, .inl refused))] := hD
        refine lv_iinc (v := v1 + 1) (lv' := [(1, .int (v1 + 1)), (0, .ref o)]) hx hb dX6_digest_149 hl (k := 1) rfl rfl (by decide) rfl (fun ls hl => ?_)
        refine lv_goto (tgt := 119) hx hb dX6_digest_152 (by decide) ?_
        exact ih _ _ h _ _ hP hD hS _ (lv_sub hl [1, 0] rfl)
  refine loop119 _ _ _ _ _ _ _ _ _ ?_ fu _ _ h _ _ hP hD hS _ (lv_sub hl [1, 0] rfl)
  intro x9 x10 h H locs hP hD hS ls hl
  try dsimp only at h
  have hP : va_P D vwCl [(o, .inr (6, [.ref on, .ref op, .int states, .ref orr, .ref ot, .int bytes, .ref oh, .ref og, .ref od, .int reading, .int at_, .int wrongAt, .int number, .long x10])), (on, .inl (k 0, 401, .inl now)), (orr, .inl (k 0, 3, .inl refused))] H := hP
  have hD : va_D A [(o, .inr (6, [.ref on, .ref op, .int states, .ref orr, .ref ot, .int bytes, .ref oh, .ref og, .ref od, .int reading, .int at_, .int wrongAt, .int number, .long x10])), (on, .inl (k 0, 401, .inl now)), (orr, .inl (k 0, 3, .inl refused))] := hD
  have hl : lv_has ls 2 [(0, .ref o), (1, .int x9)] := hl
  refine lv_iconst (v := 1) hx hb dX6_digest_155 (by decide) ?_
  refine lv_istore_n (lv' := [(1, .int 1), (0, .ref o)]) hx hb dX6_digest_156 rfl hl (by decide) rfl (fun ls hl => ?_)
  have loop157 : ∀ (states : Int32) (bytes : Int32) (reading : Int32) (at_ : Int32) (wrongAt : Int32) (number : Int32) (now : Nat → Int32) (refused : Nat → Int32), ∀ (K : Int32 → Int64 → Option (Int64 × Int64)), (∀ (v1 : Int32) (hh : Int64), K v1 hh = some res → ∀ (H : Heap) (locs : List Loc), va_P D vwCl [(o, .inr (6, [.ref on, .ref op, .int states, .ref orr, .ref ot, .int bytes, .ref oh, .ref og, .ref od, .int reading, .int at_, .int wrongAt, .int number, .long hh])), (on, .inl (k 0, 401, .inl now)), (orr, .inl (k 0, 3, .inl refused))] H → va_D A [(o, .inr (6, [.ref on, .ref op, .int states, .ref orr, .ref ot, .int bytes, .ref oh, .ref og, .ref od, .int reading, .int at_, .int wrongAt, .int number, .long hh])), (on, .inl (k 0, 401, .inl now)), (orr, .inl (k 0, 3, .inl refused))] → va_S A s.heap H locs → ∀ ls : Array Slot, lv_has ls 2 [(0, .ref o), (1, .int v1)] → W p l e (headSpec wk_X6_digest rm_X6_digest).room s m ([.ref o] : List Value).toArray below meth c H locs 0 0 (MQ below (va_Ql (fun xq9 (_ : Unit) => xq9 = res.1) (fun _ tq9 => va_P D vwCl [(o, .inr (6, [.ref on, .ref op, .int states, .ref orr, .ref ot, .int bytes, .ref oh, .ref og, .ref od, .int reading, .int at_, .int wrongAt, .int number, .long res.2])), (on, .inl (k 0, 401, .inl now)), (orr, .inl (k 0, 3, .inl refused))] tq9.heap) A) ([.ref o] : List Value).toArray s 0 0 A) (F0 m 184 ls [])) → ∀ (n : Nat) (v1 : Int32) (hh : Int64), f_X6_digest_L157 fu K now n v1 hh = some res → ∀ (H : Heap) (locs : List Loc), va_P D vwCl [(o, .inr (6, [.ref on, .ref op, .int states, .ref orr, .ref ot, .int bytes, .ref oh, .ref og, .ref od, .int reading, .int at_, .int wrongAt, .int number, .long hh])), (on, .inl (k 0, 401, .inl now)), (orr, .inl (k 0, 3, .inl refused))] H → va_D A [(o, .inr (6, [.ref on, .ref op, .int states, .ref orr, .ref ot, .int bytes, .ref oh, .ref og, .ref od, .int reading, .int at_, .int wrongAt, .int number, .long hh])), (on, .inl (k 0, 401, .inl now)), (orr, .inl (k 0, 3, .inl refused))] → va_S A s.heap H locs → ∀ ls : Array Slot, lv_has ls 2 [(0, .ref o), (1, .int v1)] → W p l e (headSpec wk_X6_digest rm_X6_digest).room s m ([.ref o] : List Value).toArray below meth c H locs 0 0 (MQ below (va_Ql (fun xq9 (_ : Unit) => xq9 = res.1) (fun _ tq9 => va_P D vwCl [(o, .inr (6, [.ref on, .ref op, .int states, .ref orr, .ref ot, .int bytes, .ref oh, .ref og, .ref od, .int reading, .int at_, .int wrongAt, .int number, .long res.2])), (on, .inl (k 0, 401, .inl now)), (orr, .inl (k 0, 3, .inl refused))] tq9.heap) A) ([.ref o] : List Value).toArray s 0 0 A) (F0 m 157 ls []) := by
    intro states bytes reading at_ wrongAt number now refused K hKK n
    induction n with
    | zero =>
      intro v1 hh h
      rw [f_X6_digest_L157] at h
      cases h
    | succ n ih =>
      intro v1 hh h H locs hP hD hS ls hl
      rw [f_X6_digest_L157] at h
      refine lv_iload_n hx hb dX6_digest_157 rfl (lv_at hl 1 rfl) ?_
      refine lv_bipush (v := 8) hx hb dX6_digest_158 (by decide) ?_
      refine lv_icmp_ge (tgt := 184) hx hb dX6_digest_160 (by decide) (fun c6 => ?_) (fun c6 => ?_)
      · have h := zt h c6
        exact hKK _ _ h _ _ hP hD hS _ (lv_sub hl [0, 1] rfl)
      · have h := zf h c6
        refine lv_aload_n hx hb dX6_digest_163 rfl (lv_at hl 0 rfl) ?_
        refine lv_aload_n hx hb dX6_digest_164 rfl (lv_at hl 0 rfl) ?_
        refine va_get (D := D) (ci := 6) (v := .ref on) (C := RX6) (T := TX6) (N := 14) hx hb ht hiX6 hown hK hP 0 rfl rfl 0 (by decide) (ht _ wb765) (fun _ h9 => h9) rfl dX6_digest_165 ?_
        refine lv_sipush (v := 386) hx hb dX6_digest_168 (by decide) ?_
        refine lv_iload_n hx hb dX6_digest_171 rfl (lv_at hl 1 rfl) ?_
        refine lv_iadd hx hb dX6_digest_172 ?_
        obtain ⟨hi6, h⟩ := zg h
        refine va_iald hx hb hK hP 1 0 rfl rfl hi6 dX6_digest_173 ?_
        refine lv_i2l (v := Int32.toInt64 (now (Int32.toNatClampNeg (386 + v1)))) hx hb dX6_digest_174 rfl ?_
        obtain ⟨r8, h8, h⟩ := zb h
        refine zv (zrV (C := RX6) (T := TX6) (N := 14) (As := [.long (Int32.toInt64 (now (Int32.toNatClampNeg (386 + v1))))]) (rest := []) ⟨hx, hb, hml, hown, ht⟩ (c_X6_mix l D k o on op orr ot oh og od states bytes reading at_ wrongAt number hh (Int32.toInt64 (now (Int32.toNatClampNeg (386 + v1)))) h8 _) (cwV 1 ht (gdV wb1135 wb1137 wb70 wb80 wb1138) rfl rfl rfl (by decide +kernel) ⟨Nat.le_of_ble_eq_true rfl, Nat.le_of_ble_eq_true rfl⟩) hK hP hD hS hA hm [0] rfl rfl 0 6 rfl rfl rfl hl.1 rfl (Nat.le_of_ble_eq_true rfl) dX6_digest_175 ⟨Nat.le_refl _, Nat.le_refl _⟩) hP hD hS hA [0] rfl rfl (fun H locs hP hD hS => ?_)
        have hP : va_P D vwCl [(o, .inr (6, [.ref on, .ref op, .int states, .ref orr, .ref ot, .int bytes, .ref oh, .ref og, .ref od, .int reading, .int at_, .int wrongAt, .int number, .long r8])), (on, .inl (k 0, 401, .inl now)), (orr, .inl (k 0, 3, .inl refused))] H := hP
        have hD : va_D A [(o, .inr (6, [.ref on, .ref op, .int states, .ref orr, .ref ot, .int bytes, .ref oh, .ref og, .ref od, .int reading, .int at_, .int wrongAt, .int number, .long r8])), (on, .inl (k 0, 401, .inl now)), (orr, .inl (k 0, 3, .inl refused))] := hD
        refine lv_iinc (v := v1 + 1) (lv' := [(1, .int (v1 + 1)), (0, .ref o)]) hx hb dX6_digest_178 hl (k := 1) rfl rfl (by decide) rfl (fun ls hl => ?_)
        refine lv_goto (tgt := 157) hx hb dX6_digest_181 (by decide) ?_
        exact ih _ _ h _ _ hP hD hS _ (lv_sub hl [1, 0] rfl)
  refine loop157 _ _ _ _ _ _ _ _ _ ?_ fu _ _ h _ _ hP hD hS _ (lv_sub hl [1, 0] rfl)
  intro x11 x12 h H locs hP hD hS ls hl
  try dsimp only at h
  have hP : va_P D vwCl [(o, .inr (6, [.ref on, .ref op, .int states, .ref orr, .ref ot, .int bytes, .ref oh, .ref og, .ref od, .int reading, .int at_, .int wrongAt, .int number, .long x12])), (on, .inl (k 0, 401, .inl now)), (orr, .inl (k 0, 3, .inl refused))] H := hP
  have hD : va_D A [(o, .inr (6, [.ref on, .ref op, .int states, .ref orr, .ref ot, .int bytes, .ref oh, .ref og, .ref od, .int reading, .int at_, .int wrongAt, .int number, .long x12])), (on, .inl (k 0, 401, .inl now)), (orr, .inl (k 0, 3, .inl refused))] := hD
  have hl : lv_has ls 2 [(0, .ref o), (1, .int x11)] := hl
  refine lv_aload_n hx hb dX6_digest_184 rfl (lv_at hl 0 rfl) ?_
  refine va_get (D := D) (ci := 6) (v := .long x12) (C := RX6) (T := TX6) (N := 14) hx hb ht hiX6 hown hK hP 0 rfl rfl 13 (by decide) (ht _ wb778) (fun _ h9 => h9) rfl dX6_digest_185 ?_
  obtain rfl := Option.some.inj h
  exact W.lret (v := x12) hx hb hr (fun t ht9 hW => ⟨⟨_, (), rfl, rfl, zend ht9 hP⟩, hS.F ht9⟩) hS.2.2 dX6_digest_188
