def bZ (k : Nat → Nat) (xq : Nat) (u : Nat → Nat) : va_W := [(xq, .inr (5, [.ref (u 0), .ref (u 12), .ref (u 74), .ref (u 78), .ref (u 83), .int 0, .int 0, .int 0]))]
def bE (k u : Nat → Nat) : va_W := [((u 0), .inr (2, [.ref (u 1), .ref (u 2), .ref (u 4), .ref (u 6), .ref (u 8), .ref (u 10), .ref (u 11), .int 0])), ((u 1), .inl (k 0, 32, .inl (fun _ => 0))), ((u 2), .inr (3, [.int 12, .int 11, .ref (u 3), .int 0])), ((u 3), .inl (k 0, 132, .inl (fun _ => 0))), ((u 4), .inr (3, [.int 12, .int 11, .ref (u 5), .int 0])), ((u 5), .inl (k 0, 132, .inl (fun _ => 0))), ((u 6), .inr (3, [.int 8, .int 7, .ref (u 7), .int 0])), ((u 7), .inl (k 0, 56, .inl (fun _ => 0))), ((u 8), .inr (3, [.int 6, .int 5, .ref (u 9), .int 0])), ((u 9), .inl (k 0, 30, .inl (fun _ => 0))), ((u 10), .inl (k 0, 7, .inl (va_cpy sSpa (fun _ => 0) (Int32.toNatClampNeg 0) (Int32.toNatClampNeg 0) (Int32.toNatClampNeg 7)))), ((u 11), .inl (k 0, 6, .inl (fun _ => 0)))]
def bY (k u : Nat → Nat) : va_W := [((u 12), .inr (0, [.ref (u 13), .int 0, .int 0])), ((u 13), .inl (k 1, 5, .inr (.inr (.inr (.inr (va_up (va_up (va_up (va_up (va_up (fun _ => none) (Int32.toNatClampNeg 0) (some (u 14))) (Int32.toNatClampNeg 1) (some (u 26))) (Int32.toNatClampNeg 2) (some (u 38))) (Int32.toNatClampNeg 3) (some (u 50))) (Int32.toNatClampNeg 4) (some (u 62))))))))]
def bR (k u : Nat → Nat) : va_W := [((u 14), .inr (2, [.ref (u 15), .ref (u 16), .ref (u 18), .ref (u 20), .ref (u 22), .ref (u 24), .ref (u 25), .int 0])), ((u 15), .inl (k 0, 32, .inl (fun _ => 0))), ((u 16), .inr (3, [.int 12, .int 11, .ref (u 17), .int 0])), ((u 17), .inl (k 0, 132, .inl (fun _ => 0))), ((u 18), .inr (3, [.int 12, .int 11, .ref (u 19), .int 0])), ((u 19), .inl (k 0, 132, .inl (fun _ => 0))), ((u 20), .inr (3, [.int 8, .int 7, .ref (u 21), .int 0])), ((u 21), .inl (k 0, 56, .inl (fun _ => 0))), ((u 22), .inr (3, [.int 6, .int 5, .ref (u 23), .int 0])), ((u 23), .inl (k 0, 30, .inl (fun _ => 0))), ((u 24), .inl (k 0, 7, .inl (va_cpy sSpa (fun _ => 0) (Int32.toNatClampNeg 0) (Int32.toNatClampNeg 0) (Int32.toNatClampNeg 7)))), ((u 25), .inl (k 0, 6, .inl (fun _ => 0))), ((u 26), .inr (2, [.ref (u 27), .ref (u 28), .ref (u 30), .ref (u 32), .ref (u 34), .ref (u 36), .ref (u 37), .int 0])), ((u 27), .inl (k 0, 32, .inl (fun _ => 0))), ((u 28), .inr (3, [.int 12, .int 11, .ref (u 29), .int 0])), ((u 29), .inl (k 0, 132, .inl (fun _ => 0))), ((u 30), .inr (3, [.int 12, .int 11, .ref (u 31), .int 0])), ((u 31), .inl (k 0, 132, .inl (fun _ => 0))), ((u 32), .inr (3, [.int 8, .int 7, .ref (u 33), .int 0])), ((u 33), .inl (k 0, 56, .inl (fun _ => 0))), ((u 34), .inr (3, [.int 6, .int 5, .ref (u 35), .int 0])), ((u 35), .inl (k 0, 30, .inl (fun _ => 0))), ((u 36), .inl (k 0, 7, .inl (va_cpy sSpa (fun _ => 0) (Int32.toNatClampNeg 0) (Int32.toNatClampNeg 0) (Int32.toNatClampNeg 7)))), ((u 37), .inl (k 0, 6, .inl (fun _ => 0))), ((u 38), .inr (2, [.ref (u 39), .ref (u 40), .ref (u 42), .ref (u 44), .ref (u 46), .ref (u 48), .ref (u 49), .int 0])), ((u 39), .inl (k 0, 32, .inl (fun _ => 0))), ((u 40), .inr (3, [.int 12, .int 11, .ref (u 41), .int 0])), ((u 41), .inl (k 0, 132, .inl (fun _ => 0))), ((u 42), .inr (3, [.int 12, .int 11, .ref (u 43), .int 0])), ((u 43), .inl (k 0, 132, .inl (fun _ => 0))), ((u 44), .inr (3, [.int 8, .int 7, .ref (u 45), .int 0])), ((u 45), .inl (k 0, 56, .inl (fun _ => 0))), ((u 46), .inr (3, [.int 6, .int 5, .ref (u 47), .int 0])), ((u 47), .inl (k 0, 30, .inl (fun _ => 0))), ((u 48), .inl (k 0, 7, .inl (va_cpy sSpa (fun _ => 0) (Int32.toNatClampNeg 0) (Int32.toNatClampNeg 0) (Int32.toNatClampNeg 7)))), ((u 49), .inl (k 0, 6, .inl (fun _ => 0))), ((u 50), .inr (2, [.ref (u 51), .ref (u 52), .ref (u 54), .ref (u 56), .ref (u 58), .ref (u 60), .ref (u 61), .int 0])), ((u 51), .inl (k 0, 32, .inl (fun _ => 0))), ((u 52), .inr (3, [.int 12, .int 11, .ref (u 53), .int 0])), ((u 53), .inl (k 0, 132, .inl (fun _ => 0))), ((u 54), .inr (3, [.int 12, .int 11, .ref (u 55), .int 0])), ((u 55), .inl (k 0, 132, .inl (fun _ => 0))), ((u 56), .inr (3, [.int 8, .int 7, .ref (u 57), .int 0])), ((u 57), .inl (k 0, 56, .inl (fun _ => 0))), ((u 58), .inr (3, [.int 6, .int 5, .ref (u 59), .int 0])), ((u 59), .inl (k 0, 30, .inl (fun _ => 0))), ((u 60), .inl (k 0, 7, .inl (va_cpy sSpa (fun _ => 0) (Int32.toNatClampNeg 0) (Int32.toNatClampNeg 0) (Int32.toNatClampNeg 7)))), ((u 61), .inl (k 0, 6, .inl (fun _ => 0))), ((u 62), .inr (2, [.ref (u 63), .ref (u 64), .ref (u 66), .ref (u 68), .ref (u 70), .ref (u 72), .ref (u 73), .int 0])), ((u 63), .inl (k 0, 32, .inl (fun _ => 0))), ((u 64), .inr (3, [.int 12, .int 11, .ref (u 65), .int 0])), ((u 65), .inl (k 0, 132, .inl (fun _ => 0))), ((u 66), .inr (3, [.int 12, .int 11, .ref (u 67), .int 0])), ((u 67), .inl (k 0, 132, .inl (fun _ => 0))), ((u 68), .inr (3, [.int 8, .int 7, .ref (u 69), .int 0])), ((u 69), .inl (k 0, 56, .inl (fun _ => 0))), ((u 70), .inr (3, [.int 6, .int 5, .ref (u 71), .int 0])), ((u 71), .inl (k 0, 30, .inl (fun _ => 0))), ((u 72), .inl (k 0, 7, .inl (va_cpy sSpa (fun _ => 0) (Int32.toNatClampNeg 0) (Int32.toNatClampNeg 0) (Int32.toNatClampNeg 7)))), ((u 73), .inl (k 0, 6, .inl (fun _ => 0)))]
def bT (k u : Nat → Nat) : va_W := [((u 74), .inr (4, [.ref (u 75), .ref (u 76), .int 0, .int 0, .int 0, .int 0])), ((u 75), .inl (k 0, 120, .inl (fun _ => 0))), ((u 76), .inr (3, [.int 12, .int 11, .ref (u 77), .int 0])), ((u 77), .inl (k 0, 132, .inl (fun _ => 0)))]
def bP (k u : Nat → Nat) : va_W := [((u 78), .inr (1, [.ref (u 79), .ref (u 80), .ref (u 81), .ref (u 82), .int 0, .int 0, .int 0, .int 0])), ((u 79), .inl (k 0, 32, .inl (fun _ => 0))), ((u 80), .inl (k 0, 32, .inl (fun _ => 0))), ((u 81), .inl (k 0, 12, .inl (fun _ => 0))), ((u 82), .inl (k 0, 12, .inl (fun _ => 0)))]
def bQ (k u : Nat → Nat) : va_W := [((u 83), .inr (1, [.ref (u 84), .ref (u 85), .ref (u 86), .ref (u 87), .int 0, .int 0, .int 0, .int 0])), ((u 84), .inl (k 0, 32, .inl (fun _ => 0))), ((u 85), .inl (k 0, 32, .inl (fun _ => 0))), ((u 86), .inl (k 0, 12, .inl (fun _ => 0))), ((u 87), .inl (k 0, 12, .inl (fun _ => 0)))]
def bM (k : Nat → Nat) (oq : Nat) (v : Nat → Nat) : va_W := [(oq, .inr (6, [.ref (v 0), .ref (v 1), .int 0, .ref (v 2), .ref (v 3), .int 0, .ref (v 4), .ref (v 5), .ref (v 6), .int 0, .int 0, .int 0, .int 0, .long 0])), ((v 0), .inl (k 0, 401, .inl (upd (upd (upd (upd (upd (upd (upd (fun _ => 0) (Int32.toNatClampNeg 387) 5) (Int32.toNatClampNeg 388) 5) (Int32.toNatClampNeg 389) 40) (Int32.toNatClampNeg 390) 10) (Int32.toNatClampNeg 391) 3) (Int32.toNatClampNeg 392) 8) (Int32.toNatClampNeg 393) 20))), ((v 1), .inl (k 0, 2005, .inl (fun _ => 0))), ((v 2), .inl (k 0, 3, .inl (fun _ => 0))), ((v 3), .inl (k 0, 120, .inl (fun _ => 0))), ((v 4), .inl (k 0, 11, .inl (fun _ => 0))), ((v 5), .inl (k 0, 164, .inl (fun _ => 0))), ((v 6), .inl (k 0, 132, .inl (fun _ => 0)))]
def bY' (k u : Nat → Nat) : va_W := [((u 12), .inr (0, [.ref (u 13), .int 0, .int 0])), ((u 13), .inl (k 1, 5, .inr (.inr (.inr (.inr (fun j => some (u (14 + 12 * j + 0))))))))]
def bM' (k : Nat → Nat) (oq : Nat) (v : Nat → Nat) : va_W := [(oq, .inr (6, [.ref (v 0), .ref (v 1), .int 0, .ref (v 2), .ref (v 3), .int 0, .ref (v 4), .ref (v 5), .ref (v 6), .int 0, .int 0, .int 0, .int 0, .long 0])), ((v 0), .inl (k 0, 401, .inl (upd (upd (upd (upd (upd (upd (upd (fun _ => 0) (Int32.toNatClampNeg 387) 5) (Int32.toNatClampNeg 388) 5) (Int32.toNatClampNeg 389) 40) (Int32.toNatClampNeg 390) 10) (Int32.toNatClampNeg 391) 3) (Int32.toNatClampNeg 392) 8) (Int32.toNatClampNeg 393) 20))), ((v 1), .inl (k 0, 2005, .inl (fun _ => 0))), ((v 2), .inl (k 0, 3, .inl (fun _ => 0))), ((v 4), .inl (k 0, 11, .inl (fun _ => 0))), ((v 5), .inl (k 0, 164, .inl (fun _ => 0))), ((v 3), .inl (k 0, 120, .inl (fun _ => 0))), ((v 6), .inl (k 0, 132, .inl (fun _ => 0)))]
theorem eqB (k : Nat → Nat) (xq oq : Nat) (u v : Nat → Nat) : B_X5_init k xq u ++ B_X6_init k oq v = bZ k xq u ++ (bE k u ++ (bY k u ++ (bR k u ++ (bT k u ++ (bP k u ++ (bQ k u ++ bM k oq v)))))) := by
  simp only [B_X5_init, B_X6_init, bZ, bE, bY, bR, bT, bP, bQ, bM, List.cons_append, List.nil_append]
def cS : Nat → Int32 := va_cpy sSpa (fun _ => 0) (Int32.toNatClampNeg 0) (Int32.toNatClampNeg 0) (Int32.toNatClampNeg 7)
def R0 : Nat → Nat → Nat → Int32 := fun _ a => match a with | 5 => cS | _ => fun _ => 0
def g0 (u : Nat → Nat) (j i : Nat) : Nat := u (14 + 12 * j + i)
def ad0 (xq oq : Nat) (u v : Nat → Nat) (i : Nat) : Nat := ([oq, v 0, v 1, v 2, v 4, v 5, v 3, v 6, u 78, u 79, u 80, u 81, u 82, u 83, u 84, u 85, u 86, u 87, u 74, u 75, u 76, u 77, xq, u 12, u 13, u 0, u 1, u 2, u 3, u 4, u 5, u 6, u 7, u 8, u 9, u 10, u 11] : List Nat).getD i 0
def N0 : Nat → Int32 := upd (upd (upd (upd (upd (upd (upd (fun _ => 0) (Int32.toNatClampNeg 387) 5) (Int32.toNatClampNeg 388) 5) (Int32.toNatClampNeg 389) 40) (Int32.toNatClampNeg 390) 10) (Int32.toNatClampNeg 391) 3) (Int32.toNatClampNeg 392) 8) (Int32.toNatClampNeg 393) 20
theorem eqR (k u : Nat → Nat) : bR k u = rgX k (g0 u) R0 := rfl
theorem eqW (k : Nat → Nat) (xq oq : Nat) (u v : Nat → Nat) : WW k (ad0 xq oq u v) (g0 u) 0 0 0 0 0 0 0 0 0 0 0 0 0 0 0 0 0 0 0 0 0 0 0 0 0 0 0 0 0 0 N0 (fun _ => 0) (fun _ => 0) (fun _ => 0) (fun _ => 0) (fun _ => 0) (fun _ => 0) (fun _ => 0) (fun _ => 0) (fun _ => 0) (fun _ => 0) (fun _ => 0) (fun _ => 0) (fun _ => 0) (fun _ => 0) (fun _ => 0) (fun _ => 0) (fun _ => 0) (fun _ => 0) (fun _ => 0) (fun _ => 0) (fun _ => 0) cS (fun _ => 0) R0 = bM' k oq v ++ (bP k u ++ (bQ k u ++ (bT k u ++ (bZ k xq u ++ (bY' k u ++ (bE k u ++ rgX k (g0 u) R0)))))) := rfl
theorem pmW (Z E Y R T P1 P2 M : va_W) : (Z ++ (E ++ (Y ++ (R ++ (T ++ (P1 ++ (P2 ++ M))))))).Perm (M ++ (P1 ++ (P2 ++ (T ++ (Z ++ (Y ++ (E ++ R))))))) := by
  have h1 : (E ++ (Y ++ R)).Perm (Y ++ (E ++ R)) := by
    have := (List.perm_append_comm (l₁ := E) (l₂ := Y)).append_right R
    simpa only [List.append_assoc] using this
  have h2 : (Z ++ (E ++ (Y ++ (R ++ T)))).Perm (T ++ (Z ++ (Y ++ (E ++ R)))) := by
    have a : ((Z ++ (E ++ (Y ++ R))) ++ T).Perm (T ++ (Z ++ (E ++ (Y ++ R)))) := List.perm_append_comm
    have b := a.trans (List.Perm.append_left T (List.Perm.append_left Z h1))
    simpa only [List.append_assoc] using b
  have h3 : ((Z ++ (E ++ (Y ++ (R ++ T)))) ++ (P1 ++ P2)).Perm ((P1 ++ P2) ++ (T ++ (Z ++ (Y ++ (E ++ R))))) := List.perm_append_comm.trans (List.Perm.append_left _ h2)
  have h4 : (((Z ++ (E ++ (Y ++ (R ++ T)))) ++ (P1 ++ P2)) ++ M).Perm (M ++ ((P1 ++ P2) ++ (T ++ (Z ++ (Y ++ (E ++ R)))))) := List.perm_append_comm.trans (List.Perm.append_left M h3)
  simpa only [List.append_assoc] using h4
theorem pm8 (a b c d e f g h : Nat × va_E) : ([a, b, c, d, e, f, g, h] : va_W).Perm [a, b, c, d, f, g, e, h] := List.Perm.append_left [a, b, c, d] (List.Perm.append_right [h] (List.perm_append_comm (l₁ := [e]) (l₂ := [f, g])))
theorem pmM (k : Nat → Nat) (oq : Nat) (v : Nat → Nat) : (bM k oq v).Perm (bM' k oq v) := by
  unfold bM bM'
  exact pm8 _ _ _ _ _ _ _ _
theorem at_ring {D : va_G} {cl : List vw_C} {a cA n : Nat} {f f' : Nat → Option Nat} {H : Heap} (h : ∀ j, j < n → f j = f' j) (hP : va_at D cl (a, .inl (cA, n, .inr (.inr (.inr (.inr f))))) H) : va_at D cl (a, .inl (cA, n, .inr (.inr (.inr (.inr f'))))) H := by
  show H[a]? = some (vp_cell cA (n, .inr (.inr (.inr (.inr f')))))
  have e : vp_cell cA (n, .inr (.inr (.inr (.inr f)))) = vp_cell cA (n, .inr (.inr (.inr (.inr f')))) := by
    rw [vp_cell_q, vp_cell_q]
    unfold arrV
    congr 2
    funext j
    exact congrArg va_rf (h j.val j.isLt)
  rw [← e]
  exact hP
theorem inv_start {D : va_G} {k u v : Nat → Nat} {xq oq : Nat} {A : Nat → Prop} {H : Heap} (hP : va_P D vwCl (B_X5_init k xq u ++ B_X6_init k oq v) H) (hD : va_D A (B_X5_init k xq u ++ B_X6_init k oq v)) : ∃ ws, INV k xq oq ws ∧ va_P D vwCl ws H ∧ va_D A ws := by
  rw [eqB, eqR] at hP hD
  refine ⟨WW k (ad0 xq oq u v) (g0 u) 0 0 0 0 0 0 0 0 0 0 0 0 0 0 0 0 0 0 0 0 0 0 0 0 0 0 0 0 0 0 N0 (fun _ => 0) (fun _ => 0) (fun _ => 0) (fun _ => 0) (fun _ => 0) (fun _ => 0) (fun _ => 0) (fun _ => 0) (fun _ => 0) (fun _ => 0) (fun _ => 0) (fun _ => 0) (fun _ => 0) (fun _ => 0) (fun _ => 0) (fun _ => 0) (fun _ => 0) (fun _ => 0) (fun _ => 0) (fun _ => 0) (fun _ => 0) cS (fun _ => 0) R0, ?_, ?_, ?_⟩
  · refine INV_mk (ad := ad0 xq oq u v) ?_ ?_ ?_ ?_
    · have n0 : ∀ i, i < 387 ∨ 394 ≤ i → N0 i = 0 := by
        intro i hi
        unfold N0
        rw [show Int32.toNatClampNeg 387 = 387 by decide, show Int32.toNatClampNeg 388 = 388 by decide, show Int32.toNatClampNeg 389 = 389 by decide, show Int32.toNatClampNeg 390 = 390 by decide, show Int32.toNatClampNeg 391 = 391 by decide, show Int32.toNatClampNeg 392 = 392 by decide, show Int32.toNatClampNeg 393 = 393 by decide]
        simp (disch := omega) only [pk_un]
      have s0 : ∀ j : Fin 7, cS j.val = N0 (387 + j.val) := by decide +kernel
      refine ⟨fun a ha => (n0 a (by omega)).symm, ⟨0, by omega, rfl, n0 32 (by omega), fun j hj => by omega, fun j hj => by omega⟩, ⟨0, by omega, rfl, n0 165 (by omega), fun j hj => by omega, fun j hj => by omega⟩, ⟨0, by omega, rfl, n0 298 (by omega), fun j hj => by omega, fun j hj => by omega, fun i j hij hj => by omega⟩, ⟨0, by omega, rfl, n0 355 (by omega), fun j hj => by omega⟩, fun j hj => s0 ⟨j, hj⟩, (n0 394 (by omega)).symm, fun j hj => (n0 (395 + j) (by omega)).symm⟩
    · exact ⟨0, 0, by omega, by omega, rfl, rfl, rfl, fun j hj => by omega⟩
    · exact ⟨rfl, rfl, rfl⟩
    · exact ⟨0, by omega, rfl, rfl, fun j hj => by omega⟩
  · rw [eqW]
    obtain ⟨pZ, hP⟩ := P_app.mp hP
    obtain ⟨pE, hP⟩ := P_app.mp hP
    obtain ⟨pY, hP⟩ := P_app.mp hP
    obtain ⟨pR, hP⟩ := P_app.mp hP
    obtain ⟨pT, hP⟩ := P_app.mp hP
    obtain ⟨pP, hP⟩ := P_app.mp hP
    obtain ⟨pQ, pM⟩ := P_app.mp hP
    have pY' : va_P D vwCl (bY' k u) H := by
      rw [P_mem] at pY ⊢
      unfold bY' 
      intro q hq
      rcases List.mem_cons.mp hq with rfl | hq
      · exact pY _ List.mem_cons_self
      · rcases List.mem_cons.mp hq with rfl | hq
        · refine at_ring (fun j hj => ?_) (pY _ (List.mem_cons_of_mem _ List.mem_cons_self))
          rcases five hj with rfl | rfl | rfl | rfl | rfl <;> rfl
        · exact absurd hq List.not_mem_nil
    exact P_app.mpr ⟨P_perm (pmM k oq v) pM, P_app.mpr ⟨pP, P_app.mpr ⟨pQ, P_app.mpr ⟨pT, P_app.mpr ⟨pZ, P_app.mpr ⟨pY', P_app.mpr ⟨pE, pR⟩⟩⟩⟩⟩⟩⟩
  · rw [eqW]
    have h1 := D_perm (pmW _ _ _ _ _ _ _ _) hD
    have h2 := D_perm (List.Perm.append_right _ (pmM k oq v)) h1
    refine zD_of h2 (fun i q hq => zFstAt (w := bM' k oq v ++ (bP k u ++ (bQ k u ++ (bT k u ++ (bZ k xq u ++ (bY k u ++ (bE k u ++ rgX k (g0 u) R0))))))) ?_ hq)
    simp only [List.map_append]
    rfl
