theorem f_appendA {n : Nat} {tf : Nat → Int32} {x y p s : Int32} (hn : n < 6) : f_X5_appendCase 6 5 (nI n) 30 tf x y p s = some (nI (n + 1), upd (upd (upd (upd tf (n * 5) x) (n * 5 + 1) y) (n * 5 + 2) p) (n * 5 + 3) s) := by
  unfold f_X5_appendCase
  have e : shr (5 * (n + 1)) (5 * (n + 1)) 5 tf = tf := funext fun k => shr_out (by omega)
  rw [f_X3_size, bs, ins5 (Nat.le_refl _) hn, e]
  simp (disch := omega) only [bs, q0, q1, q2, q3, put5, Nat.add_zero]
theorem f_appendF {n : Nat} {tf : Nat → Int32} {x y p s : Int32} (hn : n < 8) : f_X5_appendCase 8 7 (nI n) 56 tf x y p s = some (nI (n + 1), upd (upd (upd (upd tf (n * 7) x) (n * 7 + 1) y) (n * 7 + 2) p) (n * 7 + 3) s) := by
  unfold f_X5_appendCase
  have e : shr (7 * (n + 1)) (7 * (n + 1)) 7 tf = tf := funext fun k => shr_out (by omega)
  rw [f_X3_size, bs, ins7 (Nat.le_refl _) hn, e]
  simp (disch := omega) only [bs, q0, q1, q2, q3, put7, Nat.add_zero]
theorem f_isFullA {n : Nat} (h : n ≤ 6) : f_X3_isFull 6 (nI n) = some (decide (n = 6)) := by
  unfold f_X3_isFull
  by_cases hn : n = 6
  · rw [if_neg (show ¬ nI n < 6 by rw [hn]; decide), decide_eq_true hn]
  · rw [if_pos (show nI n < 6 from nI_lt (b := 6) (by omega) (by decide)), decide_eq_false hn]
theorem f_isFullF {n : Nat} (h : n ≤ 8) : f_X3_isFull 8 (nI n) = some (decide (n = 8)) := by
  unfold f_X3_isFull
  by_cases hn : n = 8
  · rw [if_neg (show ¬ nI n < 8 by rw [hn]; decide), decide_eq_true hn]
  · rw [if_pos (show nI n < 8 from nI_lt (b := 8) (by omega) (by decide)), decide_eq_false hn]
section P7
variable {fu : Nat} {b0 b1 b2 yhs yhn states : Int32} {estm : Int32} {eszo : Nat → Int32} {esrs : Int32} {esrf : Nat → Int32} {esks : Int32} {eskf : Nat → Int32} {esfs : Int32} {esff : Nat → Int32} {esas : Int32} {esaf espf estf : Nat → Int32} {R : Nat → Nat → Nat → Int32} {now past refused : Nat → Int32}
def anW (i way na : Nat) (a3 : Int32) (now : Nat → Int32) : Nat → Int32 := upd (upd (upd (upd (upd (upd now (356 + 5 * na) (now (299 + 7 * i + 1 - way))) (356 + 5 * na + 1) (now (299 + 7 * i + way))) (356 + 5 * na + 2) a3) (356 + 5 * na + 3) (now (299 + 7 * i + 3))) (356 + 5 * na + 4) (now 394 + 10)) 355 (nI (na + 1))
theorem f_announcesM {i way na nf : Nat} {a3 st : Int32} {pa : Nat → Int32} (hi : i < nf) (hf : nf ≤ 8) (hw : way ≤ 1) (hna : na < 6) (h298 : now 298 = nI nf) (h355 : now 355 = nI na) (h3 : zin a3 0 15 = true) (hs : now (299 + 7 * i + 4) = nI 3 ∨ now (299 + 7 * i + 4) = nI 7) (hr : f_X6_remembers fu states now past = some (st, pa)) : f_X6_announces fu states now past refused (nI i) (nI way) a3 = some (nI (na + 1), st, anW i way na a3 now, pa, refused) := by
  unfold f_X6_announces
  have hn6 : (na = 6) = False := eq_false (by omega)
  have hz1 := zin_m1t (n := nf) (by omega) hi
  have hz2 : zin (nI way) 0 (nI 1) = true := by rw [zin_nI (by omega) (by decide)]; exact decide_eq_true hw
  rw [if_pos z298, t298, h298, f_in, bs, hz1, iteT, f_in, bs, show zin (nI way) 0 1 = true from hz2, iteT, f_in, bs, h3, iteT, f_flowAt, bs]
  rcases hs with hs | hs
  · simp (disch := omega) only [q1, q2, q3, q4, nI_add, zok_nI, nI_clamp, hs, eq_self, if_true, z355, t355, h355, q6, nI_eq, hn6, if_false, hr, bs, q5, q356, pk_mul, pk_sub, z394, t394, pk_un, pk_us]
    rfl
  · simp (disch := omega) only [q1, q2, q3, q4, q7, nI_add, zok_nI, nI_clamp, hs, eq_self, if_true, z355, t355, h355, q6, nI_eq, hn6, if_false, hr, bs, q5, q356, pk_mul, pk_sub, z394, t394, pk_un, pk_us]
    rfl
theorem s_announces (hf : 2000 < fu) (hs : SR (pk12 estm eszo esrs esrf esks eskf esfs esff esas esaf espf estf) now) (hh : HR R yhs yhn states past) (hc : CR b0 b1 b2 refused) (a1 a2 a3 : Int32) : ∃ r c0 c1 c2 ys yn as af R' st nw pa re, f_X5_announces b0 b1 b2 yhs yhn estm eszo esrs esrf esks eskf esfs esff esas esaf espf estf R a1 a2 a3 = some (r, c0, c1, c2, ys, yn, as, af, R') ∧ f_X6_announces fu states now past refused a1 a2 a3 = some (r, st, nw, pa, re) ∧ SR (pk12 estm eszo esrs esrf esks eskf esfs esff as af espf estf) nw ∧ HR R' ys yn st pa ∧ CR c0 c1 c2 re := by
  obtain ⟨ys, yn, R', st, pa, e1, e2, e3⟩ := rem_step hf hs hh
  have hs0 := hs
  obtain ⟨p0, ⟨nr, h1⟩, ⟨nk, h2⟩, ⟨nf, f1, f2, f3, f4, f5, f6⟩, ⟨na, a1', s2, s3, s4⟩, t0, t1, t2⟩ := hs
  obtain rfl : esfs = nI nf := f2
  obtain rfl : esas = nI na := s2
  obtain rfl : estm = now 394 := t1
  cases hz1 : zin a1 0 (nI nf - 1) with
  | false =>
    unfold f_X5_announces f_X6_announces
    rw [f_isFlowC, bs, hz1, iteF, f_failsB, bs, if_pos z298, t298, f3, f_in, bs, hz1, iteF, f_bad]
    exact ⟨_, _, _, _, _, _, _, _, _, _, _, _, _, rfl, rfl, hs0, hh, hc.bad⟩
  | true =>
    cases hz2 : zin a2 0 1 with
    | false =>
      unfold f_X5_announces f_X6_announces
      rw [f_isFlowC, bs, hz1, iteT, f_within, bs, hz2, iteF, f_failsB, bs, if_pos z298, t298, f3, f_in, bs, hz1, iteT, f_in, bs, hz2, iteF, f_bad]
      exact ⟨_, _, _, _, _, _, _, _, _, _, _, _, _, rfl, rfl, hs0, hh, hc.bad⟩
    | true =>
      cases hz3 : zin a3 0 15 with
      | false =>
        unfold f_X5_announces f_X6_announces
        rw [f_isFlowC, bs, hz1, iteT, f_within, bs, hz2, iteT, f_within, bs, hz3, iteF, f_failsB, bs, if_pos z298, t298, f3, f_in, bs, hz1, iteT, f_in, bs, hz2, iteT, f_in, bs, hz3, iteF, f_bad]
        exact ⟨_, _, _, _, _, _, _, _, _, _, _, _, _, rfl, rfl, hs0, hh, hc.bad⟩
      | true =>
        obtain ⟨i, hi, rfl⟩ := zin_m1 (by omega) hz1
        obtain ⟨way, hw, rfl⟩ := zin_nat (n := 1) (by decide) hz2
        have g4 : esff (i * 7 + 4) = now (299 + 7 * i + 4) := (f4 _ (by omega)).trans (congrArg now (by omega))
        have g0 : esff (i * 7 + 0) = now (299 + 7 * i) := (f4 _ (by omega)).trans (congrArg now (by omega))
        have g1 : esff (i * 7 + 1) = now (299 + 7 * i + 1) := (f4 _ (by omega)).trans (congrArg now (by omega))
        have g3 : esff (i * 7 + 3) = now (299 + 7 * i + 3) := (f4 _ (by omega)).trans (congrArg now (by omega))
        have hcl : f_X5_announces b0 b1 b2 yhs yhn (now 394) eszo esrs esrf esks eskf (nI nf) esff (nI na) esaf espf estf R (nI i) (nI way) a3 = (if now (299 + 7 * i + 4) = 3 ∨ now (299 + 7 * i + 4) = 7 then (if na = 6 then some (-4, b0, b1, b2 + 1, yhs, yhn, nI na, esaf, R) else some (nI (na + 1), b0, b1, b2, ys, yn, nI (na + 1), upd (upd (upd (upd (upd esaf (na * 5) (if way = 0 then now (299 + 7 * i + 1) else now (299 + 7 * i))) (na * 5 + 1) (if way = 0 then now (299 + 7 * i) else now (299 + 7 * i + 1))) (na * 5 + 2) a3) (na * 5 + 3) (now (299 + 7 * i + 3))) (na * 5 + 4) (now 394 + 10), R')) else some (-3, b0, b1 + 1, b2, yhs, yhn, nI na, esaf, R)) := by
          unfold f_X5_announces
          rw [f_isFlowC, bs, hz1, iteT, f_within, bs, hz2, iteT, f_within, bs, hz3, iteT, f_isFullA a1', show f_X3_get 7 (nI nf) 56 esff (nI i) 4 = some (now (299 + 7 * i + 4)) from (get7 (c := 4) hi (by omega) f1).trans (congrArg some g4), bs]
          simp only [bs, f_failsF, f_failsN, e1]
          have hbody : ((f_X3_get 7 (nI nf) 56 esff (nI i) 0).bind fun r9 => (f_X3_get 7 (nI nf) 56 esff (nI i) 1).bind fun r10 => (f_X3_get 7 (nI nf) 56 esff (nI i) 3).bind fun r11 => if nI way = 0 then ((f_X5_appendCase 6 5 (nI na) 30 esaf r10 r9 a3 r11).bind fun r16 => (f_X3_size r16.1 ).bind fun r17 => (f_X3_put 5 r16.1 30 r16.2 (r17 - 1) 4 (now 394 + 10)).bind fun r18 => (f_X3_size r16.1 ).bind fun r19 => some (r19, b0, b1, b2, ys, yn, r16.1, r18, R')) else ((f_X5_appendCase 6 5 (nI na) 30 esaf r9 r10 a3 r11).bind fun r12 => (f_X3_size r12.1 ).bind fun r13 => (f_X3_put 5 r12.1 30 r12.2 (r13 - 1) 4 (now 394 + 10)).bind fun r14 => (f_X3_size r12.1 ).bind fun r15 => some (r15, b0, b1, b2, ys, yn, r12.1, r14, R'))) = (if na = 6 then none else some (nI (na + 1), b0, b1, b2, ys, yn, nI (na + 1), upd (upd (upd (upd (upd esaf (na * 5) (if way = 0 then now (299 + 7 * i + 1) else now (299 + 7 * i))) (na * 5 + 1) (if way = 0 then now (299 + 7 * i) else now (299 + 7 * i + 1))) (na * 5 + 2) a3) (na * 5 + 3) (now (299 + 7 * i + 3))) (na * 5 + 4) (now 394 + 10), R')) ∨ na = 6 := by
            by_cases h6 : na = 6
            · exact Or.inr h6
            · refine Or.inl ?_
              rw [if_neg h6, q0, q1, q3, get7 hi (by omega) f1, get7 hi (by omega) f1, get7 hi (by omega) f1, bs, bs, bs, g0, g1, g3]
              have hw2 : way = 0 ∨ way = 1 := by omega
              rcases hw2 with rfl | rfl
              · rw [if_pos rfl, if_pos rfl, if_pos rfl, f_appendA (by omega), bs, f_X3_size, bs]
                dsimp only
                rw [← q1, nI_pred, q4, put5 (by omega) (by omega) (by omega), bs, bs]
              · rw [if_neg (show ¬ nI 1 = nI 0 by decide), if_neg (by omega), if_neg (by omega), f_appendA (by omega), bs, f_X3_size, bs]
                dsimp only
                rw [← q1, nI_pred, q4, put5 (by omega) (by omega) (by omega), bs, bs]
          by_cases h6 : na = 6
          · rw [decide_eq_true h6, iteT, if_pos h6]
            by_cases hs3 : now (299 + 7 * i + 4) = 3
            · rw [if_pos hs3, if_pos (Or.inl hs3)]
            · rw [if_neg hs3]
              by_cases hs7 : now (299 + 7 * i + 4) = 7
              · rw [if_pos hs7, if_pos (Or.inr hs7)]
              · rw [if_neg hs7, if_neg (fun h => h.elim hs3 hs7)]
          · rcases hbody with hbody | hb
            · rw [if_neg h6] at hbody
              rw [decide_eq_false h6, iteF, if_neg h6, hbody]
              by_cases hs3 : now (299 + 7 * i + 4) = 3
              · rw [if_pos hs3, if_pos (Or.inl hs3)]
              · rw [if_neg hs3]
                by_cases hs7 : now (299 + 7 * i + 4) = 7
                · rw [if_pos hs7, if_pos (Or.inr hs7)]
                · rw [if_neg hs7, if_neg (fun h => h.elim hs3 hs7)]
            · exact absurd hb h6
        rw [hcl]
        by_cases hst : now (299 + 7 * i + 4) = 3 ∨ now (299 + 7 * i + 4) = 7
        · rw [if_pos hst]
          by_cases h6 : na = 6
          · rw [if_pos h6]
            unfold f_X6_announces
            rw [if_pos z298, t298, f3, f_in, bs, hz1, iteT, f_in, bs, hz2, iteT, f_in, bs, hz3, iteT, f_flowAt, bs, q4, nI_add, if_pos (zok_nI (by omega) (by decide)), nI_clamp (by omega), if_pos z355, t355, s3, if_pos (show nI na = 6 by rw [h6]; rfl), f_full]
            by_cases hs3 : now (299 + 7 * i + 4) = 3
            · rw [if_pos hs3]
              exact ⟨_, _, _, _, _, _, _, _, _, _, _, _, _, rfl, rfl, hs0, hh, hc.full⟩
            · rw [if_neg hs3, if_pos (zok_nI (by omega) (by decide)), if_pos (hst.resolve_left hs3)]
              exact ⟨_, _, _, _, _, _, _, _, _, _, _, _, _, rfl, rfl, hs0, hh, hc.full⟩
          · rw [if_neg h6, f_announcesM hi f1 hw (by omega) f3 s3 hz3 hst e2]
            refine ⟨_, _, _, _, _, _, _, _, _, _, _, _, _, rfl, rfl, ?_, e3, hc⟩
            have ho : ∀ k, k < 355 ∨ 386 ≤ k → anW i way na a3 now k = now k := by
              intro k hk
              unfold anW
              simp (disch := omega) only [pk_un]
            refine ⟨ZnR.w p0 (fun k hk => ho k (by omega)), ⟨nr, RuR.w h1 (fun k h1 h2 => ho k (by omega))⟩, ⟨nk, KeR.w h2 (fun k h1 h2 => ho k (by omega))⟩, ⟨nf, FlR.w ⟨f1, rfl, f3, f4, f5, f6⟩ (fun k h1 h2 => ho k (by omega))⟩, ⟨na + 1, by omega, rfl, ?_, fun k hk => ?_⟩, ScR.w ⟨t0, rfl, t2⟩ (fun k h1 h2 => ho k (by omega))⟩
            · unfold anW; rw [pk_us]
            · show upd (upd (upd (upd (upd esaf (na * 5) (if way = 0 then now (299 + 7 * i + 1) else now (299 + 7 * i))) (na * 5 + 1) (if way = 0 then now (299 + 7 * i) else now (299 + 7 * i + 1))) (na * 5 + 2) a3) (na * 5 + 3) (now (299 + 7 * i + 3))) (na * 5 + 4) (now 394 + 10) k = anW i way na a3 now (356 + k)
              unfold anW
              have hk2 : k < 5 * na ∨ k = na * 5 ∨ k = na * 5 + 1 ∨ k = na * 5 + 2 ∨ k = na * 5 + 3 ∨ k = na * 5 + 4 := by omega
              have hw2 : way = 0 ∨ way = 1 := by omega
              rcases hk2 with hk2 | rfl | rfl | rfl | rfl | rfl
              · simp (disch := omega) only [pk_un]
                exact s4 k hk2
              · rw [show 356 + na * 5 = 356 + 5 * na by omega]
                simp (disch := omega) only [pk_un, pk_us]
                rcases hw2 with rfl | rfl
                · rw [if_pos rfl]; rfl
                · rw [if_neg (by omega)]; exact congrArg now (by omega)
              · rw [show 356 + (na * 5 + 1) = 356 + 5 * na + 1 by omega]
                simp (disch := omega) only [pk_un, pk_us]
                rcases hw2 with rfl | rfl
                · rw [if_pos rfl]; rfl
                · rw [if_neg (by omega)]
              · rw [show 356 + (na * 5 + 2) = 356 + 5 * na + 2 by omega]
                simp (disch := omega) only [pk_un, pk_us]
              · rw [show 356 + (na * 5 + 3) = 356 + 5 * na + 3 by omega]
                simp (disch := omega) only [pk_un, pk_us]
              · rw [show 356 + (na * 5 + 4) = 356 + 5 * na + 4 by omega]
                simp (disch := omega) only [pk_un, pk_us]
        · rw [if_neg hst]
          unfold f_X6_announces
          rw [if_pos z298, t298, f3, f_in, bs, hz1, iteT, f_in, bs, hz2, iteT, f_in, bs, hz3, iteT, f_flowAt, bs, q4, nI_add, if_pos (zok_nI (by omega) (by decide)), nI_clamp (by omega), if_neg (fun h => hst (Or.inl h)), if_pos (zok_nI (by omega) (by decide)), if_neg (fun h => hst (Or.inr h)), f_no]
          exact ⟨_, _, _, _, _, _, _, _, _, _, _, _, _, rfl, rfl, hs0, hh, hc.no⟩
end P7
