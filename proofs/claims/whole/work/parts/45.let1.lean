def such (g : Nat → Int32) (b : Nat) (x y p t : Int32) : Bool := decide (g b = x) && (decide (g (b + 1) = y) && (decide (g (b + 2) = p) && decide (g (b + 3) = t)))
theorem such_t {g : Nat → Int32} {b : Nat} {x y p t : Int32} : such g b x y p t = true ↔ g b = x ∧ g (b + 1) = y ∧ g (b + 2) = p ∧ g (b + 3) = t := by
  unfold such
  simp only [Bool.and_eq_true, decide_eq_true_eq]
theorem such_c {g g' : Nat → Int32} {b b' : Nat} {x y p t : Int32} (h : ∀ c, c < 4 → g (b + c) = g' (b' + c)) : such g b x y p t = such g' b' x y p t := by
  have h0 := h 0 (by omega)
  rw [Nat.add_zero, Nat.add_zero] at h0
  unfold such
  rw [h0, h 1 (by omega), h 2 (by omega), h 3 (by omega)]
/-- a chain of four tests -/
theorem chain {α : Type} {c1 c2 c3 c4 : Prop} [Decidable c1] [Decidable c2] [Decidable c3] [Decidable c4] {a b : α} : (if c1 then (if c2 then (if c3 then (if c4 then a else b) else b) else b) else b) = if (decide c1 && (decide c2 && (decide c3 && decide c4))) = true then a else b := by
  by_cases h1 : c1
  · rw [if_pos h1, decide_eq_true h1, Bool.true_and]
    by_cases h2 : c2
    · rw [if_pos h2, decide_eq_true h2, Bool.true_and]
      by_cases h3 : c3
      · rw [if_pos h3, decide_eq_true h3, Bool.true_and]
        by_cases h4 : c4
        · rw [if_pos h4, decide_eq_true h4, if_pos rfl]
        · rw [if_neg h4, decide_eq_false h4, if_neg (by decide)]
      · rw [if_neg h3, decide_eq_false h3, Bool.false_and, if_neg (by decide)]
    · rw [if_neg h2, decide_eq_false h2, Bool.false_and, if_neg (by decide)]
  · rw [if_neg h1, decide_eq_false h1, Bool.false_and, if_neg (by decide)]
theorem f_isSuch {w : Nat → Int32} {b : Nat} {x y p t : Int32} (h : b + 3 < 401) : f_X6_isSuch w (nI b) x y p t = some (such w b x y p t) := by
  unfold f_X6_isSuch
  rw [q2, q3, nI_1 b, nI_add, nI_add, if_pos (zok_nI (show b < 401 by omega) (by decide)), if_pos (zok_nI (show b + 1 < 401 by omega) (by decide)), if_pos (zok_nI (show b + 2 < 401 by omega) (by decide)), if_pos (zok_nI (show b + 3 < 401 by omega) (by decide)), nI_clamp (show b < 2 ^ 31 by omega), nI_clamp (show b + 1 < 2 ^ 31 by omega), nI_clamp (show b + 2 < 2 ^ 31 by omega), nI_clamp (show b + 3 < 2 ^ 31 by omega), chain]
  show (if such w b x y p t = true then some true else some false) = _
  cases such w b x y p t <;> rfl
theorem f_rowF {fu n : Nat} {ff : Nat → Int32} {x y p t : Int32} (hf : 2000 < fu) (hn : n ≤ 8) : f_X3_rowOfCase fu 7 (nI n) 56 ff x y p t = some (oI (fst1 (fun i => such ff (7 * i) x y p t) n 0)) := by
  unfold f_X3_rowOfCase
  have st : ∀ m i, i < n → f_X3_rowOfCase_L3 fu (fun (x1 : Int32) => some ((-1))) x y p t 7 (nI n) 56 ff (m + 1) (nI i) = if such ff (7 * i) x y p t = true then some (nI i) else f_X3_rowOfCase_L3 fu (fun (x1 : Int32) => some ((-1))) x y p t 7 (nI n) 56 ff m (nI (i + 1)) := by
    intro m i hi
    have g0 : f_X3_get 7 (nI n) 56 ff (nI i) 0 = some (ff (7 * i)) := (get7 (c := 0) hi (by omega) hn).trans (congrArg some (congrArg ff (by omega)))
    have g1 : f_X3_get 7 (nI n) 56 ff (nI i) 1 = some (ff (7 * i + 1)) := (get7 (c := 1) hi (by omega) hn).trans (congrArg some (congrArg ff (by omega)))
    have g2 : f_X3_get 7 (nI n) 56 ff (nI i) 2 = some (ff (7 * i + 2)) := (get7 (c := 2) hi (by omega) hn).trans (congrArg some (congrArg ff (by omega)))
    have g3 : f_X3_get 7 (nI n) 56 ff (nI i) 3 = some (ff (7 * i + 3)) := (get7 (c := 3) hi (by omega) hn).trans (congrArg some (congrArg ff (by omega)))
    rw [f_X3_rowOfCase_L3, if_neg (nI_ge hi (by omega)), g0, bs, g1, bs, g2, bs, g3, bs, nI_1 i, chain]
    rfl
  refine (loopF (L := f_X3_rowOfCase_L3 fu (fun (x1 : Int32) => some ((-1))) x y p t 7 (nI n) 56 ff) (fun i => such ff (7 * i) x y p t) (N := n) (fun r => some (nI r)) (Z := some (-1)) ?_ ?_ ?_ n 0 fu (by omega) (by omega)).trans mo
  · intro m i hi hp
    rw [st m i hi, if_neg (by rw [hp]; decide)]
  · intro m i hi hp
    rw [st m i hi, if_pos hp]
  · intro m
    rw [f_X3_rowOfCase_L3, if_pos (nI_le (Nat.le_refl _) (by omega))]
theorem f_rowA {fu n : Nat} {ff : Nat → Int32} {x y p t : Int32} (hf : 2000 < fu) (hn : n ≤ 6) : f_X3_rowOfCase fu 5 (nI n) 30 ff x y p t = some (oI (fst1 (fun i => such ff (5 * i) x y p t) n 0)) := by
  unfold f_X3_rowOfCase
  have st : ∀ m i, i < n → f_X3_rowOfCase_L3 fu (fun (x1 : Int32) => some ((-1))) x y p t 5 (nI n) 30 ff (m + 1) (nI i) = if such ff (5 * i) x y p t = true then some (nI i) else f_X3_rowOfCase_L3 fu (fun (x1 : Int32) => some ((-1))) x y p t 5 (nI n) 30 ff m (nI (i + 1)) := by
    intro m i hi
    have g0 : f_X3_get 5 (nI n) 30 ff (nI i) 0 = some (ff (5 * i)) := (get5 (c := 0) hi (by omega) hn).trans (congrArg some (congrArg ff (by omega)))
    have g1 : f_X3_get 5 (nI n) 30 ff (nI i) 1 = some (ff (5 * i + 1)) := (get5 (c := 1) hi (by omega) hn).trans (congrArg some (congrArg ff (by omega)))
    have g2 : f_X3_get 5 (nI n) 30 ff (nI i) 2 = some (ff (5 * i + 2)) := (get5 (c := 2) hi (by omega) hn).trans (congrArg some (congrArg ff (by omega)))
    have g3 : f_X3_get 5 (nI n) 30 ff (nI i) 3 = some (ff (5 * i + 3)) := (get5 (c := 3) hi (by omega) hn).trans (congrArg some (congrArg ff (by omega)))
    rw [f_X3_rowOfCase_L3, if_neg (nI_ge hi (by omega)), g0, bs, g1, bs, g2, bs, g3, bs, nI_1 i, chain]
    rfl
  refine (loopF (L := f_X3_rowOfCase_L3 fu (fun (x1 : Int32) => some ((-1))) x y p t 5 (nI n) 30 ff) (fun i => such ff (5 * i) x y p t) (N := n) (fun r => some (nI r)) (Z := some (-1)) ?_ ?_ ?_ n 0 fu (by omega) (by omega)).trans mo
  · intro m i hi hp
    rw [st m i hi, if_neg (by rw [hp]; decide)]
  · intro m i hi hp
    rw [st m i hi, if_pos hp]
  · intro m
    rw [f_X3_rowOfCase_L3, if_pos (nI_le (Nat.le_refl _) (by omega))]
theorem f_flowOf {fu n : Nat} {w : Nat → Int32} {x y p t : Int32} (hf : 2000 < fu) (hn : n ≤ 8) (h298 : w 298 = nI n) : f_X6_flowOf fu w x y p t = some (oI (fst1 (fun i => such w (299 + 7 * i) x y p t || such w (299 + 7 * i) y x p t) n 0)) := by
  unfold f_X6_flowOf
  refine loopU0 (L := fun m i s => f_X6_flowOf_L6 fu (fun (x1 : Int32) (x2 : Int32) => some x1) x y p t w m s i) (fun i => oI (fst1 (fun i => such w (299 + 7 * i) x y p t || such w (299 + 7 * i) y x p t) i 0)) (N := n) 0 rfl (by omega) (by omega) ?_ ?_
  · intro m i _ hi
    show f_X6_flowOf_L6 fu _ x y p t w (m + 1) _ (nI i) = f_X6_flowOf_L6 fu _ x y p t w m _ (nI (i + 1))
    rw [f_X6_flowOf_L6, if_pos z298, t298, h298, if_neg (nI_ge hi (by omega)), f_flowAt, bs, f_isSuch (by omega), bs, bs, f_isSuch (by omega), bs, nI_1 i, fst1_succ, Nat.zero_add]
    cases hq : fst1 (fun i => such w (299 + 7 * i) x y p t || such w (299 + 7 * i) y x p t) i 0 with
    | none =>
      rw [show oI none = -1 from rfl, if_neg (show ¬ (0 : Int32) ≤ -1 by decide)]
      cases such w (299 + 7 * i) x y p t with
      | true => rw [iteT]; rfl
      | false =>
        rw [iteF]
        cases such w (299 + 7 * i) y x p t with
        | true => rw [iteT]; rfl
        | false => rw [iteF]; rfl
    | some j =>
      have hj := (fst1_some hq).2.1
      rw [show oI (some j) = nI j from rfl, if_pos (nI_pos' (show j < 2 ^ 31 by omega))]
      cases such w (299 + 7 * i) x y p t with
      | true => rw [iteT]
      | false =>
        rw [iteF]
        cases such w (299 + 7 * i) y x p t with
        | true => rw [iteT]
        | false => rw [iteF]
  · intro m
    show f_X6_flowOf_L6 fu _ x y p t w (m + 1) _ (nI n) = _
    rw [f_X6_flowOf_L6, if_pos z298, t298, h298, if_pos (nI_le (Nat.le_refl _) (by omega))]
theorem f_saidOf {fu n : Nat} {w : Nat → Int32} {x y p t : Int32} (hf : 2000 < fu) (hn : n ≤ 6) (h355 : w 355 = nI n) : f_X6_saidOf fu w x y p t = some (oI (fst1 (fun i => such w (356 + 5 * i) x y p t) n 0)) := by
  unfold f_X6_saidOf
  rw [if_pos z355, t355, h355]
  refine loopD0 (L := fun m i s => f_X6_saidOf_L15 fu (fun (x1 : Int32) (x2 : Int32) => some x1) x y p t w m s i) (fun i => oI (fst1 (fun i => such w (356 + 5 * i) x y p t) (n - i) i)) (N := 0) (M := n) ?_ (by omega) (by omega) ?_ ?_
  · show -1 = oI (fst1 _ (n - n) n)
    rw [Nat.sub_self]
    rfl
  · intro m i _ hi
    show f_X6_saidOf_L15 fu _ x y p t w (m + 1) _ (nI i) = f_X6_saidOf_L15 fu _ x y p t w m _ (nI i - 1)
    rw [f_X6_saidOf_L15, if_neg (nI_pos (by omega)), q356, q5, pk_mul, nI_add, f_isSuch (by omega), bs, m1, show n - i = (n - (i + 1)) + 1 by omega]
    show _ = f_X6_saidOf_L15 fu _ x y p t w m (oI (if such w (356 + 5 * i) x y p t = true then some i else fst1 (fun i => such w (356 + 5 * i) x y p t) (n - (i + 1)) (i + 1))) (nI i - 1)
    cases such w (356 + 5 * i) x y p t with
    | true => rw [iteT, if_pos rfl]; rfl
    | false => rw [iteF, if_neg (by decide)]
  · intro m
    show f_X6_saidOf_L15 fu _ x y p t w (m + 1) _ (nI 0 - 1) = _
    rw [f_X6_saidOf_L15, if_pos neg1]
    rfl
theorem FC.row {ff w ff' w' : Nat → Int32} {n i : Nat} (h : FC ff w n) (hi : i < n) (a1 : ∀ k, k < 7 * n → k ≠ 7 * i + 4 → k ≠ 7 * i + 5 → k ≠ 7 * i + 6 → ff' k = ff k) (a2 : ∀ k, 298 ≤ k → k < 355 → k ≠ 299 + 7 * i + 4 → k ≠ 299 + 7 * i + 5 → k ≠ 299 + 7 * i + 6 → w' k = w k) (h4 : ff' (7 * i + 4) = w' (299 + 7 * i + 4)) (h5 : ff' (7 * i + 5) = w' (299 + 7 * i + 5)) (h6 : ff' (7 * i + 6) = w' (299 + 7 * i + 6)) (st : ∃ v, 1 ≤ v ∧ v ≤ 7 ∧ w' (299 + 7 * i + 4) = nI v) (en : w' (299 + 7 * i + 6) = -1 ∨ w' (299 + 7 * i + 6) = 0 ∨ w' (299 + 7 * i + 6) = 1) : FC ff' w' n := by
  obtain ⟨g1, g2, g3, g4, g5⟩ := h
  refine ⟨g1, by rw [a2 298 (by omega) (by omega) (by omega) (by omega) (by omega)]; exact g2, fun k hk => ?_, fun j hj => ?_, fun j l hjl hl => flowNe.w (g5 j l hjl hl) (fun c hc => a2 _ (by omega) (by omega) (by omega) (by omega) (by omega)) (fun c hc => a2 _ (by omega) (by omega) (by omega) (by omega) (by omega))⟩
  · by_cases k4 : k = 7 * i + 4
    · rw [k4, h4]; exact congrArg w' (by omega)
    · by_cases k5 : k = 7 * i + 5
      · rw [k5, h5]; exact congrArg w' (by omega)
      · by_cases k6 : k = 7 * i + 6
        · rw [k6, h6]; exact congrArg w' (by omega)
        · rw [a1 k hk k4 k5 k6, a2 (299 + k) (by omega) (by omega) (by omega) (by omega) (by omega)]
          exact g3 k hk
  · by_cases hji : j = i
    · subst hji
      obtain ⟨o1, o2, o3, o4, o5, o6⟩ := g4 j hj
      refine ⟨?_, ?_, ?_, ?_, st, en⟩
      · rw [a2 (299 + 7 * j) (by omega) (by omega) (by omega) (by omega) (by omega)]; exact o1
      · rw [a2 (299 + 7 * j + 1) (by omega) (by omega) (by omega) (by omega) (by omega)]; exact o2
      · rw [a2 (299 + 7 * j + 2) (by omega) (by omega) (by omega) (by omega) (by omega)]; exact o3
      · rw [a2 (299 + 7 * j + 3) (by omega) (by omega) (by omega) (by omega) (by omega)]; exact o4
    · exact flowOk.w (g4 j hj) (fun c hc => a2 _ (by omega) (by omega) (by omega) (by omega) (by omega))
theorem FC.app {ff w ff' w' : Nat → Int32} {n : Nat} (h : FC ff w n) (hn : n < 8) (a1 : ∀ k, k < 7 * n → ff' k = ff k) (a2 : ∀ k, 299 ≤ k → k < 299 + 7 * n → w' k = w k) (b8 : w' 298 = nI (n + 1)) (b : ∀ c, c < 7 → ff' (7 * n + c) = w' (299 + 7 * n + c)) (ok : flowOk w' n) (ne : ∀ i, i < n → flowNe w' i n) : FC ff' w' (n + 1) := by
  obtain ⟨g1, g2, g3, g4, g5⟩ := h
  refine ⟨by omega, b8, fun k hk => ?_, fun j hj => ?_, fun j l hjl hl => ?_⟩
  · by_cases hk2 : k < 7 * n
    · rw [a1 k hk2, a2 (299 + k) (by omega) (by omega)]; exact g3 k hk2
    · have := b (k - 7 * n) (by omega)
      rw [show 7 * n + (k - 7 * n) = k by omega, show 299 + 7 * n + (k - 7 * n) = 299 + k by omega] at this
      exact this
  · by_cases hjn : j = n
    · rw [hjn]; exact ok
    · exact flowOk.w (g4 j (by omega)) (fun c hc => a2 _ (by omega) (by omega))
  · by_cases hln : l = n
    · rw [hln]; exact ne j (by omega)
    · exact flowNe.w (g5 j l hjl (by omega)) (fun c hc => a2 _ (by omega) (by omega)) (fun c hc => a2 _ (by omega) (by omega))
/-- no flow of this pair, port and sort -/
def NS (w : Nat → Int32) (n : Nat) (x y p t : Int32) : Prop := ∀ i, i < n → such w (299 + 7 * i) x y p t = false ∧ such w (299 + 7 * i) y x p t = false
theorem NS.w {w w' : Nat → Int32} {n : Nat} {x y p t : Int32} (h : NS w n x y p t) (e : ∀ k, 298 ≤ k → k < 355 → w' k = w k) (hn : n ≤ 8) : NS w' n x y p t := fun i hi => by
  rw [such_c (g' := w) (b' := 299 + 7 * i) (fun c hc => e _ (by omega) (by omega)), such_c (g' := w) (b' := 299 + 7 * i) (fun c hc => e _ (by omega) (by omega))]
  exact h i hi
theorem NS.del {w : Nat → Int32} {n r : Nat} {x y p t : Int32} (h : NS w (n + 1) x y p t) (hn : n < 8) (hr : r ≤ n) : NS (shl (299 + 7 * r) (299 + 7 * n) 7 (upd w 298 (nI n))) n x y p t := by
  intro i hi
  have e : ∀ c, c < 4 → shl (299 + 7 * r) (299 + 7 * n) 7 (upd w 298 (nI n)) (299 + 7 * i + c) = w (299 + 7 * (if r ≤ i then i + 1 else i) + c) := by
    intro c hc
    by_cases hri : r ≤ i
    · rw [if_pos hri, shl_in (by omega) (by omega), pk_un (by omega)]
      exact congrArg w (by omega)
    · rw [if_neg hri, shl_out (by omega), pk_un (by omega)]
  rw [such_c e, such_c e]
  refine h _ ?_
  by_cases hri : r ≤ i
  · rw [if_pos hri]; omega
  · rw [if_neg hri]; omega
theorem f_enter {n i t : Nat} {ff pf : Nat → Int32} {tm : Int32} (hi : i < n) (hn : n ≤ 8) (h1 : 1 ≤ t) (h7 : t ≤ 7) : f_X2_enterStage tm (nI n) ff pf (nI i) (nI t) = some (upd (upd ff (i * 7 + 4) (nI t)) (i * 7 + 5) (tm + pf (t - 1))) := by
  obtain ⟨t, rfl⟩ : ∃ m, t = m + 1 := ⟨t - 1, by omega⟩
  unfold f_X2_enterStage
  have hz : zin (nI (t + 1)) 1 7 = true := by
    unfold zin
    refine decide_eq_true ⟨?_, ?_⟩
    · rw [q1, nI_ltI (by omega) (by decide)]; omega
    · rw [q7, nI_ltI (by decide) (by omega)]; omega
  rw [f_within, bs, hz, iteT, show f_X3_put 7 (nI n) 56 ff (nI i) 4 (nI (t + 1)) = _ from put7 (c := 4) hi (by omega) hn, bs, nI_pred, if_pos (zok_nI (by omega) (by decide)), nI_clamp (by omega), show t + 1 - 1 = t by omega, show f_X3_put 7 (nI n) 56 (upd ff (i * 7 + 4) (nI (t + 1))) (nI i) 5 (tm + pf t) = _ from put7 (c := 5) hi (by omega) hn, bs]
theorem f_becomes {i t : Nat} {w : Nat → Int32} (hi : i < 8) (h1 : 1 ≤ t) (h7 : t ≤ 7) : f_X6_becomes w (nI (299 + 7 * i)) (nI t) = some (upd (upd w (299 + 7 * i + 4) (nI t)) (299 + 7 * i + 5) (w 394 + w (386 + t))) := by
  unfold f_X6_becomes
  rw [q4, q5, q386, nI_add, nI_add, nI_add, if_pos (zok_nI (by omega) (by decide)), if_pos z394, if_pos (zok_nI (by omega) (by decide)), if_pos (zok_nI (by omega) (by decide)), nI_clamp (show 299 + 7 * i + 4 < 2 ^ 31 by omega), nI_clamp (show 299 + 7 * i + 5 < 2 ^ 31 by omega), nI_clamp (show 386 + t < 2 ^ 31 by omega), t394, pk_un (show 394 ≠ 299 + 7 * i + 4 by omega), pk_un (show 386 + t ≠ 299 + 7 * i + 4 by omega)]
theorem nextS (a b c d : Int32) : f_X5_nextStage a b c d = f_X6_stageBy a b c d := rfl
theorem stageR (a b c d : Int32) : f_X6_stageBy a b c d = some (-1) ∨ ∃ t, 1 ≤ t ∧ t ≤ 7 ∧ f_X6_stageBy a b c d = some (nI t) := by
  unfold f_X6_stageBy
  repeat' split
  all_goals first
    | exact Or.inl rfl
    | exact Or.inr ⟨2, by decide, by decide, rfl⟩
    | exact Or.inr ⟨3, by decide, by decide, rfl⟩
    | exact Or.inr ⟨4, by decide, by decide, rfl⟩
    | exact Or.inr ⟨5, by decide, by decide, rfl⟩
    | exact Or.inr ⟨6, by decide, by decide, rfl⟩
    | exact Or.inr ⟨7, by decide, by decide, rfl⟩
theorem f_cont {fu nf i side g : Nat} {tm : Int32} {ff pf w : Nat → Int32} (hf : 2000 < fu) (hF : FC ff w nf) (hi : i < nf) (hs : side ≤ 1) (hg : g ≤ 4) (htm : tm = w 394) (hpf : ∀ k, k < 7 → pf k = w (387 + k)) : ∃ v nf' ff' w', f_X5_continueFlow tm (nI nf) ff pf (nI i) (nI side) (nI g) = some (nI v, nI nf', ff') ∧ f_X6_goesOn fu w (nI i) (nI side) (nI g) = some (nI v, w') ∧ v ≤ 4 ∧ FC ff' w' nf' ∧ ∀ k, k < 298 ∨ 355 ≤ k → w' k = w k := by
  have hF0 := hF
  obtain ⟨g1, g2, g3, g4, g5⟩ := hF
  unfold f_X5_continueFlow f_X6_goesOn
  rw [f_flowAt, bs]
  by_cases h4 : g = 4
  · obtain ⟨nf, rfl⟩ : ∃ m, nf = m + 1 := ⟨nf - 1, by omega⟩
    subst h4
    rw [if_pos (show nI 4 = 4 from rfl), if_pos (show nI 4 = 4 from rfl), rem7 hi g1, bs, f_flowGoes g2 (by omega) (by omega) hf, bs]
    refine ⟨1, nf, _, _, rfl, rfl, by omega, FC.del hF0 (by omega), fun k hk => ?_⟩
    rw [shl_out (by omega), pk_un (by omega)]
  · have hn4 : ¬ nI g = 4 := by rw [show (4 : Int32) = nI 4 from rfl, nI_eq (by omega) (by decide)]; exact h4
    have c4 : f_X3_get 7 (nI nf) 56 ff (nI i) 4 = some (w (299 + 7 * i + 4)) := (get7 (c := 4) hi (by omega) g1).trans (congrArg some ((g3 _ (by omega)).trans (congrArg w (by omega))))
    have c6 : f_X3_get 7 (nI nf) 56 ff (nI i) 6 = some (w (299 + 7 * i + 6)) := (get7 (c := 6) hi (by omega) g1).trans (congrArg some ((g3 _ (by omega)).trans (congrArg w (by omega))))
    have m4 : nI (299 + 7 * i) + 4 = nI (299 + 7 * i + 4) := nI_add _ 4
    have m6 : nI (299 + 7 * i) + 6 = nI (299 + 7 * i + 6) := nI_add _ 6
    have k4 : zok (nI (299 + 7 * i + 4)) 401 = true := zok_nI (by omega) (by decide)
    have k6 : zok (nI (299 + 7 * i + 6)) 401 = true := zok_nI (by omega) (by decide)
    rw [if_neg hn4, if_neg hn4, c4, bs, c6, bs, m4, m6]
    simp only [if_pos k4, if_pos k6, nI_clamp (show 299 + 7 * i + 4 < 2 ^ 31 by omega), nI_clamp (show 299 + 7 * i + 6 < 2 ^ 31 by omega)]
    rw [nextS]
    rcases stageR (w (299 + 7 * i + 4)) (nI side) (w (299 + 7 * i + 6)) (nI g) with hst | ⟨t, t1, t7, hst⟩
    · rw [hst, bs, bs, if_pos rfl, if_pos rfl]
      exact ⟨3, nf, ff, w, rfl, rfl, by omega, hF0, fun _ _ => rfl⟩
    · have hn : ¬ nI t = -1 := oI_ne (by omega)
      have hdue : tm + pf (t - 1) = w 394 + w (386 + t) := by
        rw [htm, hpf _ (by omega)]
        exact congrArg (fun x => w 394 + x) (congrArg w (by omega))
      have hnoE : ∃ w', f_X6_becomes (upd w (299 + 7 * i + 6) (w (299 + 7 * i + 6))) (nI (299 + 7 * i)) (nI t) = some w' ∧ FC (upd (upd ff (i * 7 + 4) (nI t)) (i * 7 + 5) (tm + pf (t - 1))) w' nf ∧ ∀ k, k < 298 ∨ 355 ≤ k → w' k = w k := by
        rw [f_becomes (by omega) t1 t7, pk_un (show 394 ≠ 299 + 7 * i + 6 by omega), pk_un (show 386 + t ≠ 299 + 7 * i + 6 by omega), ← hdue]
        refine ⟨_, rfl, FC.row hF0 hi (fun k hk k4 k5 k6 => ?_) (fun k h1 h2 k4 k5 k6 => ?_) ?_ ?_ ?_ ?_ ?_, fun k hk => ?_⟩
        · rw [pk_un (by omega), pk_un (by omega)]
        · rw [pk_un k5, pk_un k4, pk_un k6]
        · rw [pk_un (show 7 * i + 4 ≠ i * 7 + 5 by omega), show 7 * i + 4 = i * 7 + 4 by omega, pk_us, pk_un (by omega), pk_us]
        · rw [show 7 * i + 5 = i * 7 + 5 by omega, pk_us, pk_us]
        · rw [pk_un (by omega), pk_un (by omega), pk_un (by omega), pk_un (by omega), pk_us, g3 _ (by omega)]
          exact congrArg w (by omega)
        · exact ⟨t, t1, t7, by rw [pk_un (by omega), pk_us]⟩
        · rw [pk_un (by omega), pk_un (by omega), pk_us]
          exact (g4 i hi).2.2.2.2.2
        · rw [pk_un (by omega), pk_un (by omega), pk_un (by omega)]
      rw [hst, bs, bs, if_neg hn, if_neg hn]
      by_cases h3 : w (299 + 7 * i + 4) = 3
      · rw [if_pos h3, if_pos h3]
        by_cases ht4 : nI t = 4
        · rw [if_pos ht4, if_pos ht4, show f_X3_put 7 (nI nf) 56 ff (nI i) 6 (nI side) = _ from put7 (c := 6) hi (by omega) g1, bs, f_enter hi g1 t1 t7, bs, f_becomes (by omega) t1 t7, bs, pk_un (show 394 ≠ 299 + 7 * i + 6 by omega), pk_un (show 386 + t ≠ 299 + 7 * i + 6 by omega), ← hdue]
          refine ⟨1, nf, _, _, rfl, rfl, by omega, FC.row hF0 hi (fun k hk k4 k5 k6 => ?_) (fun k h1 h2 k4 k5 k6 => ?_) ?_ ?_ ?_ ?_ ?_, fun k hk => ?_⟩
          · rw [pk_un (by omega), pk_un (by omega), pk_un (by omega)]
          · rw [pk_un k5, pk_un k4, pk_un k6]
          · rw [pk_un (show 7 * i + 4 ≠ i * 7 + 5 by omega), show 7 * i + 4 = i * 7 + 4 by omega, pk_us, pk_un (by omega), pk_us]
          · rw [show 7 * i + 5 = i * 7 + 5 by omega, pk_us, pk_us]
          · rw [pk_un (by omega), pk_un (by omega), show 7 * i + 6 = i * 7 + 6 by omega, pk_us, pk_un (by omega), pk_un (by omega), pk_us]
          · exact ⟨t, t1, t7, by rw [pk_un (by omega), pk_us]⟩
          · rw [pk_un (by omega), pk_un (by omega), pk_us]
            have h2 : side = 0 ∨ side = 1 := by omega
            rcases h2 with rfl | rfl
            · exact Or.inr (Or.inl rfl)
            · exact Or.inr (Or.inr rfl)
          · rw [pk_un (by omega), pk_un (by omega), pk_un (by omega)]
        · obtain ⟨w', e1, e2, e3⟩ := hnoE
          rw [if_neg ht4, if_neg ht4, f_enter hi g1 t1 t7, bs, e1, bs]
          exact ⟨1, nf, _, _, rfl, rfl, by omega, e2, e3⟩
      · obtain ⟨w', e1, e2, e3⟩ := hnoE
        rw [if_neg h3, if_neg h3, f_enter hi g1 t1 t7, bs, e1, bs]
        exact ⟨1, nf, _, _, rfl, rfl, by omega, e2, e3⟩
theorem Lroom {fu : Nat} {K1 : Int32 → Int32 → Option (Bool × Int32 × (Nat → Int32))} {K2 : Int32 → Int32 → Option (Bool × (Nat → Int32))} {ff w : Nat → Int32} (h3 : ∀ k, k < 7 * 8 → ff k = w (299 + k)) : ∀ (m i n1 n2 : Nat) (o : Option Nat), i + m = 8 → m < n1 → m < n2 → (∀ j, o = some j → j < 8) → ∃ o', (∀ j, o' = some j → j < 8) ∧ f_X5_makeRoom_L4 fu K1 (nI 8) ff n1 (oI o) (nI i) = K1 (oI o') (nI 8) ∧ f_X6_hasRoom_L19 fu K2 w n2 (oI o) (nI i) = K2 (oI o') (nI 8) := by
  intro m
  induction m with
  | zero =>
    intro i n1 n2 o hi h1 h2 ho
    obtain ⟨n1, rfl⟩ : ∃ m, n1 = m + 1 := ⟨n1 - 1, by omega⟩
    obtain ⟨n2, rfl⟩ : ∃ m, n2 = m + 1 := ⟨n2 - 1, by omega⟩
    obtain rfl : i = 8 := by omega
    rw [f_X5_makeRoom_L4, f_X6_hasRoom_L19, f_X3_size, bs, if_pos (nI_le (Nat.le_refl _) (by decide)), if_pos (by decide)]
    exact ⟨o, ho, rfl, rfl⟩
  | succ m ih =>
    intro i n1 n2 o hi h1 h2 ho
    obtain ⟨n1, rfl⟩ : ∃ m, n1 = m + 1 := ⟨n1 - 1, by omega⟩
    obtain ⟨n2, rfl⟩ : ∃ m, n2 = m + 1 := ⟨n2 - 1, by omega⟩
    have hi : i < 8 := by omega
    have c4 : f_X3_get 7 (nI 8) 56 ff (nI i) 4 = some (w (299 + 7 * i + 4)) := (get7 (c := 4) hi (by omega) (by omega)).trans (congrArg some ((h3 _ (by omega)).trans (congrArg w (by omega))))
    have c5 : ∀ j, j < 8 → f_X3_get 7 (nI 8) 56 ff (nI j) 5 = some (w (299 + 7 * j + 5)) := fun j hj => (get7 (c := 5) hj (by omega) (by omega)).trans (congrArg some ((h3 _ (by omega)).trans (congrArg w (by omega))))
    have m4 : nI (299 + 7 * i) + 4 = nI (299 + 7 * i + 4) := nI_add _ 4
    have k4 : zok (nI (299 + 7 * i + 4)) 401 = true := zok_nI (by omega) (by decide)
    rw [f_X5_makeRoom_L4, f_X6_hasRoom_L19, f_X3_size, bs, if_neg (nI_ge hi (by decide)), if_neg (show ¬ (8 : Int32) ≤ nI i by rw [q8]; exact nI_ge hi (by decide)), c4, bs, f_flowAt, bs, m4, if_pos k4, if_pos k4, nI_clamp (show 299 + 7 * i + 4 < 2 ^ 31 by omega), nI_1 i]
    by_cases s1 : w (299 + 7 * i + 4) = 1
    · rw [if_pos s1, if_pos s1]
      cases o with
        | none =>
          rw [show oI none = -1 from rfl, if_pos rfl, if_pos (show (-1 : Int32) < 0 by decide)]
          exact ih (i + 1) n1 n2 (some i) (by omega) (by omega) (by omega) (fun j hj => by cases hj; exact hi)
        | some j =>
          have hj : j < 8 := ho j rfl
          rw [show oI (some j) = nI j from rfl, if_neg (oI_ne (show j < 2 ^ 31 by omega)), if_neg (nI_pos (show j < 2 ^ 31 by omega)), c5 i hi, bs, c5 j hj, bs, f_flowAt, bs, q5, nI_add, nI_add, if_pos (zok_nI (by omega) (by decide)), if_pos (zok_nI (by omega) (by decide)), nI_clamp (show 299 + 7 * i + 5 < 2 ^ 31 by omega), nI_clamp (show 299 + 7 * j + 5 < 2 ^ 31 by omega)]
          by_cases hle : w (299 + 7 * j + 5) ≤ w (299 + 7 * i + 5)
          · rw [if_pos hle, if_pos hle]
            exact ih (i + 1) n1 n2 (some j) (by omega) (by omega) (by omega) ho
          · rw [if_neg hle, if_neg hle]
            exact ih (i + 1) n1 n2 (some i) (by omega) (by omega) (by omega) (fun j hj => by cases hj; exact hi)
    · rw [if_neg s1, if_neg s1]
      by_cases s6 : w (299 + 7 * i + 4) = 6
      · rw [if_pos s6, if_pos s6]
        cases o with
          | none =>
            rw [show oI none = -1 from rfl, if_pos rfl, if_pos (show (-1 : Int32) < 0 by decide)]
            exact ih (i + 1) n1 n2 (some i) (by omega) (by omega) (by omega) (fun j hj => by cases hj; exact hi)
          | some j =>
            have hj : j < 8 := ho j rfl
            rw [show oI (some j) = nI j from rfl, if_neg (oI_ne (show j < 2 ^ 31 by omega)), if_neg (nI_pos (show j < 2 ^ 31 by omega)), c5 i hi, bs, c5 j hj, bs, f_flowAt, bs, q5, nI_add, nI_add, if_pos (zok_nI (by omega) (by decide)), if_pos (zok_nI (by omega) (by decide)), nI_clamp (show 299 + 7 * i + 5 < 2 ^ 31 by omega), nI_clamp (show 299 + 7 * j + 5 < 2 ^ 31 by omega)]
            by_cases hle : w (299 + 7 * j + 5) ≤ w (299 + 7 * i + 5)
            · rw [if_pos hle, if_pos hle]
              exact ih (i + 1) n1 n2 (some j) (by omega) (by omega) (by omega) ho
            · rw [if_neg hle, if_neg hle]
              exact ih (i + 1) n1 n2 (some i) (by omega) (by omega) (by omega) (fun j hj => by cases hj; exact hi)
      · rw [if_neg s6, if_neg s6]
        exact ih (i + 1) n1 n2 o (by omega) (by omega) (by omega) ho
theorem f_room {fu : Nat} {ff w : Nat → Int32} {x y p t : Int32} (hf : 2000 < fu) (hF : FC ff w 8) (hN : NS w 8 x y p t) : ∃ b nf' ff' w', f_X5_makeRoom fu (nI 8) ff = some (b, nI nf', ff') ∧ f_X6_hasRoom fu w = some (b, w') ∧ FC ff' w' nf' ∧ (b = true → nf' = 7) ∧ NS w' nf' x y p t ∧ ∀ k, k < 298 ∨ 355 ≤ k → w' k = w k := by
  have hF0 := hF
  obtain ⟨g1, g2, g3, g4, g5⟩ := hF
  unfold f_X5_makeRoom f_X6_hasRoom
  obtain ⟨o', ho, e1, e2⟩ := Lroom (fu := fu) (K1 := fun (x1 : Int32) (x2 : Int32) => if x1 = (-1) then (some (false, nI 8, ff)) else ((f_X3_remove 7 (nI 8) 56 ff x1).bind fun r7 => some (true, r7.1, r7.2))) (K2 := fun (x1 : Int32) (x2 : Int32) => if x1 < 0 then (if x1 < 0 then (some (false, w)) else (some (true, w))) else ((f_X6_flowGoes fu w x1).bind fun r4 => if x1 < 0 then (some (false, r4)) else (some (true, r4)))) (ff := ff) (w := w) g3 8 0 fu fu none (by omega) (by omega) (by omega) (fun j hj => by cases hj)
  rw [if_pos z298, t298, g2, if_pos (show (8 : Int32) ≤ nI 8 by decide), show f_X5_makeRoom_L4 fu _ (nI 8) ff fu (-1) 0 = _ from e1, show f_X6_hasRoom_L19 fu _ w fu (-1) 0 = _ from e2]
  cases o' with
  | none => exact ⟨false, 8, ff, w, rfl, rfl, hF0, fun h => absurd h (by decide), hN, fun _ _ => rfl⟩
  | some j =>
    have hj := ho j rfl
    rw [show oI (some j) = nI j from rfl, if_neg (oI_ne (show j < 2 ^ 31 by omega)), if_neg (nI_pos (show j < 2 ^ 31 by omega)), rem7 hj (by omega), bs, f_flowGoes g2 (by omega) (by omega) hf, bs, if_neg (nI_pos (show j < 2 ^ 31 by omega))]
    refine ⟨true, 7, _, _, rfl, rfl, FC.del hF0 (by omega), fun _ => rfl, NS.del hN (by omega) (by omega), fun k hk => ?_⟩
    rw [shl_out (by omega), pk_un (by omega)]
