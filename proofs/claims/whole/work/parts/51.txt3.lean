/-- which parts were given -/
def GV (gv td : Int32) (c : Nat) : Prop := (∀ j, j < 5 → tb gv j = tb td (j + 3)) ∧ tb gv 5 = (tb td 8 || tb td 9) ∧ (∀ j, 10 ≤ j → j < 32 → tb td j = false) ∧ cnt (tb gv) 6 = c
theorem GV_0 : GV 0 0 0 := ⟨fun j _ => by rw [tb_0, tb_0], by rw [tb_0, tb_0, tb_0]; rfl, fun j _ _ => tb_0 j, by decide +kernel⟩
theorem cnt_set {f g : Nat → Bool} {p : Nat} : ∀ {n : Nat}, p < n → f p = false → (∀ j, j < n → g j = (f j || decide (j = p))) → cnt g n = cnt f n + 1 := by
  intro n
  induction n with
  | zero => intro h; omega
  | succ n ih =>
    intro hp hf hg
    unfold cnt
    by_cases hpn : p = n
    · subst hpn
      rw [hg p (by omega), hf, decide_eq_true rfl, cnt_congr (q := f) (fun k hk => by rw [hg k (by omega), decide_eq_false (by omega), Bool.or_false])]
      rfl
    · rw [ih (by omega) hf (fun j hj => hg j (by omega)), hg n (by omega), decide_eq_false (by omega), Bool.or_false]
      omega
theorem GV.step {gv td : Int32} {c w : Nat} (h : GV gv td c) (h3 : 3 ≤ w) (h9 : w ≤ 9) (hno : tb gv (min w 8 - 3) = false) : GV (gv ||| (1 <<< (nI (min w 8 - 3) &&& 31))) (td ||| (1 <<< (nI w &&& 31))) (c + 1) := by
  obtain ⟨g1, g2, g3, g4⟩ := h
  refine ⟨fun j hj => ?_, ?_, fun j h1 h2 => ?_, ?_⟩
  · rw [tb_or, tb_or, tb_one _ j (by omega) (by omega), tb_one w (j + 3) (by omega) (by omega), g1 j hj]
    by_cases hw : w ≤ 7
    · rw [show decide (j = min w 8 - 3) = decide (j + 3 = w) from decide_eq_decide.mpr (by omega)]
    · rw [decide_eq_false (show ¬ j = min w 8 - 3 by omega), decide_eq_false (show ¬ j + 3 = w by omega)]
  · rw [tb_or, tb_or, tb_or, tb_one _ 5 (by omega) (by omega), tb_one w 8 (by omega) (by omega), tb_one w 9 (by omega) (by omega), g2]
    have h7 : w ≤ 7 ∨ w = 8 ∨ w = 9 := by omega
    rcases h7 with h7 | h7 | h7
    · rw [decide_eq_false (show ¬ 5 = min w 8 - 3 by omega), decide_eq_false (show ¬ 8 = w by omega), decide_eq_false (show ¬ 9 = w by omega), Bool.or_false, Bool.or_false, Bool.or_false]
    · rw [decide_eq_true (show 5 = min w 8 - 3 by omega), decide_eq_true (show 8 = w by omega), Bool.or_true, Bool.or_true, Bool.true_or]
    · rw [decide_eq_true (show 5 = min w 8 - 3 by omega), decide_eq_true (show 9 = w by omega), Bool.or_true, Bool.or_true, Bool.or_true]
  · rw [tb_or, tb_one w j (by omega) h2, g3 j h1 h2, decide_eq_false (by omega)]
    rfl
  · rw [cnt_set (f := tb gv) (p := min w 8 - 3) (by omega) hno (fun j hj => by rw [tb_or, tb_one _ j (by omega) (by omega)]), g4]
theorem td8 {gv td : Int32} {c : Nat} (h : GV gv td c) : (td >>> (8 &&& 31)) = 0 ↔ tb gv 5 = false := by
  obtain ⟨g1, g2, g3, g4⟩ := h
  have hb : ∀ k, k < 32 → tb (td >>> (8 &&& 31)) k = if 8 + k < 32 then tb td (8 + k) else tb td 31 := by
    intro k hk
    unfold tb
    rw [show (8 : Int32) = nI 8 from rfl, Int32.toBitVec_shiftRight, BitVec.sshiftRight_eq', sm31 8 (by decide), BitVec.getLsbD_sshiftRight, decide_eq_false (by omega), BitVec.msb_eq_getLsbD_last]
    rfl
  constructor
  · intro h
    have h0 := hb 0 (by decide)
    have h1 := hb 1 (by decide)
    rw [h, tb_0, if_pos (by decide)] at h0 h1
    rw [g2, ← h0, ← h1]
    rfl
  · intro h
    rw [g2] at h
    have h8 : tb td 8 = false ∧ tb td 9 = false := by
      revert h
      cases tb td 8 <;> cases tb td 9 <;> decide
    refine tb_ext (fun k hk => ?_)
    rw [hb k hk, tb_0]
    by_cases h1 : 8 + k < 32
    · rw [if_pos h1]
      have h2 : k = 0 ∨ k = 1 ∨ 2 ≤ k := by omega
      rcases h2 with rfl | rfl | h2
      · exact h8.1
      · exact h8.2
      · exact g3 _ (by omega) h1
    · rw [if_neg h1]
      exact g3 31 (by decide) (by decide)
theorem zm3 : ∀ w, w < 10 → 3 ≤ w → zmin (nI w) 8 - 3 = nI (min w 8 - 3) := by
  have h : ∀ w : Fin 10, 3 ≤ w.val → zmin (nI w.val) 8 - 3 = nI (min w.val 8 - 3) := by decide +kernel
  exact fun w hw => h ⟨w, hw⟩
theorem zm2 : ∀ w, w < 3 → zmin (nI w) 8 - 3 < 0 := by
  have h : ∀ w : Fin 3, zmin (nI w.val) 8 - 3 < 0 := by decide +kernel
  exact fun w hw => h ⟨w, hw⟩
theorem f_part {fu n rd k c : Nat} {gv td wr nu : Int32} {tx te tf rr : Nat → Int32} (hf : 2000 < fu) (hT : TX n tx te) (hrd : rd ≤ 11) (hk : k ≤ n) (hse : (decide (k < n) && zin (te k) 59 59) = false) (hG : GV gv td c) (hF : FR tf rr (rd + 1)) :
    (∃ p g' tf' fl a' nu' rr', fl ≤ 130 ∧ a' ≤ n ∧ f_X4_readPart fu (nI n) (nI k) gv (-1) tx (nI (rd + 1)) tf (nI rd) = some (p, g', nI fl, tf') ∧ ∀ n2, f_X6_takesParts_L6 fu (fun (x1 : Int32) (x2 : Int32) (x3 : Int32) (x4 : Int32) (x5 : Nat → Int32) => some (true, x2 + 1, x3, x4, x5)) (nI n) (nI rd) te (n2 + 1) td (nI k) wr nu rr = some (false, nI a', nI fl, nu', rr')) ∨ (∃ q gv' td' tf' wr' nu' rr', k < q ∧ q ≤ n ∧ f_X4_readPart fu (nI n) (nI k) gv (-1) tx (nI (rd + 1)) tf (nI rd) = some (nI q, gv', -1, tf') ∧ (∀ n2, f_X6_takesParts_L6 fu (fun (x1 : Int32) (x2 : Int32) (x3 : Int32) (x4 : Int32) (x5 : Nat → Int32) => some (true, x2 + 1, x3, x4, x5)) (nI n) (nI rd) te (n2 + 1) td (nI k) wr nu rr = f_X6_takesParts_L6 fu (fun (x1 : Int32) (x2 : Int32) (x3 : Int32) (x4 : Int32) (x5 : Nat → Int32) => some (true, x2 + 1, x3, x4, x5)) (nI n) (nI rd) te n2 td' (nI (sB n te q)) wr' nu' rr') ∧ FR tf' rr' (rd + 1) ∧ GV gv' td' (c + 1)) := by
  have hn := hT.1
  obtain ⟨o, e, cdd, e1, e2, w1, w2, w3, w4, w5⟩ := f_words hf hT hk
  have hM0 : ltr n te k = false → ∀ n2, f_X6_takesParts_L6 fu (fun (x1 : Int32) (x2 : Int32) (x3 : Int32) (x4 : Int32) (x5 : Nat → Int32) => some (true, x2 + 1, x3, x4, x5)) (nI n) (nI rd) te (n2 + 1) td (nI k) wr nu rr = some (false, nI k, nI k, nu, rr) := by
    intro hl n2
    rw [f_X6_takesParts_L6, f_isAt hn (by omega), hse, bs, iteF, f_isAt hn (by omega), show (decide (k < n) && zin (te k) 97 122) = ltr n te k from rfl, hl, bs, iteF]
    rfl
  have hM1 : ltr n te k = true → oI o < 3 → ∀ n2, f_X6_takesParts_L6 fu (fun (x1 : Int32) (x2 : Int32) (x3 : Int32) (x4 : Int32) (x5 : Nat → Int32) => some (true, x2 + 1, x3, x4, x5)) (nI n) (nI rd) te (n2 + 1) td (nI k) wr nu rr = some (false, nI e, nI k, nu, rr) := by
    intro hl ho n2
    have h7 : oI o ≤ 7 := by
      rw [Int32.lt_iff_toInt_lt] at ho
      rw [Int32.le_iff_toInt_le]
      have a1 : Int32.toInt 3 = 3 := by decide
      have a2 : Int32.toInt 7 = 7 := by decide
      omega
    rw [f_X6_takesParts_L6, f_isAt hn (by omega), hse, bs, iteF, f_isAt hn (by omega), show (decide (k < n) && zin (te k) 97 122) = ltr n te k from rfl, hl, bs, iteT, w1, bs]
    dsimp only
    rw [w2, bs, if_pos h7, if_pos ho]
    rfl
  unfold f_X4_readPart
  rw [w3, bs]
  dsimp only
  cases o with
  | none =>
    rw [show oI none = -1 from rfl, if_pos (show zmin (-1) 8 - 3 < 0 by decide)]
    cases hl : ltr n te k with
    | false => exact Or.inl ⟨_, _, _, k, k, nu, rr, by omega, hk, rfl, hM0 hl⟩
    | true => exact Or.inl ⟨_, _, _, k, e, nu, rr, by omega, e2, rfl, hM1 hl (by decide)⟩
  | some w =>
    obtain ⟨hw, e1'⟩ := w4 w rfl
    have hl : ltr n te k = true := by
      cases hl : ltr n te k with
      | false => have := w5 hl; cases this
      | true => rfl
    rw [show oI (some w) = nI w from rfl, if_pos (show (some w).isSome = true from rfl)]
    by_cases h3 : w < 3
    · rw [if_pos (zm2 w h3)]
      exact Or.inl ⟨_, _, _, k, e, nu, rr, by omega, e2, rfl, hM1 hl (nI_lt (b := 3) h3 (by decide))⟩
    · rw [zm3 w hw (by omega), if_neg (nI_pos (by omega)), zus1 (by omega)]
      have hM : ∀ n2, f_X6_takesParts_L6 fu (fun (x1 : Int32) (x2 : Int32) (x3 : Int32) (x4 : Int32) (x5 : Nat → Int32) => some (true, x2 + 1, x3, x4, x5)) (nI n) (nI rd) te (n2 + 1) td (nI k) wr nu rr = (if tb gv (min w 8 - 3) = true then some (false, nI e, nI k, nu, rr) else (f_X6_takesPart fu (nI n) (nI rd) (nI e) wr nu te rr (nI w)).bind fun r8 => if (zB r8.1) = 0 then (some (false, r8.2.1, r8.2.2.1, r8.2.2.2.1, r8.2.2.2.2)) else ((f_X6_blanks fu (nI n) r8.2.1 te ).bind fun r9 => f_X6_takesParts_L6 fu (fun (x1 : Int32) (x2 : Int32) (x3 : Int32) (x4 : Int32) (x5 : Nat → Int32) => some (true, x2 + 1, x3, x4, x5)) (nI n) (nI rd) te n2 (td ||| (1 <<< (nI w &&& 31))) r9 r8.2.2.1 r8.2.2.2.1 r8.2.2.2.2)) := by
        intro n2
        have hn3 : ¬ nI w < 3 := nI_nlt (b := 3) (by omega) (by omega)
        rw [f_X6_takesParts_L6, f_isAt hn (by omega), hse, bs, iteF, f_isAt hn (by omega), show (decide (k < n) && zin (te k) 97 122) = ltr n te k from rfl, hl, bs, iteT, w1, bs]
        dsimp only
        rw [w2, bs, show oI (some w) = nI w from rfl, if_neg hn3, if_neg hn3, shr1 (by omega)]
        by_cases h7 : w ≤ 7
        · rw [if_pos (show nI w ≤ 7 from nI_le (b := 7) h7 (by decide)), show tb gv (min w 8 - 3) = tb td w by rw [show min w 8 - 3 = w - 3 by omega, hG.1 _ (by omega), show w - 3 + 3 = w by omega]]
          cases tb td w with
          | true => rw [if_pos (by decide), if_pos rfl]; rfl
          | false => rw [if_neg (by decide), if_neg (by decide)]
        · rw [if_neg (show ¬ nI w ≤ 7 from nI_ge (a := 7) (by omega) (by omega)), show min w 8 - 3 = 5 by omega]
          cases h5 : tb gv 5 with
          | true =>
            rw [if_pos rfl, if_neg (show ¬ (td >>> (8 &&& 31)) = 0 from fun h => by have := (td8 hG).mp h; rw [h5] at this; cases this)]
            cases tb td w with
            | true => rw [if_pos (by decide)]; rfl
            | false => rw [if_neg (by decide)]; rfl
          | false =>
            have hw8 : tb td w = false := by
              have := hG.2.1
              rw [h5] at this
              have h8 : w = 8 ∨ w = 9 := by omega
              rcases h8 with rfl | rfl
              · revert this; cases tb td 8 <;> cases tb td 9 <;> decide
              · revert this; cases tb td 8 <;> cases tb td 9 <;> decide
            rw [hw8, if_neg (by decide), if_pos ((td8 hG).mpr h5), if_neg (by decide)]
      cases hb : tb gv (min w 8 - 3) with
      | true =>
        rw [if_pos (by decide)]
        refine Or.inl ⟨_, _, _, k, e, nu, rr, by omega, e2, rfl, fun n2 => ?_⟩
        rw [hM n2, hb, if_pos rfl]
      | false =>
        simp only [hb, if_neg (show ¬ (false = true) by decide)] at hM
        rw [if_neg (by decide)]
        have hww : w = 3 ∨ w = 4 ∨ w = 5 ∨ w = 6 ∨ w = 7 ∨ w = 8 ∨ w = 9 := by omega
        rcases hww with rfl | rfl | rfl | rfl | rfl | rfl | rfl
        · have hgn : ∀ c, 0 ≤ c → c < 0 + 1 → f_X5_greatestNumber (nI c) = some 6 := by
            intro c h1 h2
            have h3 : c = 0 := by omega
            rcases h3 with rfl <;> decide +kernel
          have hx := f_nums (fu := fu) (rd := rd) (c0 := 0) (cn := 1) (g := 6) (k := e) (wr := wr) (nu := nu) hf hT hrd (by omega) (by omega) hgn e2 hF
          have hmp : f_X6_takesPart fu (nI n) (nI rd) (nI e) wr nu te rr (nI 3) = (f_X6_takesNumbers fu (nI n) (nI rd) (nI e) wr nu te rr 0 1 6).bind fun r5 => some (r5.1, r5.2.1, r5.2.2.1, r5.2.2.2.1, r5.2.2.2.2) := rfl
          rw [hmp] at hM
          rw [if_pos (show nI 3 = 3 from rfl)]
          rcases hx with ⟨q, tf', wr', nu', rr', y1, y2, y3, y4, y5⟩ | ⟨q, fl, tf', a', nu', rr', y1, y0, y2, y3⟩
          · rw [show f_X4_readNumbers fu (nI n) (nI e) (-1) tx (nI (rd + 1)) tf (nI rd) 0 0 = _ from y3, bs]
            refine Or.inr ⟨q, _, _, tf', wr', nu', rr', by omega, y2, rfl, fun n2 => ?_, y5, GV.step hG (w := 3) (by omega) (by omega) hb⟩
            rw [hM n2, show f_X6_takesNumbers fu (nI n) (nI rd) (nI e) wr nu te rr 0 1 6 = _ from y4, bs, bs]
            dsimp only
            rw [iteT, f_blanks hf hn y2, bs]
          · rw [show f_X4_readNumbers fu (nI n) (nI e) (-1) tx (nI (rd + 1)) tf (nI rd) 0 0 = _ from y2, bs]
            refine Or.inl ⟨_, _, _, fl, a', nu', rr', y1, y0, rfl, fun n2 => ?_⟩
            rw [hM n2, show f_X6_takesNumbers fu (nI n) (nI rd) (nI e) wr nu te rr 0 1 6 = _ from y3, bs, bs]
            dsimp only
            rw [iteF]
        · have hgn : ∀ c, 1 ≤ c → c < 1 + 1 → f_X5_greatestNumber (nI c) = some 6 := by
            intro c h1 h2
            have h3 : c = 1 := by omega
            rcases h3 with rfl <;> decide +kernel
          have hx := f_nums (fu := fu) (rd := rd) (c0 := 1) (cn := 1) (g := 6) (k := e) (wr := wr) (nu := nu) hf hT hrd (by omega) (by omega) hgn e2 hF
          have hmp : f_X6_takesPart fu (nI n) (nI rd) (nI e) wr nu te rr (nI 4) = (f_X6_takesNumbers fu (nI n) (nI rd) (nI e) wr nu te rr 1 1 6).bind fun r5 => some (r5.1, r5.2.1, r5.2.2.1, r5.2.2.2.1, r5.2.2.2.2) := rfl
          rw [hmp] at hM
          rw [if_neg (show ¬ nI 4 = 3 by decide), if_pos (show nI 4 = 4 from rfl)]
          rcases hx with ⟨q, tf', wr', nu', rr', y1, y2, y3, y4, y5⟩ | ⟨q, fl, tf', a', nu', rr', y1, y0, y2, y3⟩
          · rw [show f_X4_readNumbers fu (nI n) (nI e) (-1) tx (nI (rd + 1)) tf (nI rd) 1 1 = _ from y3, bs]
            refine Or.inr ⟨q, _, _, tf', wr', nu', rr', by omega, y2, rfl, fun n2 => ?_, y5, GV.step hG (w := 4) (by omega) (by omega) hb⟩
            rw [hM n2, show f_X6_takesNumbers fu (nI n) (nI rd) (nI e) wr nu te rr 1 1 6 = _ from y4, bs, bs]
            dsimp only
            rw [iteT, f_blanks hf hn y2, bs]
          · rw [show f_X4_readNumbers fu (nI n) (nI e) (-1) tx (nI (rd + 1)) tf (nI rd) 1 1 = _ from y2, bs]
            refine Or.inl ⟨_, _, _, fl, a', nu', rr', y1, y0, rfl, fun n2 => ?_⟩
            rw [hM n2, show f_X6_takesNumbers fu (nI n) (nI rd) (nI e) wr nu te rr 1 1 6 = _ from y3, bs, bs]
            dsimp only
            rw [iteF]
        · have hgn : ∀ c, 2 ≤ c → c < 2 + 2 → f_X5_greatestNumber (nI c) = some 31 := by
            intro c h1 h2
            have h3 : c = 2 ∨ c = 3 := by omega
            rcases h3 with rfl | rfl <;> decide +kernel
          have hx := f_nums (fu := fu) (rd := rd) (c0 := 2) (cn := 2) (g := 31) (k := e) (wr := wr) (nu := nu) hf hT hrd (by omega) (by omega) hgn e2 hF
          have hmp : f_X6_takesPart fu (nI n) (nI rd) (nI e) wr nu te rr (nI 5) = (f_X6_takesNumbers fu (nI n) (nI rd) (nI e) wr nu te rr 2 2 31).bind fun r5 => some (r5.1, r5.2.1, r5.2.2.1, r5.2.2.2.1, r5.2.2.2.2) := rfl
          rw [hmp] at hM
          rw [if_neg (show ¬ nI 5 = 3 by decide), if_neg (show ¬ nI 5 = 4 by decide), if_pos (show nI 5 = 5 from rfl)]
          rcases hx with ⟨q, tf', wr', nu', rr', y1, y2, y3, y4, y5⟩ | ⟨q, fl, tf', a', nu', rr', y1, y0, y2, y3⟩
          · rw [show f_X4_readNumbers fu (nI n) (nI e) (-1) tx (nI (rd + 1)) tf (nI rd) 2 3 = _ from y3, bs]
            refine Or.inr ⟨q, _, _, tf', wr', nu', rr', by omega, y2, rfl, fun n2 => ?_, y5, GV.step hG (w := 5) (by omega) (by omega) hb⟩
            rw [hM n2, show f_X6_takesNumbers fu (nI n) (nI rd) (nI e) wr nu te rr 2 2 31 = _ from y4, bs, bs]
            dsimp only
            rw [iteT, f_blanks hf hn y2, bs]
          · rw [show f_X4_readNumbers fu (nI n) (nI e) (-1) tx (nI (rd + 1)) tf (nI rd) 2 3 = _ from y2, bs]
            refine Or.inl ⟨_, _, _, fl, a', nu', rr', y1, y0, rfl, fun n2 => ?_⟩
            rw [hM n2, show f_X6_takesNumbers fu (nI n) (nI rd) (nI e) wr nu te rr 2 2 31 = _ from y3, bs, bs]
            dsimp only
            rw [iteF]
        · have hgn : ∀ c, 4 ≤ c → c < 4 + 2 → f_X5_greatestNumber (nI c) = some 31 := by
            intro c h1 h2
            have h3 : c = 4 ∨ c = 5 := by omega
            rcases h3 with rfl | rfl <;> decide +kernel
          have hx := f_nums (fu := fu) (rd := rd) (c0 := 4) (cn := 2) (g := 31) (k := e) (wr := wr) (nu := nu) hf hT hrd (by omega) (by omega) hgn e2 hF
          have hmp : f_X6_takesPart fu (nI n) (nI rd) (nI e) wr nu te rr (nI 6) = (f_X6_takesNumbers fu (nI n) (nI rd) (nI e) wr nu te rr 4 2 31).bind fun r5 => some (r5.1, r5.2.1, r5.2.2.1, r5.2.2.2.1, r5.2.2.2.2) := rfl
          rw [hmp] at hM
          rw [if_neg (show ¬ nI 6 = 3 by decide), if_neg (show ¬ nI 6 = 4 by decide), if_neg (show ¬ nI 6 = 5 by decide), if_pos (show nI 6 = 6 from rfl)]
          rcases hx with ⟨q, tf', wr', nu', rr', y1, y2, y3, y4, y5⟩ | ⟨q, fl, tf', a', nu', rr', y1, y0, y2, y3⟩
          · rw [show f_X4_readNumbers fu (nI n) (nI e) (-1) tx (nI (rd + 1)) tf (nI rd) 4 5 = _ from y3, bs]
            refine Or.inr ⟨q, _, _, tf', wr', nu', rr', by omega, y2, rfl, fun n2 => ?_, y5, GV.step hG (w := 6) (by omega) (by omega) hb⟩
            rw [hM n2, show f_X6_takesNumbers fu (nI n) (nI rd) (nI e) wr nu te rr 4 2 31 = _ from y4, bs, bs]
            dsimp only
            rw [iteT, f_blanks hf hn y2, bs]
          · rw [show f_X4_readNumbers fu (nI n) (nI e) (-1) tx (nI (rd + 1)) tf (nI rd) 4 5 = _ from y2, bs]
            refine Or.inl ⟨_, _, _, fl, a', nu', rr', y1, y0, rfl, fun n2 => ?_⟩
            rw [hM n2, show f_X6_takesNumbers fu (nI n) (nI rd) (nI e) wr nu te rr 4 2 31 = _ from y3, bs, bs]
            dsimp only
            rw [iteF]
        · have hgn : ∀ c, 6 ≤ c → c < 6 + 2 → f_X5_greatestNumber (nI c) = some 15 := by
            intro c h1 h2
            have h3 : c = 6 ∨ c = 7 := by omega
            rcases h3 with rfl | rfl <;> decide +kernel
          have hx := f_nums (fu := fu) (rd := rd) (c0 := 6) (cn := 2) (g := 15) (k := e) (wr := wr) (nu := nu) hf hT hrd (by omega) (by omega) hgn e2 hF
          have hmp : f_X6_takesPart fu (nI n) (nI rd) (nI e) wr nu te rr (nI 7) = (f_X6_takesNumbers fu (nI n) (nI rd) (nI e) wr nu te rr 6 2 15).bind fun r5 => some (r5.1, r5.2.1, r5.2.2.1, r5.2.2.2.1, r5.2.2.2.2) := rfl
          rw [hmp] at hM
          rw [if_neg (show ¬ nI 7 = 3 by decide), if_neg (show ¬ nI 7 = 4 by decide), if_neg (show ¬ nI 7 = 5 by decide), if_neg (show ¬ nI 7 = 6 by decide), if_pos (show nI 7 = 7 from rfl)]
          rcases hx with ⟨q, tf', wr', nu', rr', y1, y2, y3, y4, y5⟩ | ⟨q, fl, tf', a', nu', rr', y1, y0, y2, y3⟩
          · rw [show f_X4_readNumbers fu (nI n) (nI e) (-1) tx (nI (rd + 1)) tf (nI rd) 6 7 = _ from y3, bs]
            refine Or.inr ⟨q, _, _, tf', wr', nu', rr', by omega, y2, rfl, fun n2 => ?_, y5, GV.step hG (w := 7) (by omega) (by omega) hb⟩
            rw [hM n2, show f_X6_takesNumbers fu (nI n) (nI rd) (nI e) wr nu te rr 6 2 15 = _ from y4, bs, bs]
            dsimp only
            rw [iteT, f_blanks hf hn y2, bs]
          · rw [show f_X4_readNumbers fu (nI n) (nI e) (-1) tx (nI (rd + 1)) tf (nI rd) 6 7 = _ from y2, bs]
            refine Or.inl ⟨_, _, _, fl, a', nu', rr', y1, y0, rfl, fun n2 => ?_⟩
            rw [hM n2, show f_X6_takesNumbers fu (nI n) (nI rd) (nI e) wr nu te rr 6 2 15 = _ from y3, bs, bs]
            dsimp only
            rw [iteF]
        · have hmp : f_X6_takesPart fu (nI n) (nI rd) (nI e) wr nu te rr (nI 8) = some (true, nI e, wr, nu, upd rr (11 * rd + 8) 0) := by
            unfold f_X6_takesPart
            rw [if_neg (by decide), if_neg (by decide), if_neg (by decide), if_neg (by decide), if_neg (by decide), q11, q8, pk_mul, nI_add, if_pos (zok_nI (by omega) (by decide)), nI_clamp (by omega)]
            rfl
          rw [hmp] at hM
          rw [if_neg (show ¬ nI 8 = 3 by decide), if_neg (show ¬ nI 8 = 4 by decide), if_neg (show ¬ nI 8 = 5 by decide), if_neg (show ¬ nI 8 = 6 by decide), if_neg (show ¬ nI 8 = 7 by decide), if_pos (show nI 8 = 8 from rfl), show f_X3_put 11 (nI (rd + 1)) 132 tf (nI rd) 8 0 = _ from put11 (c := 8) (by omega) (by omega) (by omega), bs]
          refine Or.inr ⟨e, _, _, _, wr, nu, _, e1', e2, rfl, fun n2 => ?_, FR.upd hF (by omega), GV.step hG (w := 8) (by omega) (by omega) hb⟩
          rw [hM n2, bs]
          dsimp only
          rw [iteT, f_blanks hf hn e2, bs]
        · have hmp : f_X6_takesPart fu (nI n) (nI rd) (nI e) wr nu te rr (nI 9) = some (true, nI e, wr, nu, upd rr (11 * rd + 8) 1) := by
            unfold f_X6_takesPart
            rw [if_neg (by decide), if_neg (by decide), if_neg (by decide), if_neg (by decide), if_neg (by decide), q11, q8, pk_mul, nI_add, if_pos (zok_nI (by omega) (by decide)), nI_clamp (by omega)]
            rfl
          rw [hmp] at hM
          rw [if_neg (show ¬ nI 9 = 3 by decide), if_neg (show ¬ nI 9 = 4 by decide), if_neg (show ¬ nI 9 = 5 by decide), if_neg (show ¬ nI 9 = 6 by decide), if_neg (show ¬ nI 9 = 7 by decide), if_neg (show ¬ nI 9 = 8 by decide), show f_X3_put 11 (nI (rd + 1)) 132 tf (nI rd) 8 1 = _ from put11 (c := 8) (by omega) (by omega) (by omega), bs]
          refine Or.inr ⟨e, _, _, _, wr, nu, _, e1', e2, rfl, fun n2 => ?_, FR.upd hF (by omega), GV.step hG (w := 9) (by omega) (by omega) hb⟩
          rw [hM n2, bs]
          dsimp only
          rw [iteT, f_blanks hf hn e2, bs]
theorem f_parts {fu n rd : Nat} {tx te : Nat → Int32} (hf : 2000 < fu) (hT : TX n tx te) (hrd : rd ≤ 11) : ∀ (m c n1 n2 k : Nat) (gv td wr nu : Int32) (tf rr : Nat → Int32), m + c = 7 → m < n1 → m < n2 → k ≤ n → GV gv td c → FR tf rr (rd + 1) →
    (∃ q g' tf' wr' nu' rr', k < q ∧ q ≤ n ∧ f_X4_readRule_L47 fu (fun (x1 : Int32) (x2 : Int32) (x3 : Int32) (x4 : Int32) (x5 : Nat → Int32) => some (x2, x3, x4, nI (rd + 1), x5)) (nI n) tx (nI (rd + 1)) n1 (nI c) (nI k) gv (-1) tf = some (nI q, g', -1, nI (rd + 1), tf') ∧ f_X6_takesParts_L6 fu (fun (x1 : Int32) (x2 : Int32) (x3 : Int32) (x4 : Int32) (x5 : Nat → Int32) => some (true, x2 + 1, x3, x4, x5)) (nI n) (nI rd) te n2 td (nI (sB n te k)) wr nu rr = some (true, nI q, wr', nu', rr') ∧ FR tf' rr' (rd + 1)) ∨ (∃ p g' fl tf' a' nu' rr', fl ≤ 130 ∧ a' ≤ n ∧ f_X4_readRule_L47 fu (fun (x1 : Int32) (x2 : Int32) (x3 : Int32) (x4 : Int32) (x5 : Nat → Int32) => some (x2, x3, x4, nI (rd + 1), x5)) (nI n) tx (nI (rd + 1)) n1 (nI c) (nI k) gv (-1) tf = some (p, g', nI fl, nI (rd + 1), tf') ∧ f_X6_takesParts_L6 fu (fun (x1 : Int32) (x2 : Int32) (x3 : Int32) (x4 : Int32) (x5 : Nat → Int32) => some (true, x2 + 1, x3, x4, x5)) (nI n) (nI rd) te n2 td (nI (sB n te k)) wr nu rr = some (false, nI a', nI fl, nu', rr')) := by
  have hn := hT.1
  intro m
  induction m with
  | zero =>
    intro c n1 n2 k gv td wr nu tf rr hm h1 h2 hk hG hF
    have := cnt_le (tb gv) 6
    have := hG.2.2.2
    omega
  | succ m ih =>
    intro c n1 n2 k gv td wr nu tf rr hm h1 h2 hk hG hF
    obtain ⟨n1, rfl⟩ : ∃ m, n1 = m + 2 := ⟨n1 - 2, by omega⟩
    obtain ⟨n2, rfl⟩ : ∃ m, n2 = m + 1 := ⟨n2 - 1, by omega⟩
    have hB := sB_le (te := te) hk
    have hC : f_X4_readRule_L47 fu (fun (x1 : Int32) (x2 : Int32) (x3 : Int32) (x4 : Int32) (x5 : Nat → Int32) => some (x2, x3, x4, nI (rd + 1), x5)) (nI n) tx (nI (rd + 1)) (n1 + 2) (nI c) (nI k) gv (-1) tf = if bt n te (sB n te k) = 59 then some (nI (sB n te k) + 1, gv, -1, nI (rd + 1), tf) else ((f_X4_readPart fu (nI n) (nI (sB n te k)) gv (-1) tx (nI (rd + 1)) tf (nI rd)).bind fun r8 => f_X4_readRule_L47 fu (fun (x1 : Int32) (x2 : Int32) (x3 : Int32) (x4 : Int32) (x5 : Nat → Int32) => some (x2, x3, x4, nI (rd + 1), x5)) (nI n) tx (nI (rd + 1)) (n1 + 1) (nI (c + 1)) r8.1 r8.2.1 r8.2.2.1 r8.2.2.2) := by
      rw [f_X4_readRule_L47, if_neg (show ¬ (6 : Int32) < nI c from nI_nlt (a := 6) (by omega) (by decide)), if_pos rfl, f_skipBlanks hf hT hk, bs, f_byteAt hT (by omega), bs, f_X3_size, bs, nI_pred, nI_1 c]
    rw [hC]
    by_cases h59 : bt n te (sB n te k) = 59
    · obtain ⟨b1, b2⟩ := bt_in (b := 59) (by decide) h59
      rw [if_pos h59]
      refine Or.inl ⟨sB n te k + 1, gv, tf, wr, nu, rr, by omega, by omega, by rw [nI_1], ?_, hF⟩
      rw [f_X6_takesParts_L6, f_isAt hn (by omega), decide_eq_true b1, Bool.true_and, zin_eq, decide_eq_true (show te (sB n te k) = 59 from b2), bs, iteT, nI_1]
    · rw [if_neg h59]
      have hse : (decide (sB n te k < n) && zin (te (sB n te k)) 59 59) = false := by
        rw [zin_eq]
        by_cases hlt : sB n te k < n
        · rw [decide_eq_true hlt, Bool.true_and]
          refine decide_eq_false (fun h => h59 ?_)
          unfold bt
          rw [if_pos hlt, h]
        · rw [decide_eq_false hlt, Bool.false_and]
      rcases f_part (wr := wr) (nu := nu) hf hT hrd hB.2 hse hG hF with ⟨p, g', tf', fl, a', nu', rr', y1, y2, y3, y4⟩ | ⟨q, gv', td', tf', wr', nu', rr', y1, y2, y3, y4, y5, y6⟩
      · rw [y3, bs, y4 n2]
        dsimp only
        rw [f_X4_readRule_L47, if_neg (show ¬ nI fl = -1 from oI_ne (by omega)), ite_self]
        exact Or.inr ⟨_, _, fl, _, a', _, _, y1, y2, rfl, rfl⟩
      · rw [y3, bs, y4 n2]
        dsimp only
        rcases ih (c + 1) (n1 + 1) n2 q gv' td' wr' nu' tf' rr' (by omega) (by omega) (by omega) y2 y6 y5 with ⟨q', g', tf', wr', nu', rr', z1, z2, z3, z4, z5⟩ | h
        · exact Or.inl ⟨q', g', tf', wr', nu', rr', by omega, z2, z3, z4, z5⟩
        · exact Or.inr h
theorem f_ruleT {fu n rd k : Nat} {tx te tf rr : Nat → Int32} {gv wr nu : Int32} (hf : 2000 < fu) (hT : TX n tx te) (hrd : rd ≤ 11) (hk : k < n) (hF : FR tf rr rd) :
    (∃ q g' tf' wr' nu' rr', k < q ∧ q ≤ n ∧ f_X4_readRule fu (nI n) (nI k) gv (-1) tx (nI rd) tf = some (nI q, g', -1, nI (rd + 1), tf') ∧ f_X6_takesRule fu (nI n) (nI rd) (nI k) wr nu te rr = some (true, nI (rd + 1), nI q, wr', nu', rr') ∧ FR tf' rr' (rd + 1)) ∨ (∃ p g' fl s' tf' r' a' nu' rr', fl ≤ 130 ∧ a' ≤ n ∧ f_X4_readRule fu (nI n) (nI k) gv (-1) tx (nI rd) tf = some (p, g', nI fl, s', tf') ∧ f_X6_takesRule fu (nI n) (nI rd) (nI k) wr nu te rr = some (false, r', nI a', nI fl, nu', rr')) := by
  have hn := hT.1
  obtain ⟨o, e, cdd, e1, e2, w1, w2, w3, w4, w5⟩ := f_words (k := k) hf hT (by omega)
  unfold f_X4_readRule f_X6_takesRule
  rw [w3, bs, if_neg (show ¬ nI rd = 12 by rw [q12, nI_eq (by omega) (by decide)]; omega), f_isAt hn (by omega), bs, show (decide (k < n) && zin (te k) 97 122) = ltr n te k from rfl]
  dsimp only
  rw [f_within, bs]
  cases hl : ltr n te k with
  | false =>
    have ho := w5 hl
    subst ho
    rw [iteF, show zin (oI none) 0 2 = false by decide, iteF]
    exact Or.inr ⟨_, _, k, _, _, _, k, _, _, by omega, by omega, rfl, rfl⟩
  | true =>
    rw [iteT, w1, bs]
    dsimp only
    rw [w2, bs, f_in, bs]
    cases hz : zin (oI o) 0 2 with
    | false =>
      rw [iteF, iteF]
      exact Or.inr ⟨_, _, k, _, _, _, e, _, _, by omega, e2, rfl, rfl⟩
    | true =>
      obtain ⟨a, ha, ea⟩ := zin_nat (n := 2) (by decide) hz
      have ho : o.isSome = true := by
        cases o with
        | none => exact absurd ea.symm (oI_ne (by omega))
        | some w => rfl
      rw [ea, iteT, iteT, if_pos ho, f_X3_size, bs, f_anyRule (Nat.le_refl _) (by omega) hf, bs, q11, pk_mul, f_begins hf (by omega) (by decide), bs, show shr (11 * (rd + 1)) (11 * (rd + 1)) 11 tf = tf from funext fun k => shr_out (by omega)]
      dsimp only
      have hF1 : FR (rowP (11 * rd) (nI a) tf) (rowP (11 * rd) (nI a) rr) (rd + 1) := by
        refine ⟨fun k hk => ?_, fun r hr => ?_⟩
        · by_cases h2 : 11 * rd ≤ k
          · rw [rowP_in h2 (by omega), rowP_in h2 (by omega)]
          · rw [rowP_out (by omega), rowP_out (by omega)]
            exact hF.1 k (by omega)
        · by_cases h2 : r = rd
          · subst h2
            rw [rowP_in (by omega) (by omega), rowP_in (by omega) (by omega), show 11 * r + 10 - 11 * r = 10 by omega, show 11 * r + 9 - 11 * r = 9 by omega]
            exact ⟨rfl, act_of ha⟩
          · rw [rowP_out (by omega), rowP_out (by omega)]
            exact hF.2 r (by omega)
      unfold f_X6_takesParts
      rw [f_blanks hf hn e2, bs]
      rcases f_parts (fu := fu) hf hT hrd 7 0 fu fu e 0 0 wr nu _ _ (by omega) (by omega) (by omega) e2 GV_0 hF1 with ⟨q, g', tf', wr', nu', rr', y1, y2, y3, y4, y5⟩ | ⟨p, g', fl, tf', a', nu', rr', y1, y0, y2, y3⟩
      · rw [show f_X4_readRule_L47 fu (fun (x1 : Int32) (x2 : Int32) (x3 : Int32) (x4 : Int32) (x5 : Nat → Int32) => some (x2, x3, x4, nI (rd + 1), x5)) (nI n) tx (nI (rd + 1)) fu 0 (nI e) 0 (-1) (rowP (11 * rd) (nI a) tf) = _ from y3, y4, bs]
        dsimp only
        rw [iteT, nI_1]
        exact Or.inl ⟨q, _, _, _, _, _, by omega, y2, rfl, rfl, y5⟩
      · rw [show f_X4_readRule_L47 fu (fun (x1 : Int32) (x2 : Int32) (x3 : Int32) (x4 : Int32) (x5 : Nat → Int32) => some (x2, x3, x4, nI (rd + 1), x5)) (nI n) tx (nI (rd + 1)) fu 0 (nI e) 0 (-1) (rowP (11 * rd) (nI a) tf) = _ from y2, y3, bs]
        dsimp only
        rw [iteF]
        exact Or.inr ⟨_, _, fl, _, _, _, a', _, _, y1, y0, rfl, rfl⟩
theorem f_rules {fu n : Nat} {tx te : Nat → Int32} (hf : 2000 < fu) (hT : TX n tx te) : ∀ (m rd n1 n2 k : Nat) (gv wr nu : Int32) (tf rr : Nat → Int32), m + rd = 13 → 1 ≤ m → m < n1 → m < n2 → k ≤ n → FR tf rr rd →
    (∃ rd' p g' tf' a' wr' nu' rr', rd' ≤ 12 ∧ f_X4_findRules_L19 fu (fun (x1 : Int32) (x2 : Int32) (x3 : Int32) (x4 : Int32) (x5 : Int32) (x6 : Nat → Int32) => some (x4, x2, x3, x4, x5, x6)) (nI n) tx n1 (nI rd) (nI k) gv (-1) (nI rd) tf = some (-1, p, g', -1, nI rd', tf') ∧ f_X6_isRead_L16 fu (fun (x1 : Bool) (x2 : Int32) (x3 : Int32) (x4 : Int32) (x5 : Int32) (x6 : Nat → Int32) => some (x1, x2, x3, x4, x5, x6)) (nI n) te n2 true (nI rd) (nI (sB n te k)) wr nu rr = some (true, nI rd', a', wr', nu', rr') ∧ FR tf' rr' rd') ∨ (∃ fl p g' e' s' tf' r' a' nu' rr', fl ≤ 130 ∧ f_X4_findRules_L19 fu (fun (x1 : Int32) (x2 : Int32) (x3 : Int32) (x4 : Int32) (x5 : Int32) (x6 : Nat → Int32) => some (x4, x2, x3, x4, x5, x6)) (nI n) tx n1 (nI rd) (nI k) gv (-1) (nI rd) tf = some (nI fl, p, g', e', s', tf') ∧ f_X6_isRead_L16 fu (fun (x1 : Bool) (x2 : Int32) (x3 : Int32) (x4 : Int32) (x5 : Int32) (x6 : Nat → Int32) => some (x1, x2, x3, x4, x5, x6)) (nI n) te n2 true (nI rd) (nI (sB n te k)) wr nu rr = some (false, r', a', nI fl, nu', rr')) := by
  have hn := hT.1
  intro m
  induction m with
  | zero => intro rd n1 n2 k gv wr nu tf rr _ h; omega
  | succ m ih =>
    intro rd n1 n2 k gv wr nu tf rr hm hm1 h1 h2 hk hF
    obtain ⟨n1, rfl⟩ : ∃ m, n1 = m + 2 := ⟨n1 - 2, by omega⟩
    obtain ⟨n2, rfl⟩ : ∃ m, n2 = m + 2 := ⟨n2 - 2, by omega⟩
    have hB := sB_le (te := te) hk
    rw [f_X4_findRules_L19, if_neg (show ¬ (12 : Int32) < nI rd from nI_nlt (a := 12) (by omega) (by decide)), if_pos rfl, f_skipBlanks hf hT hk, bs, f_X6_isRead_L16, iteT, nI_1 rd]
    by_cases hlt : sB n te k < n
    · rw [if_pos (nI_lt hlt (by omega)), if_neg (nI_ge hlt (by omega))]
      by_cases h12 : rd = 12
      · subst h12
        have hr12 : f_X6_takesRule fu (nI n) (nI 12) (nI (sB n te k)) wr nu te rr = some (false, nI 12, nI (sB n te k), nI (sB n te k), nu, rr) := by
          unfold f_X6_takesRule
          rw [if_pos (show nI 12 = 12 from rfl)]
          rfl
        rw [if_pos (show nI 12 = 12 from rfl), f_X4_findRules_L19, if_pos (show (12 : Int32) < nI (12 + 1) by decide), hr12, bs]
        dsimp only
        rw [f_blanks hf hn hB.2, bs, f_X6_isRead_L16, iteF]
        exact Or.inr ⟨sB n te k, _, _, _, _, _, _, _, _, _, by omega, rfl, rfl⟩
      · rw [if_neg (show ¬ nI rd = 12 by rw [q12, nI_eq (by omega) (by decide)]; exact h12)]
        rcases f_ruleT (gv := gv) (wr := wr) (nu := nu) hf hT (show rd ≤ 11 by omega) hlt hF with ⟨q, g', tf', wr', nu', rr', y1, y2, y3, y4, y5⟩ | ⟨p, g', fl, s', tf', r', a', nu', rr', y1, y0, y2, y3⟩
        · rw [y3, bs, y4, bs]
          dsimp only
          rw [f_blanks hf hn y2, bs]
          exact ih (rd + 1) (n1 + 1) (n2 + 1) q g' wr' nu' tf' rr' (by omega) (by omega) (by omega) (by omega) y2 y5
        · rw [y2, bs, y3, bs]
          dsimp only
          rw [f_blanks hf hn y0, bs, f_X6_isRead_L16, iteF, f_X4_findRules_L19, if_neg (show ¬ nI fl = -1 from oI_ne (by omega)), ite_self]
          exact Or.inr ⟨fl, _, _, _, _, _, _, _, _, _, y1, rfl, rfl⟩
    · rw [if_neg (nI_nlt (by omega) (by omega)), if_pos (nI_le (by omega) (by omega))]
      exact Or.inl ⟨rd, _, _, _, _, _, _, _, by omega, rfl, rfl, hF⟩
section P51
variable {fu : Nat} {b0 b1 b2 yhs yhn states : Int32} {estm : Int32} {eszo : Nat → Int32} {esrs : Int32} {esrf : Nat → Int32} {esks : Int32} {eskf : Nat → Int32} {esfs : Int32} {esff : Nat → Int32} {esas : Int32} {esaf espf estf : Nat → Int32} {R : Nat → Nat → Nat → Int32} {now past refused : Nat → Int32}
variable {txbf text txtf rread : Nat → Int32} {txn txg bytes wrongAt number : Int32}
theorem s_reads (hf : 2000 < fu) (hs : SR (pk12 estm eszo esrs esrf esks eskf esfs esff esas esaf espf estf) now) (hh : HR R yhs yhn states past) (ht : TR txn txbf bytes text) : ∃ r p g e s tf ys yn rs rf R' st rd a wr nu rr nw pa, f_X5_reads fu txn txg txbf txtf yhs yhn estm eszo esrs esrf esks eskf esfs esff esas esaf espf estf R = some (r, p, g, e, s, tf, ys, yn, rs, rf, R') ∧ f_X6_reads fu states bytes wrongAt number text rread now past = some (r, st, rd, a, wr, nu, rr, nw, pa) ∧ SR (pk12 estm eszo rs rf esks eskf esfs esff esas esaf espf estf) nw ∧ HR R' ys yn st pa := by
  obtain ⟨ys, yn, R', st, pa, e1, e2, e3⟩ := rem_step hf hs hh
  have hs0 := hs
  obtain ⟨p0, ⟨nr, h1⟩, ⟨nk, h2⟩, ⟨nf, h3⟩, ⟨na, h4⟩, h5⟩ := hs
  obtain ⟨n, hn, rfl, rfl, hk⟩ := ht
  have hT : TX n txbf text := ⟨hn, hk⟩
  unfold f_X5_reads f_X6_reads f_X4_findRules f_X6_isRead
  rw [f_X3_empty, bs, show f_X6_blanks fu (nI n) 0 text = _ from f_blanks (k := 0) hf hn (by omega), bs]
  rcases f_rules (fu := fu) hf hT 13 0 fu fu 0 txg wrongAt number txtf rread (by omega) (by omega) (by omega) (by omega) (by omega) ⟨fun k hk => by omega, fun r hr => by omega⟩ with ⟨rd, p, g', tf', a', wr', nu', rr', y1, y2, y3, y4⟩ | ⟨fl, p, g', e', s', tf', r', a', nu', rr', y1, y2, y3⟩
  · rw [show f_X4_findRules_L19 fu _ (nI n) txbf fu 0 0 txg (-1) 0 txtf = _ from y2, bs, show f_X6_isRead_L16 fu _ (nI n) text fu true 0 (nI (sB n text 0)) wrongAt number rread = _ from y3, bs]
    dsimp only
    rw [if_pos rfl, e1, bs, f_copyRules y1 hf, bs, f_X3_size, bs, iteT, e2, bs, if_pos (show zok 32 401 = true by decide), tn32]
    dsimp only
    have hl : ∀ K : Int32 → (Nat → Int32) → Option (Int32 × Int32 × Int32 × Int32 × Int32 × Int32 × (Nat → Int32) × (Nat → Int32) × (Nat → Int32)), f_X6_reads_L32 fu K (nI rd) rr' fu 0 (upd now 32 (nI rd)) = K (nI (11 * rd)) (fun k => if 33 ≤ k ∧ k < 33 + 11 * rd then rr' (k - 33) else upd now 32 (nI rd) k) := by
      intro K
      refine loopU0 (L := f_X6_reads_L32 fu K (nI rd) rr') (fun i => fun k => if 33 ≤ k ∧ k < 33 + i then rr' (k - 33) else upd now 32 (nI rd) k) (N := 11 * rd) 0 (funext fun k => (if_neg (by omega)).symm) (by omega) (by omega) ?_ ?_
      · intro m i _ hi
        rw [f_X6_reads_L32, q11, pk_mul, if_neg (nI_ge hi (by omega)), if_pos (zok_nI (by omega) (by decide)), q33, nI_add, if_pos (zok_nI (by omega) (by decide)), nI_clamp (show i < 2 ^ 31 by omega), nI_clamp (show 33 + i < 2 ^ 31 by omega), nI_1 i]
        refine congrArg _ (funext fun k => ?_)
        by_cases hk : k = 33 + i
        · rw [hk, pk_us, if_pos (by omega), show 33 + i - 33 = i by omega]
        · rw [pk_un hk]
          by_cases h2 : 33 ≤ k ∧ k < 33 + i
          · rw [if_pos h2, if_pos (by omega)]
          · rw [if_neg h2, if_neg (by omega)]
      · intro m
        rw [f_X6_reads_L32, q11, pk_mul, if_pos (nI_le (Nat.le_refl _) (by omega))]
    rw [hl]
    have ho : ∀ k, k < 32 ∨ 165 ≤ k → (fun k => if 33 ≤ k ∧ k < 33 + 11 * rd then rr' (k - 33) else upd now 32 (nI rd) k) k = now k := fun k hk => by
      dsimp only
      rw [if_neg (by omega), pk_un (by omega)]
    refine ⟨_, _, _, _, _, _, _, _, _, _, _, _, _, _, _, _, _, _, _, rfl, rfl, ⟨ZnR.w p0 (fun k hk => ho k (by omega)), ⟨rd, y1, rfl, ?_, fun k hk => ?_, fun r hr => ?_⟩, ⟨nk, KeR.w h2 (fun k h1 h2 => ho k (by omega))⟩, ⟨nf, FlR.w h3 (fun k h1 h2 => ho k (by omega))⟩, ⟨na, AnR.w h4 (fun k h1 h2 => ho k (by omega))⟩, ScR.w h5 (fun k h1 h2 => ho k (by omega))⟩, e3⟩
    · show (if 33 ≤ 32 ∧ 32 < 33 + 11 * rd then rr' (32 - 33) else upd now 32 (nI rd) 32) = nI rd
      rw [if_neg (by omega), pk_us]
    · show (if k % 11 = 10 ∧ k / 11 < rd then (0 : Int32) else va_cpy tf' esrf 0 0 132 k) = (if 33 ≤ 33 + k ∧ 33 + k < 33 + 11 * rd then rr' (33 + k - 33) else upd now 32 (nI rd) (33 + k))
      rw [if_pos (show 33 ≤ 33 + k ∧ 33 + k < 33 + 11 * rd by omega), show 33 + k - 33 = k by omega, cpy_lt (by omega)]
      by_cases hm : k % 11 = 10
      · rw [if_pos (by omega)]
        have := (y4.2 (k / 11) (by omega)).1
        rw [show 11 * (k / 11) + 10 = k by omega] at this
        exact this.symm
      · rw [if_neg (by omega)]
        exact y4.1 k hk
    · show act (if 33 ≤ 33 + 11 * r + 9 ∧ 33 + 11 * r + 9 < 33 + 11 * rd then rr' (33 + 11 * r + 9 - 33) else upd now 32 (nI rd) (33 + 11 * r + 9))
      rw [if_pos (by omega), show 33 + 11 * r + 9 - 33 = 11 * r + 9 by omega]
      exact (y4.2 r hr).2
  · rw [show f_X4_findRules_L19 fu _ (nI n) txbf fu 0 0 txg (-1) 0 txtf = _ from y2, bs, show f_X6_isRead_L16 fu _ (nI n) text fu true 0 (nI (sB n text 0)) wrongAt number rread = _ from y3, bs]
    dsimp only
    rw [if_neg (show ¬ nI fl = -1 from oI_ne (by omega)), iteF]
    exact ⟨_, _, _, _, _, _, _, _, _, _, _, _, _, _, _, _, _, _, _, rfl, rfl, hs0, hh⟩
end P51
