theorem L13 {fu : Nat} {K : Int32 → (Nat → Int32) → Option (Nat → Int32)} {p n0 n : Nat} {now : Nat → Int32} (h : p ≤ n0) (h2 : n0 < 12) (hf : 200 < n) : f_X6_makesRoom_L13 fu K (nI p) n (nI (11 * n0) - 1) now = K (nI (11 * p) - 1) (shr (33 + 11 * (p + 1)) (33 + 11 * (n0 + 1)) 11 now) := by
  refine loopD0 (L := f_X6_makesRoom_L13 fu K (nI p)) (fun i => shr (33 + i + 11) (33 + 11 * (n0 + 1)) 11 now) (N := 11 * p) (M := 11 * n0) (funext fun k => (shr_out (by omega)).symm) (by omega) (by omega) ?_ ?_
  · intro n i hi hM
    rw [f_X6_makesRoom_L13]
    simp (disch := omega) only [q11, q33, pk_mul, nI_add, nI_ltI, zok_nI, eq_self, if_true, nI_clamp, m1]
    rw [if_neg (by omega)]
    refine congrArg _ (funext fun k => ?_)
    by_cases hk : k = 33 + i + 11
    · rw [hk, pk_us, shr_out (by omega), shr_in (by omega) (by omega)]
      exact congrArg _ (by omega)
    · rw [pk_un hk]
      by_cases h2 : 33 + i + 11 ≤ k ∧ k < 33 + 11 * (n0 + 1)
      · rw [shr_in (by omega) (by omega), shr_in (by omega) (by omega)]
      · rw [shr_out (by omega), shr_out (by omega)]
  · intro n
    rw [f_X6_makesRoom_L13, q11, pk_mul, if_pos (nIm_lt (by omega) (by omega) (by omega)), show 33 + 11 * p + 11 = 33 + 11 * (p + 1) by omega]
theorem f_makesRoom {fu p n0 : Nat} {now : Nat → Int32} (hn : now 32 = nI n0) (h : p ≤ n0) (h2 : n0 < 12) (hf : 2000 < fu) : f_X6_makesRoom fu now (nI p) = some (upd (shr (33 + 11 * (p + 1)) (33 + 11 * (n0 + 1)) 11 now) 32 (nI (n0 + 1))) := by
  unfold f_X6_makesRoom
  have hz : zok 32 401 = true := by decide
  rw [tn32, hn, if_pos hz, q11, pk_mul, L13 h h2 (by omega), if_pos hz, if_pos hz, shr_out (by omega), hn, nI_1]
theorem L16 {fu : Nat} {K : Int32 → (Nat → Int32) → Option (Nat → Int32)} {r n0 n : Nat} {now : Nat → Int32} (hn : now 32 = nI n0) (h : r ≤ n0) (h2 : n0 < 12) (hf : 200 < n) : f_X6_closesUp_L16 fu K n (nI (11 * r)) now = K (nI (11 * n0)) (shl (33 + 11 * r) (33 + 11 * n0) 11 now) := by
  refine loopU0 (L := f_X6_closesUp_L16 fu K) (fun i => shl (33 + 11 * r) (33 + i) 11 now) (N := 11 * n0) (11 * r) (funext fun k => (shl_out (by omega)).symm) (by omega) (by omega) ?_ ?_
  · intro n i hi hM
    rw [f_X6_closesUp_L16, tn32, shl_out (by omega), hn]
    simp (disch := omega) only [q11, q33, q32, pk_mul, nI_add, nI_1, nI_leI, zok_nI, eq_self, if_true, nI_clamp]
    rw [if_neg (by omega)]
    refine congrArg _ (funext fun k => ?_)
    by_cases hk : k = 33 + i
    · rw [hk, pk_us, shl_out (by omega), shl_in (by omega) (by omega)]
    · rw [pk_un hk]
      by_cases h2 : 33 + 11 * r ≤ k ∧ k < 33 + i
      · rw [shl_in (by omega) (by omega), shl_in (by omega) (by omega)]
      · rw [shl_out (by omega), shl_out (by omega)]
  · intro n
    rw [f_X6_closesUp_L16, tn32, shl_out (by omega), hn, q11, pk_mul, if_pos (by decide), if_pos (nI_le (by omega) (by omega))]
theorem f_closesUp {fu r n0 : Nat} {now : Nat → Int32} (hn : now 32 = nI (n0 + 1)) (h : r ≤ n0) (h2 : n0 < 12) (hf : 2000 < fu) : f_X6_closesUp fu now (nI r) = some (shl (33 + 11 * r) (33 + 11 * n0) 11 (upd now 32 (nI n0))) := by
  unfold f_X6_closesUp
  have hz : zok 32 401 = true := by decide
  rw [tn32, hn, if_pos hz, if_pos hz, nI_pred, q11, pk_mul, L16 pk_us h h2 (by omega)]
theorem f_anyRule {fu p n0 : Nat} {tf : Nat → Int32} {a : Int32} (h : p ≤ n0) (h2 : n0 < 12) (hf : 2000 < fu) : f_X5_insertAnyRule fu 12 11 (nI n0) 132 tf (nI p) a = some (nI (n0 + 1), rowP (11 * p) a (shr (11 * (p + 1)) (11 * (n0 + 1)) 11 tf)) := by
  unfold f_X5_insertAnyRule
  rw [ins11 h h2, bs]
  refine loopU0 (L := f_X5_insertAnyRule_L7 fu _ (nI p) 11 (nI (n0 + 1)) 132) (fun i => fun k => if 11 * p ≤ k ∧ k < 11 * p + i then sAny (k - 11 * p) else shr (11 * (p + 1)) (11 * (n0 + 1)) 11 tf k) (N := 11) 0 (funext fun k => (if_neg (by omega)).symm) (by omega) (by omega) ?_ ?_
  · intro n i hi hM
    rw [f_X5_insertAnyRule_L7, if_neg (show ¬ (11 : Int32) ≤ nI i by rw [q11]; exact nI_ge (by omega) (by decide)), if_pos (zok_nI (by omega) (by decide)), put11 (by omega) (by omega) (by omega), bs, nI_clamp (by omega), nI_1 i]
    refine congrArg _ (funext fun k => ?_)
    by_cases hk : k = p * 11 + i
    · rw [hk, pk_us, if_pos (by omega)]
      exact congrArg _ (by omega)
    · rw [pk_un hk]
      by_cases h2 : 11 * p ≤ k ∧ k < 11 * p + i
      · rw [if_pos h2, if_pos (by omega)]
      · rw [if_neg h2, if_neg (by omega)]
  · intro n
    rw [f_X5_insertAnyRule_L7, if_pos (by decide), q9, put11 (by omega) (by omega) (by omega), bs]
    refine congrArg _ (congrArg _ (funext fun k => ?_))
    unfold rowP anyR
    by_cases hk : k = p * 11 + 9
    · rw [hk, pk_us, if_pos (by omega), if_pos (by omega)]
    · rw [pk_un hk]
      by_cases h2 : 11 * p ≤ k ∧ k < 11 * p + 11
      · rw [if_pos h2, if_pos h2, if_neg (by omega)]
      · rw [if_neg h2, if_neg h2]
theorem f_copyRules {fu n0 : Nat} {tf uf : Nat → Int32} {us : Int32} (h2 : n0 ≤ 12) (hf : 2000 < fu) : f_X5_copyRules fu (nI n0) 132 tf 11 us 132 uf = some (nI n0, fun k => if k % 11 = 10 ∧ k / 11 < n0 then 0 else va_cpy tf uf 0 0 132 k) := by
  unfold f_X5_copyRules
  rw [f_copy (N := 132) (by decide), bs]
  refine loopU0 (L := f_X5_copyRules_L7 fu _ 11 (nI n0) 132) (fun i => fun k => if k % 11 = 10 ∧ k / 11 < i then 0 else va_cpy tf uf 0 0 132 k) (N := n0) 0 (funext fun k => (if_neg (by omega)).symm) (by omega) (by omega) ?_ ?_
  · intro n i hi hM
    rw [f_X5_copyRules_L7, f_X3_size, bs, if_neg (nI_ge hM (by omega)), q10, put11 (by omega) (by omega) (by omega), bs, nI_1 i]
    refine congrArg _ (funext fun k => ?_)
    by_cases hk : k = i * 11 + 10
    · rw [hk, pk_us, if_pos (by omega)]
    · rw [pk_un hk]
      by_cases h2 : k % 11 = 10 ∧ k / 11 < i
      · rw [if_pos h2, if_pos (by omega)]
      · rw [if_neg h2, if_neg (by omega)]
  · intro n
    rw [f_X5_copyRules_L7, f_X3_size, bs, if_pos (nI_le (Nat.le_refl _) (by omega))]
def layW (a b : Nat) (now : Nat → Int32) : Nat → Int32 := fun k => if b ≤ k ∧ k < b + 132 then (if (k - b) % 11 = 10 then 0 else now (a + (k - b))) else now k
theorem layW_out {a b k : Nat} {now : Nat → Int32} (h : k < b ∨ b + 132 ≤ k) : layW a b now k = now k := if_neg (by omega)
theorem layW_in {a b k : Nat} {now : Nat → Int32} (h : b ≤ k) (h2 : k < b + 132) : layW a b now k = (if (k - b) % 11 = 10 then 0 else now (a + (k - b))) := if_pos ⟨h, h2⟩
theorem f_lays {fu a b : Nat} {now : Nat → Int32} (ha : a + 132 ≤ 401) (hb : b + 132 ≤ 401) (hab : a + 132 ≤ b ∨ b + 132 ≤ a) (hf : 2000 < fu) : f_X6_lays fu now (nI a) (nI b) = some (layW a b now) := by
  unfold f_X6_lays
  refine loopU0 (L := f_X6_lays_L2 fu _ (nI a) (nI b)) (fun i => fun k => if b ≤ k ∧ k < b + i then (if (k - b) % 11 = 10 then 0 else now (a + (k - b))) else now k) (N := 132) 0 (funext fun k => (if_neg (by omega)).symm) (by omega) (by omega) ?_ ?_
  · intro n i hi hM
    rw [f_X6_lays_L2, if_neg (show ¬ (132 : Int32) ≤ nI i by rw [q132]; exact nI_ge (by omega) (by decide)), q11, pk_rem (by omega) (by decide) (by decide), q10, nI_add, nI_add, if_pos (show zok (nI (b + i)) 401 = true from zok_nI (by omega) (by decide)), if_pos (show zok (nI (a + i)) 401 = true from zok_nI (by omega) (by decide)), if_pos (show zok (nI (b + i)) 401 = true from zok_nI (by omega) (by decide)), nI_clamp (by omega), nI_clamp (by omega), nI_1 i]
    by_cases hm : i % 11 = 10
    · rw [if_pos (show nI (i % 11) = nI 10 by rw [hm])]
      refine congrArg _ (funext fun k => ?_)
      by_cases hk : k = b + i
      · rw [hk, pk_us, if_pos (by omega), if_pos (by omega)]
      · rw [pk_un hk]
        by_cases h2 : b ≤ k ∧ k < b + i
        · rw [if_pos h2, if_pos (show b ≤ k ∧ k < b + (i + 1) by omega)]
        · rw [if_neg h2, if_neg (show ¬ (b ≤ k ∧ k < b + (i + 1)) by omega)]
    · rw [if_neg (show ¬ nI (i % 11) = nI 10 by rw [nI_eq (by omega) (by decide)]; exact hm)]
      refine congrArg _ (funext fun k => ?_)
      by_cases hk : k = b + i
      · rw [hk, pk_us, if_neg (by omega), if_pos (by omega), if_neg (by omega)]
        exact congrArg _ (by omega)
      · rw [pk_un hk]
        by_cases h2 : b ≤ k ∧ k < b + i
        · rw [if_pos h2, if_pos (show b ≤ k ∧ k < b + (i + 1) by omega)]
        · rw [if_neg h2, if_neg (show ¬ (b ≤ k ∧ k < b + (i + 1)) by omega)]
  · intro n
    rw [f_X6_lays_L2, if_pos (by decide)]
    rfl
section P4
variable {fu : Nat} {b0 b1 b2 yhs yhn states : Int32} {estm : Int32} {eszo : Nat → Int32} {esrs : Int32} {esrf : Nat → Int32} {esks : Int32} {eskf : Nat → Int32} {esfs : Int32} {esff : Nat → Int32} {esas : Int32} {esaf espf estf : Nat → Int32} {R : Nat → Nat → Nat → Int32} {now past refused : Nat → Int32}
theorem s_keeps (hf : 2000 < fu) (hs : SR (pk12 estm eszo esrs esrf esks eskf esfs esff esas esaf espf estf) now) (hh : HR R yhs yhn states past) : ∃ r ys yn ks kf R' st nw pa, f_X5_keeps fu yhs yhn estm eszo esrs esrf esks eskf esfs esff esas esaf espf estf R = some (r, ys, yn, ks, kf, R') ∧ f_X6_keeps fu states now past = some (r, st, nw, pa) ∧ SR (pk12 estm eszo esrs esrf ks kf esfs esff esas esaf espf estf) nw ∧ HR R' ys yn st pa := by
  obtain ⟨ys, yn, R', st, pa, e1, e2, e3⟩ := rem_step hf hs hh
  obtain ⟨p0, ⟨n, p1, p2, p3, p4, p5⟩, ⟨nk, q1, q2, q3, q4, q5⟩, ⟨nf, h3⟩, ⟨na, h4⟩, h5⟩ := hs
  obtain rfl : esrs = nI n := p2
  unfold f_X5_keeps f_X6_keeps
  have t165 : Int32.toNatClampNeg 165 = 165 := by decide
  have z1 : zok 32 401 = true := by decide
  have z2 : zok 165 401 = true := by decide
  rw [e1, e2, bs, f_copyRules p1 hf, bs, f_X3_size, bs, bs, if_pos z1, if_pos z2, tn32, t165, p3, show (33 : Int32) = nI 33 from rfl, show (166 : Int32) = nI 166 from rfl, f_lays (by omega) (by omega) (by omega) hf, bs, if_pos z1, layW_out (k := 32) (by omega), pk_un (by omega), p3]
  refine ⟨_, _, _, _, _, _, _, _, _, rfl, rfl, ?_, e3⟩
  · refine ⟨ZnR.w p0 (fun k hk => ?_), ⟨n, RuR.w ⟨p1, rfl, p3, p4, p5⟩ (fun k h1 h2 => ?_)⟩, ⟨n, p1, rfl, ?_, fun k hk => ?_, fun r hr => ?_⟩, ⟨nf, FlR.w h3 (fun k h1 h2 => ?_)⟩, ⟨na, AnR.w h4 (fun k h1 h2 => ?_)⟩, ScR.w h5 (fun k h1 h2 => ?_)⟩
    · rw [layW_out (by omega), pk_un (by omega)]
    · rw [layW_out (by omega), pk_un (by omega)]
    · rw [layW_out (by omega), pk_us]
    · show (if k % 11 = 10 ∧ k / 11 < n then (0 : Int32) else va_cpy esrf eskf 0 0 132 k) = _
      rw [layW_in (by omega) (by omega), cpy_lt (by omega), pk_un (by omega)]
      by_cases hm : k % 11 = 10
      · rw [if_pos (by omega), if_pos (by omega)]
      · rw [if_neg (by omega), if_neg (by omega)]
        exact (p4 k hk).trans (congrArg now (by omega))
    · have := p5 r hr
      rw [layW_in (by omega) (by omega), if_neg (by omega), pk_un (by omega), show 33 + (166 + 11 * r + 9 - 166) = 33 + 11 * r + 9 by omega]
      exact this
    · rw [layW_out (by omega), pk_un (by omega)]
    · rw [layW_out (by omega), pk_un (by omega)]
    · rw [layW_out (by omega), pk_un (by omega)]
theorem s_takes (hf : 2000 < fu) (hs : SR (pk12 estm eszo esrs esrf esks eskf esfs esff esas esaf espf estf) now) (hh : HR R yhs yhn states past) : ∃ r ys yn rs rf R' st nw pa, f_X5_takes fu yhs yhn estm eszo esrs esrf esks eskf esfs esff esas esaf espf estf R = some (r, ys, yn, rs, rf, R') ∧ f_X6_takes fu states now past = some (r, st, nw, pa) ∧ SR (pk12 estm eszo rs rf esks eskf esfs esff esas esaf espf estf) nw ∧ HR R' ys yn st pa := by
  obtain ⟨ys, yn, R', st, pa, e1, e2, e3⟩ := rem_step hf hs hh
  obtain ⟨p0, ⟨n, h1⟩, ⟨n', p1, p2, p3, p4, p5⟩, ⟨nf, h3⟩, ⟨na, h4⟩, h5⟩ := hs
  obtain rfl : esks = nI n' := p2
  unfold f_X5_takes f_X6_takes
  have t165 : Int32.toNatClampNeg 165 = 165 := by decide
  have z1 : zok 32 401 = true := by decide
  have z2 : zok 165 401 = true := by decide
  rw [e1, e2, bs, f_copyRules p1 hf, bs, f_X3_size, bs, bs, if_pos z1, if_pos z2, tn32, t165, p3, show (33 : Int32) = nI 33 from rfl, show (166 : Int32) = nI 166 from rfl, f_lays (by omega) (by omega) (by omega) hf, bs, if_pos z1, layW_out (k := 32) (by omega), pk_us]
  refine ⟨_, _, _, _, _, _, _, _, _, rfl, rfl, ?_, e3⟩
  · refine ⟨ZnR.w p0 (fun k hk => ?_), ⟨n', p1, rfl, ?_, fun k hk => ?_, fun r hr => ?_⟩, ⟨n', KeR.w ⟨p1, rfl, p3, p4, p5⟩ (fun k h1 h2 => ?_)⟩, ⟨nf, FlR.w h3 (fun k h1 h2 => ?_)⟩, ⟨na, AnR.w h4 (fun k h1 h2 => ?_)⟩, ScR.w h5 (fun k h1 h2 => ?_)⟩
    · rw [layW_out (by omega), pk_un (by omega)]
    · rw [layW_out (by omega), pk_us]
    · show (if k % 11 = 10 ∧ k / 11 < n' then (0 : Int32) else va_cpy eskf esrf 0 0 132 k) = _
      rw [layW_in (by omega) (by omega), cpy_lt (by omega), pk_un (by omega)]
      by_cases hm : k % 11 = 10
      · rw [if_pos (by omega), if_pos (by omega)]
      · rw [if_neg (by omega), if_neg (by omega)]
        exact (p4 k hk).trans (congrArg now (by omega))
    · have := p5 r hr
      rw [layW_in (by omega) (by omega), if_neg (by omega), pk_un (by omega), show 166 + (33 + 11 * r + 9 - 33) = 166 + 11 * r + 9 by omega]
      exact this
    · rw [layW_out (by omega), pk_un (by omega)]
    · rw [layW_out (by omega), pk_un (by omega)]
    · rw [layW_out (by omega), pk_un (by omega)]
    · rw [layW_out (by omega), pk_un (by omega)]
theorem s_drops (hf : 2000 < fu) (hs : SR (pk12 estm eszo esrs esrf esks eskf esfs esff esas esaf espf estf) now) (hh : HR R yhs yhn states past) (hc : CR b0 b1 b2 refused) (a1 : Int32) : ∃ r c0 c1 c2 ys yn rs rf R' st nw pa re, f_X5_drops b0 b1 b2 yhs yhn estm eszo esrs esrf esks eskf esfs esff esas esaf espf estf R a1 = some (r, c0, c1, c2, ys, yn, rs, rf, R') ∧ f_X6_drops fu states now past refused a1 = some (r, st, nw, pa, re) ∧ SR (pk12 estm eszo rs rf esks eskf esfs esff esas esaf espf estf) nw ∧ HR R' ys yn st pa ∧ CR c0 c1 c2 re := by
  obtain ⟨ys, yn, R', st, pa, e1, e2, e3⟩ := rem_step hf hs hh
  have hs0 := hs
  obtain ⟨p0, ⟨n, p1, p2, p3, p4, p5⟩, ⟨nk, h2⟩, ⟨nf, h3⟩, ⟨na, h4⟩, h5⟩ := hs
  obtain rfl : esrs = nI n := p2
  unfold f_X5_drops f_X6_drops
  simp only [f_isRuleC, f_isRuleM p3, bs, f_failsB, f_bad]
  cases hz : zin a1 0 (nI n - 1) with
  | false =>
    rw [iteF, iteF]
    exact ⟨_, _, _, _, _, _, _, _, _, _, _, _, _, rfl, rfl, hs0, hh, hc.bad⟩
  | true =>
    obtain ⟨r, hr, rfl⟩ := zin_m1 (by omega) hz
    obtain ⟨n, rfl⟩ : ∃ m, n = m + 1 := ⟨n - 1, by omega⟩
    rw [iteT, iteT, e1, e2, bs, bs, rem11 hr p1, f_closesUp p3 (by omega) (by omega) hf, bs, bs, f_X3_size, bs, if_pos (show zok 32 401 = true by decide), tn32, shl_out (k := 32) (by omega), pk_us]
    refine ⟨_, _, _, _, _, _, _, _, _, _, _, _, _, rfl, rfl, ?_, e3, hc⟩
    · refine ⟨ZnR.w p0 (fun k hk => ?_), ⟨n, by omega, rfl, ?_, fun k hk => ?_, fun x hx => ?_⟩, ⟨nk, KeR.w h2 (fun k h1 h2 => ?_)⟩, ⟨nf, FlR.w h3 (fun k h1 h2 => ?_)⟩, ⟨na, AnR.w h4 (fun k h1 h2 => ?_)⟩, ScR.w h5 (fun k h1 h2 => ?_)⟩
      · rw [shl_out (by omega), pk_un (by omega)]
      · rw [shl_out (by omega), pk_us]
      · show shl (11 * r) (11 * (n + 1 - 1)) 11 esrf k = _
        by_cases h2 : 11 * r ≤ k
        · rw [shl_in h2 (by omega), shl_in (by omega) (by omega), pk_un (by omega)]
          exact (p4 _ (by omega)).trans (congrArg now (by omega))
        · rw [shl_out (by omega), shl_out (by omega), pk_un (by omega)]
          exact p4 _ (by omega)
      · by_cases h2 : r ≤ x
        · rw [shl_in (by omega) (by omega), pk_un (by omega), show 33 + 11 * x + 9 + 11 = 33 + 11 * (x + 1) + 9 by omega]
          exact p5 (x + 1) (by omega)
        · rw [shl_out (by omega), pk_un (by omega)]
          exact p5 x (by omega)
      · rw [shl_out (by omega), pk_un (by omega)]
      · rw [shl_out (by omega), pk_un (by omega)]
      · rw [shl_out (by omega), pk_un (by omega)]
      · rw [shl_out (by omega), pk_un (by omega)]
theorem act_of {a : Nat} (h : a ≤ 2) : act (nI a) := by
  have : a = 0 ∨ a = 1 ∨ a = 2 := by omega
  rcases this with rfl | rfl | rfl
  · exact Or.inl rfl
  · exact Or.inr (Or.inl rfl)
  · exact Or.inr (Or.inr rfl)
theorem rowP_in {b k : Nat} {a : Int32} {w : Nat → Int32} (h1 : b ≤ k) (h2 : k < b + 11) : rowP b a w k = anyR a (k - b) := if_pos ⟨h1, h2⟩
theorem rowP_out {b k : Nat} {a : Int32} {w : Nat → Int32} (h1 : k < b ∨ b + 11 ≤ k) : rowP b a w k = w k := if_neg (by omega)
theorem f_isFullR {n : Nat} (h : n ≤ 12) : f_X3_isFull 12 (nI n) = some (decide (n = 12)) := by
  unfold f_X3_isFull
  by_cases hn : n = 12
  · rw [if_neg (show ¬ nI n < 12 by rw [hn]; decide), decide_eq_true hn]
  · rw [if_pos (show nI n < 12 from nI_lt (b := 12) (by omega) (by decide)), decide_eq_false hn]
theorem s_rule (hf : 2000 < fu) (hs : SR (pk12 estm eszo esrs esrf esks eskf esfs esff esas esaf espf estf) now) (hh : HR R yhs yhn states past) (hc : CR b0 b1 b2 refused) (a1 a2 : Int32) : ∃ r c0 c1 c2 ys yn rs rf R' st nw pa re, f_X5_rule fu b0 b1 b2 yhs yhn estm eszo esrs esrf esks eskf esfs esff esas esaf espf estf R a1 a2 = some (r, c0, c1, c2, ys, yn, rs, rf, R') ∧ f_X6_rule fu states now past refused a1 a2 = some (r, st, nw, pa, re) ∧ SR (pk12 estm eszo rs rf esks eskf esfs esff esas esaf espf estf) nw ∧ HR R' ys yn st pa ∧ CR c0 c1 c2 re := by
  obtain ⟨ys, yn, R', st, pa, e1, e2, e3⟩ := rem_step hf hs hh
  have hs0 := hs
  obtain ⟨p0, ⟨n, p1, p2, p3, p4, p5⟩, ⟨nk, h2⟩, ⟨nf, h3⟩, ⟨na, h4⟩, h5⟩ := hs
  obtain rfl : esrs = nI n := p2
  unfold f_X5_rule f_X6_rule
  have hz : zok 32 401 = true := by decide
  rw [if_pos hz, tn32, p3]
  simp only [f_X3_size, f_within, f_in, bs, f_failsB, f_bad, f_isFullR p1, f_failsF, f_full, if_pos hz]
  cases hz1 : zin a1 0 (nI n) with
  | false =>
    rw [iteF, iteF]
    exact ⟨_, _, _, _, _, _, _, _, _, _, _, _, _, rfl, rfl, hs0, hh, hc.bad⟩
  | true =>
    rw [iteT, iteT]
    cases hz2 : zin a2 0 2 with
    | false =>
      rw [iteF, iteF]
      exact ⟨_, _, _, _, _, _, _, _, _, _, _, _, _, rfl, rfl, hs0, hh, hc.bad⟩
    | true =>
      obtain ⟨p, hp, rfl⟩ := zin_nat (by omega) hz1
      obtain ⟨a, ha, rfl⟩ := zin_nat (n := 2) (by decide) hz2
      rw [iteT, iteT]
      by_cases h12 : n = 12
      · rw [decide_eq_true h12, iteT, if_pos (show nI n = 12 by rw [h12]; rfl)]
        exact ⟨_, _, _, _, _, _, _, _, _, _, _, _, _, rfl, rfl, hs0, hh, hc.full⟩
      · rw [decide_eq_false h12, iteF, if_neg (show ¬ nI n = 12 by rw [q12, nI_eq (by omega) (by decide)]; exact h12), e1, e2, bs, bs, f_anyRule hp (by omega) hf, f_makesRoom p3 hp (by omega) hf, bs, bs, q33, q11, pk_mul, nI_add, f_begins hf (by omega) (by decide), bs, rowP_out (k := 32) (by omega), pk_us]
        refine ⟨_, _, _, _, _, _, _, _, _, _, _, _, _, rfl, rfl, ?_, e3, hc⟩
        · refine ⟨ZnR.w p0 (fun k hk => ?_), ⟨n + 1, by omega, rfl, ?_, fun k hk => ?_, fun x hx => ?_⟩, ⟨nk, KeR.w h2 (fun k h1 h2 => ?_)⟩, ⟨nf, FlR.w h3 (fun k h1 h2 => ?_)⟩, ⟨na, AnR.w h4 (fun k h1 h2 => ?_)⟩, ScR.w h5 (fun k h1 h2 => ?_)⟩
          · rw [rowP_out (by omega), pk_un (by omega), shr_out (by omega)]
          · rw [rowP_out (by omega), pk_us]
          · show rowP (11 * p) (nI a) (shr (11 * (p + 1)) (11 * (n + 1)) 11 esrf) k = _
            by_cases h2 : 11 * p ≤ k ∧ k < 11 * p + 11
            · rw [rowP_in h2.1 h2.2, rowP_in (by omega) (by omega)]
              exact congrArg _ (by omega)
            · rw [rowP_out (by omega), rowP_out (by omega), pk_un (by omega)]
              by_cases h3 : 11 * (p + 1) ≤ k
              · rw [shr_in h3 hk, shr_in (by omega) (by omega)]
                exact (p4 _ (by omega)).trans (congrArg now (by omega))
              · rw [shr_out (by omega), shr_out (by omega)]
                exact p4 _ (by omega)
          · rcases Nat.lt_trichotomy x p with hxp | hxp | hxp
            · rw [rowP_out (by omega), pk_un (by omega), shr_out (by omega)]
              exact p5 x (by omega)
            · rw [rowP_in (by omega) (by omega), show 33 + 11 * x + 9 - (33 + 11 * p) = 9 by omega]
              exact act_of ha
            · rw [rowP_out (by omega), pk_un (by omega), shr_in (by omega) (by omega), show 33 + 11 * x + 9 - 11 = 33 + 11 * (x - 1) + 9 by omega]
              exact p5 (x - 1) (by omega)
          · rw [rowP_out (by omega), pk_un (by omega), shr_out (by omega)]
          · rw [rowP_out (by omega), pk_un (by omega), shr_out (by omega)]
          · rw [rowP_out (by omega), pk_un (by omega), shr_out (by omega)]
          · rw [rowP_out (by omega), pk_un (by omega), shr_out (by omega)]
theorem gnum : ∀ w, w ≤ 9 → ∃ m, m ≤ 31 ∧ f_X5_greatestNumber (nI w) = some (nI m) ∧ f_X6_mostOf (nI w) = some (nI m) ∧ (w = 9 → m = 2) := by
  intro w hw
  refine c11 (P := fun w => w ≤ 9 → ∃ m, m ≤ 31 ∧ f_X5_greatestNumber (nI w) = some (nI m) ∧ f_X6_mostOf (nI w) = some (nI m) ∧ (w = 9 → m = 2)) ?_ ?_ ?_ ?_ ?_ ?_ ?_ ?_ ?_ ?_ ?_ w (by omega) hw
  · exact fun _ => ⟨6, by decide, by decide, by decide, by decide⟩
  · exact fun _ => ⟨6, by decide, by decide, by decide, by decide⟩
  · exact fun _ => ⟨31, by decide, by decide, by decide, by decide⟩
  · exact fun _ => ⟨31, by decide, by decide, by decide, by decide⟩
  · exact fun _ => ⟨31, by decide, by decide, by decide, by decide⟩
  · exact fun _ => ⟨31, by decide, by decide, by decide, by decide⟩
  · exact fun _ => ⟨15, by decide, by decide, by decide, by decide⟩
  · exact fun _ => ⟨15, by decide, by decide, by decide, by decide⟩
  · exact fun _ => ⟨2, by decide, by decide, by decide, by decide⟩
  · exact fun _ => ⟨2, by decide, by decide, by decide, by decide⟩
  · exact fun h => absurd h (by decide)
theorem s_sets (hf : 2000 < fu) (hs : SR (pk12 estm eszo esrs esrf esks eskf esfs esff esas esaf espf estf) now) (hh : HR R yhs yhn states past) (hc : CR b0 b1 b2 refused) (a1 a2 a3 : Int32) : ∃ r c0 c1 c2 ys yn rf R' st nw pa re, f_X5_sets b0 b1 b2 yhs yhn estm eszo esrs esrf esks eskf esfs esff esas esaf espf estf R a1 a2 a3 = some (r, c0, c1, c2, ys, yn, rf, R') ∧ f_X6_sets fu states now past refused a1 a2 a3 = some (r, st, nw, pa, re) ∧ SR (pk12 estm eszo esrs rf esks eskf esfs esff esas esaf espf estf) nw ∧ HR R' ys yn st pa ∧ CR c0 c1 c2 re := by
  obtain ⟨ys, yn, R', st, pa, e1, e2, e3⟩ := rem_step hf hs hh
  have hs0 := hs
  obtain ⟨p0, ⟨n, p1, p2, p3, p4, p5⟩, ⟨nk, h2⟩, ⟨nf, h3⟩, ⟨na, h4⟩, h5⟩ := hs
  obtain rfl : esrs = nI n := p2
  unfold f_X5_sets f_X6_sets
  simp only [f_isRuleC, f_isRuleM p3, f_within, f_in, bs, f_failsB, f_bad]
  cases hz1 : zin a1 0 (nI n - 1) with
  | false =>
    rw [iteF, iteF]
    exact ⟨_, _, _, _, _, _, _, _, _, _, _, _, rfl, rfl, hs0, hh, hc.bad⟩
  | true =>
    rw [iteT, iteT]
    cases hz2 : zin a2 0 9 with
    | false =>
      rw [iteF, iteF]
      exact ⟨_, _, _, _, _, _, _, _, _, _, _, _, rfl, rfl, hs0, hh, hc.bad⟩
    | true =>
      obtain ⟨r, hr, rfl⟩ := zin_m1 (by omega) hz1
      obtain ⟨w, hw, rfl⟩ := zin_nat (n := 9) (by decide) hz2
      obtain ⟨m, hm, g1, g2, g3⟩ := gnum w hw
      rw [iteT, iteT, g1, g2, bs, bs]
      cases hz3 : zin a3 0 (nI m) with
      | false =>
        rw [iteF, iteF]
        exact ⟨_, _, _, _, _, _, _, _, _, _, _, _, rfl, rfl, hs0, hh, hc.bad⟩
      | true =>
        obtain ⟨v, hv, rfl⟩ := zin_nat (by omega) hz3
        rw [iteT, iteT, e1, e2, bs, bs, get11 hr (by omega) p1, put11 hr (by omega) p1, bs, bs, q33, q11, ix3, if_pos (zok_nI (by omega) (by decide)), if_pos (zok_nI (by omega) (by decide)), nI_clamp (by omega), show esrf (r * 11 + w) = now (33 + 11 * r + w) from (p4 (r * 11 + w) (by omega)).trans (congrArg now (by omega))]
        refine ⟨_, _, _, _, _, _, _, _, _, _, _, _, rfl, rfl, ?_, e3, hc⟩
        · refine ⟨ZnR.w p0 (fun k hk => ?_), ⟨n, p1, rfl, ?_, fun k hk => ?_, fun x hx => ?_⟩, ⟨nk, KeR.w h2 (fun k h1 h2 => ?_)⟩, ⟨nf, FlR.w h3 (fun k h1 h2 => ?_)⟩, ⟨na, AnR.w h4 (fun k h1 h2 => ?_)⟩, ScR.w h5 (fun k h1 h2 => ?_)⟩
          · rw [pk_un (by omega)]
          · rw [pk_un (by omega)]; exact p3
          · show upd esrf (r * 11 + w) (nI v) k = _
            by_cases hk2 : k = r * 11 + w
            · rw [hk2, pk_us, show 33 + (r * 11 + w) = 33 + 11 * r + w by omega, pk_us]
            · rw [pk_un hk2, pk_un (by omega)]
              exact p4 k hk
          · by_cases hx2 : 33 + 11 * x + 9 = 33 + 11 * r + w
            · rw [hx2, pk_us]
              exact act_of (by omega)
            · rw [pk_un hx2]
              exact p5 x hx
          · rw [pk_un (by omega)]
          · rw [pk_un (by omega)]
          · rw [pk_un (by omega)]
          · rw [pk_un (by omega)]
end P4
