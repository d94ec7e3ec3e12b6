theorem loopF2 {T : Type} {L : Nat → Int32 → Option T} (p : Nat → Bool) {N : Nat} (X : Nat → Option T) {Z : Option T} (hs : ∀ n i, i < N → p i = false → L (n + 1) (nI i) = L n (nI (i + 1))) (hx : ∀ n i, i < N → p i = true → L (n + 2) (nI i) = X i) (he : ∀ n, L (n + 1) (nI N) = Z) : ∀ (m i n : Nat), i + m = N → m + 1 < n → L n (nI i) = (match fst1 p m i with | some j => X j | none => Z) := by
  intro m
  induction m with
  | zero =>
    intro i n hi hn
    obtain ⟨n, rfl⟩ : ∃ m, n = m + 1 := ⟨n - 1, by omega⟩
    obtain rfl : i = N := by omega
    exact he n
  | succ m ih =>
    intro i n hi hn
    obtain ⟨n, rfl⟩ : ∃ m, n = m + 2 := ⟨n - 2, by omega⟩
    unfold fst1
    cases hp : p i with
    | false =>
      rw [hs (n + 1) i (by omega) hp, ih (i + 1) (n + 1) (by omega) (by omega)]
      rfl
    | true =>
      rw [hx n i (by omega) hp]
      rfl
theorem cst {p : Nat → Bool} {i : Nat} (h : p i = true) : nI (cnt p i) + 1 = nI (cnt p (i + 1)) := by
  rw [nI_1]
  show nI (cnt p i + 1) = nI (cnt p i + if p i then 1 else 0)
  rw [if_pos h]
theorem csf {p : Nat → Bool} {i : Nat} (h : p i = false) : nI (cnt p i) + 0 = nI (cnt p (i + 1)) := by
  rw [Int32.add_zero]
  show nI (cnt p i) = nI (cnt p i + if p i then 1 else 0)
  rw [h]
  rfl
theorem fitC_c {g g' zo zo' : Nat → Int32} {n c r : Nat} (h : ∀ k, k < 11 * n → g k = g' k) (hz : ∀ a, a < 32 → zo a = zo' a) (hc : c < 32768) (hr : r < n) : fitC g zo c r = fitC g' zo' c r := fitA_c h hz (by omega) (by omega) hr
theorem decC_c {g g' zo zo' : Nat → Int32} {n c : Nat} (h : ∀ k, k < 11 * n → g k = g' k) (hz : ∀ a, a < 32 → zo a = zo' a) (hc : c < 32768) : decC g zo n c = decC g' zo' n c := dec_c h hz (by omega) (by omega)
theorem acnC_c {g g' zo zo' : Nat → Int32} {n c : Nat} (h : ∀ k, k < 11 * n → g k = g' k) (hz : ∀ a, a < 32 → zo a = zo' a) (hc : c < 32768) : acn g (decC g zo n c) = acn g' (decC g' zo' n c) := by
  rw [← decC_c h hz hc]
  exact acn_c h
theorem decX_c {g g' zo zo' : Nat → Int32} {n r c : Nat} (h : ∀ k, k < 11 * n → g k = g' k) (hz : ∀ a, a < 32 → zo a = zo' a) (hc : c < 32768) : acn g (decX g zo n r c) = acn g' (decX g' zo' n r c) := by
  have e : decX g zo n r c = decX g' zo' n r c := fst1_congr (fun k _ hk => by rw [fitC_c h hz hc (by omega)])
  rw [← e]
  cases hd : decX g zo n r c with
  | none => rfl
  | some j =>
    have := fst1_some hd
    exact h _ (by omega)
theorem oI_eq {o : Option Nat} {r : Nat} (hr : r < 2 ^ 31) (ho : ∀ j, o = some j → j < 2 ^ 31) : oI o = nI r ↔ o = some r := by
  cases o with
  | none => exact ⟨fun h => absurd h.symm (oI_ne hr), fun h => by cases h⟩
  | some j =>
    show nI j = nI r ↔ some j = some r
    rw [nI_eq (ho j rfl) hr]
    exact ⟨fun h => by rw [h], fun h => by cases h; rfl⟩
theorem decC_lt {g zo : Nat → Int32} {n c r : Nat} (h : decC g zo n c = some r) : r < n := dec_lt h
theorem oI_dec {g zo : Nat → Int32} {n c r : Nat} (hn : n ≤ 12) (hr : r < n) : oI (decC g zo n c) = nI r ↔ decC g zo n c = some r := oI_eq (by omega) (fun j hj => by have := decC_lt hj; omega)
theorem tbS {g w : Nat → Int32} {S : Int32} {n c r : Nat} (hn : n ≤ 12) (hr : r < n) (h : ∀ q, q < 32 → tb S q = (decide (q < n) && fitC g w c q)) : tb S r = fitC g w c r := by
  rw [h r (by omega), decide_eq_true hr, Bool.true_and]
theorem f_countD {fu n r : Nat} {fi w : Nat → Int32} {p : Nat → Bool} (hf : 40000 < fu) (h32 : w 32 = nI n) (hn : n ≤ 12) (hr : r < n) (hp : ∀ c, c < 32768 → p c = decide (decC (fun j => w (33 + j)) w n c = some r)) : ∃ fi', f_X6_countCases fu w fi (nI r) 1 = some (nI (cnt p 32768), fi') := by
  obtain ⟨fi', e1, e2, -⟩ := f_findsNow (fu := fu) (fi := fi) h32 hn (by omega)
  unfold f_X6_countCases
  rw [e1, bs]
  refine ⟨fi', ?_⟩
  refine loopU0 (L := fun m i s => f_X6_countCases_L9 fu (fun (x1 : Int32) (x2 : Int32) => some (x1, fi')) (nI r) 1 fi' m s i) (fun i => nI (cnt p i)) (N := 32768) 0 rfl (by omega) (by omega) ?_ ?_
  · intro m i _ hi
    show f_X6_countCases_L9 fu _ (nI r) 1 fi' (m + 1) _ (nI i) = f_X6_countCases_L9 fu _ (nI r) 1 fi' m _ (nI (i + 1))
    obtain ⟨S, g1, g2⟩ := f_fits (c := i) e2 (by omega) hi
    rw [f_X6_countCases_L9, if_neg (show ¬ (32768 : Int32) ≤ nI i by rw [q32768]; exact nI_ge (by omega) (by decide)), show f_X6_fits fi' 0 (nI i) = some S from g1, bs, shr1 (by omega), nI_1 i, if_neg (show ¬ (1 : Int32) = 0 by decide), f_decC (by omega) hn g2, bs, tbS hn hr g2]
    by_cases hd : decC (fun j => w (33 + j)) w n i = some r
    · have hb : fitC (fun j => w (33 + j)) w i r = true := by
        have h4 : fst1 (fitC (fun j => w (33 + j)) w i) n 0 = some r := hd
        exact (fst1_some h4).2.2.1
      rw [hb, if_pos (by decide), if_pos ((oI_dec hn hr).mpr hd), cst ((hp i hi).trans (decide_eq_true hd))]
    · have hq : p i = false := (hp i hi).trans (decide_eq_false hd)
      rw [if_neg (fun h => hd ((oI_dec hn hr).mp h)), csf hq]
      cases fitC (fun j => w (33 + j)) w i r with
      | false => rw [if_neg (by decide)]
      | true => rw [if_pos (by decide)]
  · intro m
    show f_X6_countCases_L9 fu _ (nI r) 1 fi' (m + 1) _ (nI 32768) = _
    rw [f_X6_countCases_L9, if_pos (by decide)]
theorem f_countF {fu n r : Nat} {fi w : Nat → Int32} {p : Nat → Bool} (hf : 40000 < fu) (h32 : w 32 = nI n) (hn : n ≤ 12) (hr : r < n) (hp : ∀ c, c < 32768 → p c = fitC (fun j => w (33 + j)) w c r) : ∃ fi', f_X6_countCases fu w fi (nI r) 0 = some (nI (cnt p 32768), fi') := by
  obtain ⟨fi', e1, e2, -⟩ := f_findsNow (fu := fu) (fi := fi) h32 hn (by omega)
  unfold f_X6_countCases
  rw [e1, bs]
  refine ⟨fi', ?_⟩
  refine loopU0 (L := fun m i s => f_X6_countCases_L9 fu (fun (x1 : Int32) (x2 : Int32) => some (x1, fi')) (nI r) 0 fi' m s i) (fun i => nI (cnt p i)) (N := 32768) 0 rfl (by omega) (by omega) ?_ ?_
  · intro m i _ hi
    show f_X6_countCases_L9 fu _ (nI r) 0 fi' (m + 1) _ (nI i) = f_X6_countCases_L9 fu _ (nI r) 0 fi' m _ (nI (i + 1))
    obtain ⟨S, g1, g2⟩ := f_fits (c := i) e2 (by omega) hi
    rw [f_X6_countCases_L9, if_neg (show ¬ (32768 : Int32) ≤ nI i by rw [q32768]; exact nI_ge (by omega) (by decide)), show f_X6_fits fi' 0 (nI i) = some S from g1, bs, shr1 (by omega), nI_1 i, if_pos (show (0 : Int32) = 0 from rfl), tbS hn hr g2]
    cases hb : fitC (fun j => w (33 + j)) w i r with
    | false => rw [if_neg (by decide), csf ((hp i hi).trans hb)]
    | true => rw [if_pos (by decide), cst ((hp i hi).trans hb)]
  · intro m
    show f_X6_countCases_L9 fu _ (nI r) 0 fi' (m + 1) _ (nI 32768) = _
    rw [f_X6_countCases_L9, if_pos (by decide)]
theorem decX_ne {g zo : Nat → Int32} {n r c : Nat} (h : ¬ decC g zo n c = some r) : decX g zo n r c = decC g zo n c := by
  have e : decC g zo n c = fst1 (fitC g zo c) n 0 := rfl
  rw [e] at h ⊢
  unfold decX
  cases hd : fst1 (fitC g zo c) n 0 with
  | none => exact fst1_no (fun k h1 h2 => by rw [fst1_none hd k h1 h2, Bool.and_false])
  | some j =>
    obtain ⟨a1, a2, a3, a4⟩ := fst1_some hd
    refine fst1_eq a1 a2 ?_ (fun k h1 h2 => by rw [a4 k h1 h2, Bool.and_false])
    have hj : ¬ j = r := fun hj => h (by rw [hd, hj])
    rw [a3, decide_eq_false hj]
    rfl
theorem f_isIdleM {fu n r : Nat} {fi w : Nat → Int32} {p : Nat → Bool} (hf : 40000 < fu) (h32 : w 32 = nI n) (hn : n ≤ 12) (hr : r < n) (hp : ∀ c, c < 32768 → p c = decide (acn (fun j => w (33 + j)) (decC (fun j => w (33 + j)) w n c) ≠ acn (fun j => w (33 + j)) (decX (fun j => w (33 + j)) w n r c))) : ∃ fi', f_X6_isIdle fu w fi (nI r) = some ((fst1 p 32768 0).isNone, fi') := by
  obtain ⟨fi', e1, e2, -⟩ := f_findsNow (fu := fu) (fi := fi) h32 hn (by omega)
  unfold f_X6_isIdle
  rw [e1, bs]
  refine ⟨fi', ?_⟩
  have hS : ∀ i, i < 32768 → ∃ S, f_X6_fits fi' 0 (nI i) = some S ∧ f_X6_firstOf fu S = some (oI (decC (fun j => w (33 + j)) w n i)) ∧ f_X6_actionBy fu w 33 S = some (acn (fun j => w (33 + j)) (decC (fun j => w (33 + j)) w n i)) ∧ f_X6_actionBy fu w 33 (S &&& ((1 <<< (nI r &&& 31)) ^^^ (-1))) = some (acn (fun j => w (33 + j)) (decX (fun j => w (33 + j)) w n r i)) := by
    intro i hi
    obtain ⟨S, g1, g2⟩ := f_fits (c := i) e2 (by omega) hi
    refine ⟨S, g1, f_decC (by omega) hn g2, f_actC (base := 33) (by omega) (by omega) hn g2, ?_⟩
    refine (f_actionBy (base := 33) (by omega) (by omega)).trans ?_
    refine congrArg some (congrArg (acn (fun j => w (33 + j))) (fst1_le hn (fun k hk => ?_)))
    rw [tb_and, tb_not (by omega), tb_one r k (by omega) (by omega), g2 k (by omega)]
    cases decide (k < n) <;> cases decide (k = r) <;> cases fitC (fun j => w (33 + j)) w i k <;> rfl
  have hl := loopF2 (L := fun m i => f_X6_isIdle_L8 fu (fun (x1 : Bool) (x2 : Int32) => some (x1, fi')) (nI r) w fi' m true i) p (N := 32768) (fun _ => some (false, fi')) (Z := some (true, fi')) (fun m i hi hq => by
    obtain ⟨S, g1, g2, g3, g4⟩ := hS i hi
    show f_X6_isIdle_L8 fu _ (nI r) w fi' (m + 1) true (nI i) = f_X6_isIdle_L8 fu _ (nI r) w fi' m true (nI (i + 1))
    rw [f_X6_isIdle_L8, if_neg (show ¬ (32768 : Int32) ≤ nI i by rw [q32768]; exact nI_ge (by omega) (by decide)), iteT, g1, bs, g2, bs, nI_1 i]
    by_cases hd : decC (fun j => w (33 + j)) w n i = some r
    · have he : acn (fun j => w (33 + j)) (decC (fun j => w (33 + j)) w n i) = acn (fun j => w (33 + j)) (decX (fun j => w (33 + j)) w n r i) := by
        have h5 := (hp i hi).symm.trans hq
        exact Decidable.of_not_not (of_decide_eq_false h5)
      rw [if_pos ((oI_dec hn hr).mpr hd), g3, bs, g4, bs, if_pos he]
    · rw [if_neg (fun h => hd ((oI_dec hn hr).mp h))]) (fun m i hi hq => by
    obtain ⟨S, g1, g2, g3, g4⟩ := hS i hi
    have hne : acn (fun j => w (33 + j)) (decC (fun j => w (33 + j)) w n i) ≠ acn (fun j => w (33 + j)) (decX (fun j => w (33 + j)) w n r i) := of_decide_eq_true ((hp i hi).symm.trans hq)
    have hd : decC (fun j => w (33 + j)) w n i = some r := by
      refine Decidable.of_not_not (fun hd => hne ?_)
      rw [decX_ne hd]
    show f_X6_isIdle_L8 fu _ (nI r) w fi' (m + 2) true (nI i) = _
    rw [f_X6_isIdle_L8, if_neg (show ¬ (32768 : Int32) ≤ nI i by rw [q32768]; exact nI_ge (by omega) (by decide)), iteT, g1, bs, g2, bs, nI_1 i, if_pos ((oI_dec hn hr).mpr hd), g3, bs, g4, bs, if_neg hne, f_X6_isIdle_L8, iteF]
    exact ite_self _) (fun m => by
    show f_X6_isIdle_L8 fu _ (nI r) w fi' (m + 1) true (nI 32768) = _
    rw [f_X6_isIdle_L8, if_pos (by decide)]) 32768 0 fu (by omega) (by omega)
  refine hl.trans ?_
  cases fst1 p 32768 0 <;> rfl
theorem bothI {S : Int32} {q r : Nat} (hq : q < 32) (hr : r < 32) : (S &&& ((1 <<< (nI q &&& 31)) ||| (1 <<< (nI r &&& 31)))) = ((1 <<< (nI q &&& 31)) ||| (1 <<< (nI r &&& 31))) ↔ (tb S q && tb S r) = true := by
  constructor
  · intro h
    have e : ∀ k, k < 32 → (tb S k && (decide (k = q) || decide (k = r))) = (decide (k = q) || decide (k = r)) := by
      intro k hk
      have := congrArg (fun x => tb x k) h
      rw [tb_and, tb_or, tb_one q k hq hk, tb_one r k hr hk] at this
      exact this
    have e1 := e q hq
    have e2 := e r hr
    rw [decide_eq_true (rfl : q = q), Bool.true_or, Bool.and_true] at e1
    rw [decide_eq_true (rfl : r = r), Bool.or_true, Bool.and_true] at e2
    rw [e1, e2]
    rfl
  · intro h
    obtain ⟨h1, h2⟩ := Bool.and_eq_true_iff.mp h
    refine tb_ext (fun k hk => ?_)
    rw [tb_and, tb_or, tb_one q k hq hk, tb_one r k hr hk]
    by_cases hkq : k = q
    · rw [hkq, h1, Bool.true_and]
    · by_cases hkr : k = r
      · rw [hkr, h2, Bool.true_and]
      · rw [decide_eq_false hkq, decide_eq_false hkr, Bool.or_false, Bool.and_false]
section P44
variable {fu : Nat} {b0 b1 b2 yhs yhn states : Int32} {estm : Int32} {eszo : Nat → Int32} {esrs : Int32} {esrf : Nat → Int32} {esks : Int32} {eskf : Nat → Int32} {esfs : Int32} {esff : Nat → Int32} {esas : Int32} {esaf espf estf : Nat → Int32} {R : Nat → Nat → Nat → Int32} {now past refused : Nat → Int32}
variable {gpsz gpsn gpal gpre gqsz gqsn gqal gqre : Int32} {gpfa gpfb gpfc gpfd gqfa gqfb gqfc gqfd fi : Nat → Int32}
theorem s_cases (hf : 40000 < fu) (hs : SR (pk12 estm eszo esrs esrf esks eskf esfs esff esas esaf espf estf) now) (hc : CR b0 b1 b2 refused) (a1 a2 : Int32) : ∃ r c0 c1 c2 sz sn al re fa fb fc fd fi' rf, f_X5_cases fu b0 b1 b2 eszo esrs esrf gpsz gpsn gpal gpre gpfa gpfb gpfc gpfd a1 a2 = some (r, c0, c1, c2, sz, sn, al, re, fa, fb, fc, fd) ∧ f_X6_cases fu now fi refused a1 a2 = some (r, fi', rf) ∧ CR c0 c1 c2 rf := by
  obtain ⟨p0, ⟨n, p1, p2, p3, p4, p5⟩, -⟩ := hs
  obtain rfl : esrs = nI n := p2
  have p4' : ∀ k, k < 11 * n → esrf k = (fun j => now (33 + j)) k := p4
  have p0' : ∀ a, a < 32 → eszo a = now a := p0
  unfold f_X5_cases f_X6_cases
  rw [f_isRuleC, f_isRuleM p3, bs, bs]
  cases h1 : zin a1 0 (nI n - 1) with
  | false =>
    rw [iteF, iteF, f_failsB, f_bad]
    exact ⟨_, _, _, _, _, _, _, _, _, _, _, _, _, _, rfl, rfl, hc.bad⟩
  | true =>
    rw [iteT, iteT, f_within, f_in, bs, bs]
    cases h2 : zin a2 0 1 with
    | false =>
      rw [iteF, iteF, f_failsB, f_bad]
      exact ⟨_, _, _, _, _, _, _, _, _, _, _, _, _, _, rfl, rfl, hc.bad⟩
    | true =>
      obtain ⟨r, hr, rfl⟩ := zin_m1 (by omega) h1
      obtain ⟨w, hw, rfl⟩ := zin_nat (n := 1) (by decide) h2
      obtain ⟨A, B, C, D, d1, d2⟩ := f_draw (fu := fu) (fa := gpfa) (fb := gpfb) (fc := gpfc) (fd := gpfd) (tf := esrf) (zo := eszo) (by omega) p1
      rw [iteT, iteT, d1, bs]
      dsimp only
      have hw2 : w = 0 ∨ w = 1 := by omega
      rcases hw2 with rfl | rfl
      · obtain ⟨fi', m1⟩ := f_countD (fu := fu) (fi := fi) (p := fun c => decide (decC esrf eszo n c = some r)) hf p3 p1 hr (fun c hc => by rw [decC_c p4' p0' hc])
        rw [if_pos (show nI 0 = 0 from rfl), if_pos (show nI 0 = 0 from rfl), f_casesDecided (by omega) d2 p1 hr, bs, m1, bs]
        exact ⟨_, _, _, _, _, _, _, _, _, _, _, _, _, _, rfl, rfl, hc⟩
      · obtain ⟨fi', m1⟩ := f_countF (fu := fu) (fi := fi) (p := fun c => fitC esrf eszo c r && fitC esrf eszo c r) hf p3 p1 hr (fun c hc => by rw [Bool.and_self, fitC_c p4' p0' hc hr])
        rw [if_neg (show ¬ nI 1 = 0 by decide), if_neg (show ¬ nI 1 = 0 by decide), f_casesFitting (by omega) d2 p1 hr hr, bs, m1, bs]
        exact ⟨_, _, _, _, _, _, _, _, _, _, _, _, _, _, rfl, rfl, hc⟩
theorem s_idle (hf : 40000 < fu) (hs : SR (pk12 estm eszo esrs esrf esks eskf esfs esff esas esaf espf estf) now) (hc : CR b0 b1 b2 refused) (a1 a2 : Int32) : ∃ r c0 c1 c2 sz sn al re fa fb fc fd tz tn ta tr ga gb gc gd fi' rf, f_X5_idle fu b0 b1 b2 eszo esrs esrf gpsz gpsn gpal gpre gpfa gpfb gpfc gpfd gqsz gqsn gqal gqre gqfa gqfb gqfc gqfd a1 a2 = some (r, c0, c1, c2, sz, sn, al, re, fa, fb, fc, fd, tz, tn, ta, tr, ga, gb, gc, gd) ∧ f_X6_idle fu now fi refused a1 a2 = some (r, fi', rf) ∧ CR c0 c1 c2 rf := by
  obtain ⟨p0, ⟨n, p1, p2, p3, p4, p5⟩, -⟩ := hs
  obtain rfl : esrs = nI n := p2
  have p4' : ∀ k, k < 11 * n → esrf k = (fun j => now (33 + j)) k := p4
  have p0' : ∀ a, a < 32 → eszo a = now a := p0
  unfold f_X5_idle f_X6_idle
  rw [f_isRuleC, f_isRuleM p3, bs, bs]
  cases h1 : zin a1 0 (nI n - 1) with
  | false =>
    rw [iteF, iteF, f_failsB, f_bad]
    exact ⟨_, _, _, _, _, _, _, _, _, _, _, _, _, _, _, _, _, _, _, _, _, _, rfl, rfl, hc.bad⟩
  | true =>
    rw [iteT, iteT, f_within, f_in, bs, bs]
    cases h2 : zin a2 0 1 with
    | false =>
      rw [iteF, iteF, f_failsB, f_bad]
      exact ⟨_, _, _, _, _, _, _, _, _, _, _, _, _, _, _, _, _, _, _, _, _, _, rfl, rfl, hc.bad⟩
    | true =>
      obtain ⟨r, hr, rfl⟩ := zin_m1 (by omega) h1
      obtain ⟨w, hw, rfl⟩ := zin_nat (n := 1) (by decide) h2
      obtain ⟨A, B, C, D, d1, d2⟩ := f_draw (fu := fu) (fa := gpfa) (fb := gpfb) (fc := gpfc) (fd := gpfd) (tf := esrf) (zo := eszo) (by omega) p1
      rw [iteT, iteT, d1, bs]
      dsimp only
      have hw2 : w = 0 ∨ w = 1 := by omega
      rcases hw2 with rfl | rfl
      · obtain ⟨fi', m1⟩ := f_countD (fu := fu) (fi := fi) (p := fun c => decide (decC esrf eszo n c = some r)) hf p3 p1 hr (fun c hc => by rw [decC_c p4' p0' hc])
        rw [if_pos (show nI 0 = 0 from rfl), if_pos (show nI 0 = 0 from rfl), f_casesDecided (by omega) d2 p1 hr, bs, m1, bs]
        dsimp only
        by_cases hz : nI (cnt (fun c => decide (decC esrf eszo n c = some r)) 32768) = 0
        · rw [if_pos hz, if_pos hz]
          exact ⟨_, _, _, _, _, _, _, _, _, _, _, _, _, _, _, _, _, _, _, _, _, _, rfl, rfl, hc⟩
        · rw [if_neg hz, if_neg hz]
          exact ⟨_, _, _, _, _, _, _, _, _, _, _, _, _, _, _, _, _, _, _, _, _, _, rfl, rfl, hc⟩
      · obtain ⟨A2, B2, C2, D2, d3, d4⟩ := f_draw (fu := fu) (fa := gqfa) (fb := gqfb) (fc := gqfc) (fd := gqfd) (tf := esrf) (zo := eszo) (by omega) p1
        have hD : ∀ k, k < n → act (D k) := fun k hk => by
          rw [d2.2.2.2 k hk, p4' _ (by omega)]
          have := p5 k hk
          rw [show 33 + 11 * k + 9 = 33 + (11 * k + 9) by omega] at this
          exact this
        have hD2 : ∀ k, k < n → act (D2 k) := fun k hk => by
          rw [d4.2.2.2 k hk, ← d2.2.2.2 k hk]
          exact hD k hk
        obtain ⟨rr, x1, x2, x3, x4, x5, x6, g1, g2⟩ := f_firstDifference (fu := fu) (n := n) (n2 := n) (A := A) (B := B) (C := C) (D := D) (A2 := A2) (B2 := B2) (C2 := upd C2 r 0) (D2 := D2) (p := fun c => decide (acn esrf (decC esrf eszo n c) ≠ acn esrf (decX esrf eszo n r c))) (by omega) p1 p1 hD hD2 (fun s d k h1 h2 h3 => by rw [pa_dec d2 p1 h1 h2 h3, pa_decX d4 p1 h1 h2 h3])
        obtain ⟨fi', m1⟩ := f_isIdleM (fu := fu) (fi := fi) (p := fun c => decide (acn esrf (decC esrf eszo n c) ≠ acn esrf (decX esrf eszo n r c))) hf p3 p1 hr (fun c hc => by rw [acnC_c p4' p0' hc, decX_c p4' p0' hc])
        rw [if_neg (show ¬ nI 1 = 0 by decide), if_neg (show ¬ nI 1 = 0 by decide), d3, bs]
        dsimp only
        rw [f_silence (by omega), bs]
        dsimp only
        rw [g1, bs, m1, bs]
        dsimp only
        rcases g2 with ⟨c, c1, c2, c3⟩ | ⟨c1, c2⟩
        · rw [c3, c2, if_neg (oI_ne (by omega)), if_pos (show zB (some c).isNone = 0 from rfl)]
          exact ⟨_, _, _, _, _, _, _, _, _, _, _, _, _, _, _, _, _, _, _, _, _, _, rfl, rfl, hc⟩
        · rw [c2, c1, if_pos rfl, if_neg (show ¬ zB (none : Option Nat).isNone = 0 by decide)]
          exact ⟨_, _, _, _, _, _, _, _, _, _, _, _, _, _, _, _, _, _, _, _, _, _, rfl, rfl, hc⟩
theorem s_contradicts (hf : 40000 < fu) (hs : SR (pk12 estm eszo esrs esrf esks eskf esfs esff esas esaf espf estf) now) (hc : CR b0 b1 b2 refused) (a1 a2 : Int32) : ∃ r c0 c1 c2 sz sn al re fa fb fc fd fi' rf, f_X5_contradicts fu b0 b1 b2 eszo esrs esrf gpsz gpsn gpal gpre gpfa gpfb gpfc gpfd a1 a2 = some (r, c0, c1, c2, sz, sn, al, re, fa, fb, fc, fd) ∧ f_X6_contradicts fu now fi refused a1 a2 = some (r, fi', rf) ∧ CR c0 c1 c2 rf := by
  obtain ⟨p0, ⟨n, p1, p2, p3, p4, p5⟩, -⟩ := hs
  obtain rfl : esrs = nI n := p2
  have p4' : ∀ k, k < 11 * n → esrf k = (fun j => now (33 + j)) k := p4
  have p0' : ∀ a, a < 32 → eszo a = now a := p0
  unfold f_X5_contradicts f_X6_contradicts
  rw [f_isRuleC, f_isRuleM p3, bs, bs]
  cases h1 : zin a1 0 (nI n - 1) with
  | false =>
    rw [iteF, iteF, f_failsB, f_bad]
    exact ⟨_, _, _, _, _, _, _, _, _, _, _, _, _, _, rfl, rfl, hc.bad⟩
  | true =>
    rw [iteT, iteT, f_isRuleC, f_isRuleM p3, bs, bs]
    cases h2 : zin a2 0 (nI n - 1) with
    | false =>
      rw [iteF, iteF, f_failsB, f_bad]
      exact ⟨_, _, _, _, _, _, _, _, _, _, _, _, _, _, rfl, rfl, hc.bad⟩
    | true =>
      rw [iteT, iteT]
      by_cases h3 : a1 = a2
      · rw [if_pos h3, if_pos h3, f_failsB, f_bad]
        exact ⟨_, _, _, _, _, _, _, _, _, _, _, _, _, _, rfl, rfl, hc.bad⟩
      · obtain ⟨q, hq, rfl⟩ := zin_m1 (by omega) h1
        obtain ⟨r, hr, rfl⟩ := zin_m1 (by omega) h2
        have e1 : esrf (q * 11 + 9) = now (33 + 11 * q + 9) := (p4' _ (by omega)).trans (congrArg now (by omega))
        have e2 : esrf (r * 11 + 9) = now (33 + 11 * r + 9) := (p4' _ (by omega)).trans (congrArg now (by omega))
        rw [if_neg h3, if_neg h3, show f_X3_get 11 (nI n) 132 esrf (nI q) 9 = some (esrf (q * 11 + 9)) from get11 (c := 9) hq (by omega) p1, show f_X3_get 11 (nI n) 132 esrf (nI r) 9 = some (esrf (r * 11 + 9)) from get11 (c := 9) hr (by omega) p1, bs, bs, q33, q11, q9, ix3, ix3, if_pos (zok_nI (by omega) (by decide)), if_pos (zok_nI (by omega) (by decide)), nI_clamp (show 33 + 11 * q + 9 < 2 ^ 31 by omega), nI_clamp (show 33 + 11 * r + 9 < 2 ^ 31 by omega), e1, e2]
        by_cases h4 : now (33 + 11 * q + 9) = now (33 + 11 * r + 9)
        · rw [if_pos h4, if_pos h4]
          exact ⟨_, _, _, _, _, _, _, _, _, _, _, _, _, _, rfl, rfl, hc⟩
        · obtain ⟨A, B, C, D, d1, d2⟩ := f_draw (fu := fu) (fa := gpfa) (fb := gpfb) (fc := gpfc) (fd := gpfd) (tf := esrf) (zo := eszo) (by omega) p1
          obtain ⟨fi', g1, g2, -⟩ := f_findsNow (fu := fu) (fi := fi) p3 p1 (by omega)
          have hl : f_X6_contradicts_L79 fu (fun (x1 : Int32) (x2 : Int32) => some (x1, fi', refused)) ((1 <<< (nI q &&& 31)) ||| (1 <<< (nI r &&& 31))) fi' fu 0 0 = some (nI (cnt (fun c => fitC esrf eszo c q && fitC esrf eszo c r) 32768), fi', refused) := by
            refine loopU0 (L := fun m i s => f_X6_contradicts_L79 fu (fun (x1 : Int32) (x2 : Int32) => some (x1, fi', refused)) ((1 <<< (nI q &&& 31)) ||| (1 <<< (nI r &&& 31))) fi' m s i) (fun i => nI (cnt (fun c => fitC esrf eszo c q && fitC esrf eszo c r) i)) (N := 32768) 0 rfl (by omega) (by omega) ?_ ?_
            · intro m i _ hi
              show f_X6_contradicts_L79 fu _ _ fi' (m + 1) _ (nI i) = f_X6_contradicts_L79 fu _ _ fi' m _ (nI (i + 1))
              obtain ⟨S, k1, k2⟩ := f_fits (c := i) g2 (by omega) hi
              have k3 : (tb S q && tb S r) = (fitC esrf eszo i q && fitC esrf eszo i r) := by
                rw [tbS p1 hq k2, tbS p1 hr k2, fitC_c p4' p0' hi hq, fitC_c p4' p0' hi hr]
              rw [f_X6_contradicts_L79, if_neg (show ¬ (32768 : Int32) ≤ nI i by rw [q32768]; exact nI_ge (by omega) (by decide)), show f_X6_fits fi' 0 (nI i) = some S from k1, bs, nI_1 i]
              by_cases hb : (tb S q && tb S r) = true
              · rw [if_pos ((bothI (by omega) (by omega)).mpr hb), cst (p := fun c => fitC esrf eszo c q && fitC esrf eszo c r) (k3.symm.trans hb)]
              · rw [if_neg (fun h => hb ((bothI (by omega) (by omega)).mp h)), csf (p := fun c => fitC esrf eszo c q && fitC esrf eszo c r) (k3.symm.trans (Bool.eq_false_iff.mpr hb))]
            · intro m
              show f_X6_contradicts_L79 fu _ _ fi' (m + 1) _ (nI 32768) = _
              rw [f_X6_contradicts_L79, if_pos (by decide)]
          rw [if_neg h4, if_neg h4, ← q11, d1, bs]
          dsimp only
          rw [f_casesFitting (by omega) d2 p1 hq hr, bs, g1, bs, hl]
          exact ⟨_, _, _, _, _, _, _, _, _, _, _, _, _, _, rfl, rfl, hc⟩
theorem s_all (hf : 40000 < fu) (hs : SR (pk12 estm eszo esrs esrf esks eskf esfs esff esas esaf espf estf) now) (hc : CR b0 b1 b2 refused) (a1 : Int32) : ∃ r c0 c1 c2 sz sn al re fa fb fc fd fi' rf, f_X5_all fu b0 b1 b2 eszo esrs esrf gpsz gpsn gpal gpre gpfa gpfb gpfc gpfd a1 = some (r, c0, c1, c2, sz, sn, al, re, fa, fb, fc, fd) ∧ f_X6_all fu now fi refused a1 = some (r, fi', rf) ∧ CR c0 c1 c2 rf := by
  obtain ⟨p0, ⟨n, p1, p2, p3, p4, p5⟩, -⟩ := hs
  obtain rfl : esrs = nI n := p2
  have p4' : ∀ k, k < 11 * n → esrf k = (fun j => now (33 + j)) k := p4
  have p0' : ∀ a, a < 32 → eszo a = now a := p0
  unfold f_X5_all f_X6_all
  rw [f_within, f_in, bs, bs]
  cases h1 : zin a1 0 2 with
  | false =>
    rw [iteF, iteF, f_failsB, f_bad]
    exact ⟨_, _, _, _, _, _, _, _, _, _, _, _, _, _, rfl, rfl, hc.bad⟩
  | true =>
    obtain ⟨a, ha, rfl⟩ := zin_nat (n := 2) (by decide) h1
    obtain ⟨A, B, C, D, d1, d2⟩ := f_draw (fu := fu) (fa := gpfa) (fb := gpfb) (fc := gpfc) (fd := gpfd) (tf := esrf) (zo := eszo) (by omega) p1
    have hD : ∀ k, k < n → act (D k) := fun k hk => by
      rw [d2.2.2.2 k hk, p4' _ (by omega)]
      have := p5 k hk
      rw [show 33 + 11 * k + 9 = 33 + (11 * k + 9) by omega] at this
      exact this
    obtain ⟨sn, al, re, k1⟩ := f_casesWithAction (fu := fu) (n := n) (a := a) (A := A) (B := B) (C := C) (D := D) (p := fun c => decide (acn esrf (decC esrf eszo n c) = nI a)) (by omega) p1 ha hD (fun s d k h1 h2 h3 => by rw [pa_dec d2 p1 h1 h2 h3])
    obtain ⟨fi', g1, g2, -⟩ := f_findsNow (fu := fu) (fi := fi) p3 p1 (by omega)
    have hl : f_X6_all_L22 fu (fun (x1 : Int32) (x2 : Int32) => some (x1, fi', refused)) (nI a) now fi' fu 0 0 = some (nI (cnt (fun c => decide (acn esrf (decC esrf eszo n c) = nI a)) 32768), fi', refused) := by
      refine loopU0 (L := fun m i s => f_X6_all_L22 fu (fun (x1 : Int32) (x2 : Int32) => some (x1, fi', refused)) (nI a) now fi' m s i) (fun i => nI (cnt (fun c => decide (acn esrf (decC esrf eszo n c) = nI a)) i)) (N := 32768) 0 rfl (by omega) (by omega) ?_ ?_
      · intro m i _ hi
        show f_X6_all_L22 fu _ (nI a) now fi' (m + 1) _ (nI i) = f_X6_all_L22 fu _ (nI a) now fi' m _ (nI (i + 1))
        obtain ⟨S, k1, k2⟩ := f_fits (c := i) g2 (by omega) hi
        rw [f_X6_all_L22, if_neg (show ¬ (32768 : Int32) ≤ nI i by rw [q32768]; exact nI_ge (by omega) (by decide)), show f_X6_fits fi' 0 (nI i) = some S from k1, bs, show f_X6_actionBy fu now 33 S = _ from f_actC (base := 33) (by omega) (by omega) p1 k2, bs, nI_1 i, ← acnC_c p4' p0' hi]
        by_cases hb : acn esrf (decC esrf eszo n i) = nI a
        · rw [if_pos hb, cst (p := fun c => decide (acn esrf (decC esrf eszo n c) = nI a)) (decide_eq_true hb)]
        · rw [if_neg hb, csf (p := fun c => decide (acn esrf (decC esrf eszo n c) = nI a)) (decide_eq_false hb)]
      · intro m
        show f_X6_all_L22 fu _ (nI a) now fi' (m + 1) _ (nI 32768) = _
        rw [f_X6_all_L22, if_pos (by decide)]
    rw [iteT, iteT, d1, bs]
    dsimp only
    rw [k1, bs, g1, bs, hl]
    exact ⟨_, _, _, _, _, _, _, _, _, _, _, _, _, _, rfl, rfl, hc⟩
theorem s_change (hf : 40000 < fu) (hs : SR (pk12 estm eszo esrs esrf esks eskf esfs esff esas esaf espf estf) now) (hc : CR b0 b1 b2 refused) (a1 : Int32) : ∃ r c0 c1 c2 sz sn al re fa fb fc fd tz tn ta tr ga gb gc gd fi' rf, f_X5_change fu b0 b1 b2 eszo esrs esrf esks eskf gpsz gpsn gpal gpre gpfa gpfb gpfc gpfd gqsz gqsn gqal gqre gqfa gqfb gqfc gqfd a1 = some (r, c0, c1, c2, sz, sn, al, re, fa, fb, fc, fd, tz, tn, ta, tr, ga, gb, gc, gd) ∧ f_X6_change fu now fi refused a1 = some (r, fi', rf) ∧ CR c0 c1 c2 rf := by
  obtain ⟨p0, ⟨n, p1, p2, p3, p4, p5⟩, ⟨nk, t1, t2, t3, t4, t5⟩, -⟩ := hs
  obtain rfl : esrs = nI n := p2
  obtain rfl : esks = nI nk := t2
  have p4' : ∀ k, k < 11 * n → esrf k = (fun j => now (33 + j)) k := p4
  have t4' : ∀ k, k < 11 * nk → eskf k = (fun j => now (166 + j)) k := t4
  have p0' : ∀ a, a < 32 → eszo a = now a := p0
  unfold f_X5_change f_X6_change
  rw [f_within, f_in, bs, bs]
  cases h1 : zin a1 0 6 with
  | false =>
    rw [iteF, iteF, f_failsB, f_bad]
    exact ⟨_, _, _, _, _, _, _, _, _, _, _, _, _, _, _, _, _, _, _, _, _, _, rfl, rfl, hc.bad⟩
  | true =>
    obtain ⟨w, hw, rfl⟩ := zin_nat (n := 6) (by decide) h1
    obtain ⟨A, B, C, D, d1, d2⟩ := f_draw (fu := fu) (fa := gpfa) (fb := gpfb) (fc := gpfc) (fd := gpfd) (tf := esrf) (zo := eszo) (by omega) p1
    obtain ⟨A2, B2, C2, D2, d3, d4⟩ := f_draw (fu := fu) (fa := gqfa) (fb := gqfb) (fc := gqfc) (fd := gqfd) (tf := eskf) (zo := eszo) (by omega) t1
    have hD : ∀ k, k < n → act (D k) := fun k hk => by
      rw [d2.2.2.2 k hk, p4' _ (by omega)]
      have := p5 k hk
      rw [show 33 + 11 * k + 9 = 33 + (11 * k + 9) by omega] at this
      exact this
    have hD2 : ∀ k, k < nk → act (D2 k) := fun k hk => by
      rw [d4.2.2.2 k hk, t4' _ (by omega)]
      have := t5 k hk
      rw [show 166 + 11 * k + 9 = 166 + (11 * k + 9) by omega] at this
      exact this
    obtain ⟨f1, g1, g2, g3⟩ := f_findsNow (fu := fu) (fi := fi) p3 p1 (by omega)
    obtain ⟨f2, g4, g5, g6⟩ := f_findsFitting (fu := fu) (o := 82) (base := 166) (n := nk) (fi := f1) (w := now) (by omega) (by omega) t1 (by omega)
    have g7 : FT f2 0 33 n now := fun k h1 h2 q hq => by rw [g6 k (by omega)]; exact g2 k h1 h2 q hq
    have hS : ∀ c, c < 32768 → ∃ S S2, f_X6_fits f2 0 (nI c) = some S ∧ f_X6_fits f2 82 (nI c) = some S2 ∧ f_X6_actionBy fu now 33 S = some (acn esrf (decC esrf eszo n c)) ∧ f_X6_actionBy fu now 166 S2 = some (acn eskf (decC eskf eszo nk c)) := by
      intro c hc
      obtain ⟨S, k1, k2⟩ := f_fits (c := c) g7 (by omega) hc
      obtain ⟨S2, k3, k4⟩ := f_fits (c := c) g5 (by omega) hc
      refine ⟨S, S2, k1, k3, ?_, ?_⟩
      · rw [acnC_c p4' p0' hc]
        exact f_actC (base := 33) (by omega) (by omega) p1 k2
      · rw [acnC_c t4' p0' hc]
        exact f_actC (base := 166) (by omega) (by omega) t1 k4
    have ho : ∀ c, c < 32768 → f_X6_isOtherwise fu now f2 (nI c) = some (decide (acn esrf (decC esrf eszo n c) ≠ acn eskf (decC eskf eszo nk c))) := by
      intro c hc
      obtain ⟨S, S2, k1, k2, k3, k4⟩ := hS c hc
      unfold f_X6_isOtherwise
      rw [k1, bs, k3, bs, k2, bs, k4, bs]
      by_cases hb : acn esrf (decC esrf eszo n c) = acn eskf (decC eskf eszo nk c)
      · rw [if_pos hb, decide_eq_false (fun h => h hb)]
      · rw [if_neg hb, decide_eq_true hb]
    rw [iteT, iteT, d1, bs]
    dsimp only
    rw [d3, bs, g1, bs, if_pos (show zok 165 401 = true by decide), show Int32.toNatClampNeg 165 = 165 by decide, t3, show f_X6_findsFitting fu now f1 166 (nI nk) 82 = some f2 from g4, bs]
    dsimp only
    by_cases hw0 : w = 0
    · subst hw0
      obtain ⟨x1, x2, x3, x4, x5, x6, l1⟩ := f_differences (fu := fu) (n := n) (n2 := nk) (A := A) (B := B) (C := C) (D := D) (A2 := A2) (B2 := B2) (C2 := C2) (D2 := D2) (p := fun c => decide (acn esrf (decC esrf eszo n c) ≠ acn eskf (decC eskf eszo nk c))) (by omega) p1 t1 hD hD2 (fun s d k h1 h2 h3 => by rw [pa_dec d2 p1 h1 h2 h3, pa_dec d4 t1 h1 h2 h3])
      have hl : f_X6_change_L40 fu (fun (x1 : Int32) (x2 : Int32) => if nI 0 = 0 then (some (x1, f2, refused)) else (some ((-1), f2, refused))) (nI 0) now f2 refused fu 0 0 = some (nI (cnt (fun c => decide (acn esrf (decC esrf eszo n c) ≠ acn eskf (decC eskf eszo nk c))) 32768), f2, refused) := by
        refine loopU0 (L := fun m i s => f_X6_change_L40 fu (fun (x1 : Int32) (x2 : Int32) => if nI 0 = 0 then (some (x1, f2, refused)) else (some ((-1), f2, refused))) (nI 0) now f2 refused m s i) (fun i => nI (cnt (fun c => decide (acn esrf (decC esrf eszo n c) ≠ acn eskf (decC eskf eszo nk c))) i)) (N := 32768) 0 rfl (by omega) (by omega) ?_ ?_
        · intro m i _ hi
          show f_X6_change_L40 fu _ (nI 0) now f2 refused (m + 1) _ (nI i) = f_X6_change_L40 fu _ (nI 0) now f2 refused m _ (nI (i + 1))
          rw [f_X6_change_L40, if_neg (show ¬ (32768 : Int32) ≤ nI i by rw [q32768]; exact nI_ge (by omega) (by decide)), ho i hi, bs, nI_1 i]
          cases hb : decide (acn esrf (decC esrf eszo n i) ≠ acn eskf (decC eskf eszo nk i)) with
          | false => rw [iteF, iteF, csf (p := fun c => decide (acn esrf (decC esrf eszo n c) ≠ acn eskf (decC eskf eszo nk c))) hb]
          | true => rw [iteT, iteT, if_pos (show nI 0 ≤ 0 by decide), cst (p := fun c => decide (acn esrf (decC esrf eszo n c) ≠ acn eskf (decC eskf eszo nk c))) hb]
        · intro m
          show f_X6_change_L40 fu _ (nI 0) now f2 refused (m + 1) _ (nI 32768) = _
          rw [f_X6_change_L40, if_pos (by decide)]
          rfl
      rw [if_pos (show nI 0 = 0 from rfl), l1, bs, hl]
      exact ⟨_, _, _, _, _, _, _, _, _, _, _, _, _, _, _, _, _, _, _, _, _, _, rfl, rfl, hc⟩
    · have hne : ¬ nI w = 0 := by rw [q0, nI_eq (by omega) (by decide)]; exact hw0
      have hnl : ¬ nI w ≤ 0 := by rw [q0]; exact nI_ge (by omega) (by omega)
      obtain ⟨rr, x1, x2, x3, x4, x5, x6, l1, l2⟩ := f_firstDifference (fu := fu) (n := n) (n2 := nk) (A := A) (B := B) (C := C) (D := D) (A2 := A2) (B2 := B2) (C2 := C2) (D2 := D2) (p := fun c => decide (acn esrf (decC esrf eszo n c) ≠ acn eskf (decC eskf eszo nk c))) (by omega) p1 t1 hD hD2 (fun s d k h1 h2 h3 => by rw [pa_dec d2 p1 h1 h2 h3, pa_dec d4 t1 h1 h2 h3])
      have hl := loopE (L := fun m i s => f_X6_change_L40 fu (fun (x1 : Int32) (x2 : Int32) => if nI w = 0 then (some (x1, f2, refused)) else (some ((-1), f2, refused))) (nI w) now f2 refused m s i) (fun i s => ∀ c, c < i → decide (acn esrf (decC esrf eszo n c) ≠ acn eskf (decC eskf eszo nk c)) = false) (N := 32768) (K := fun s => some (-1, f2, refused)) (X := fun o => ∃ c, c < 32768 ∧ fst1 (fun c => decide (acn esrf (decC esrf eszo n c) ≠ acn eskf (decC eskf eszo nk c))) 32768 0 = some c ∧ o = (f_X6_tellOf fu now f2 (nI c) (nI w)).bind fun r5 => some (r5, f2, refused)) (by
        intro m i s hi hb
        show (∃ s', f_X6_change_L40 fu _ (nI w) now f2 refused (m + 1) s (nI i) = f_X6_change_L40 fu _ (nI w) now f2 refused m s' (nI (i + 1)) ∧ _) ∨ (∃ c, c < 32768 ∧ fst1 (fun c => decide (acn esrf (decC esrf eszo n c) ≠ acn eskf (decC eskf eszo nk c))) 32768 0 = some c ∧ f_X6_change_L40 fu _ (nI w) now f2 refused (m + 1) s (nI i) = _)
        rw [f_X6_change_L40, if_neg (show ¬ (32768 : Int32) ≤ nI i by rw [q32768]; exact nI_ge (by omega) (by decide)), ho i hi, bs, nI_1 i]
        cases hb2 : decide (acn esrf (decC esrf eszo n i) ≠ acn eskf (decC eskf eszo nk i)) with
        | false =>
          rw [iteF, iteF]
          refine Or.inl ⟨_, rfl, fun c hc => ?_⟩
          by_cases hci : c = i
          · rw [hci]; exact hb2
          · exact hb c (by omega)
        | true =>
          rw [iteT, if_neg hnl]
          exact Or.inr ⟨i, hi, fst1_eq (by omega) (by omega) hb2 (fun c _ hc => hb c hc), rfl⟩) (by
        intro m s _
        show f_X6_change_L40 fu _ (nI w) now f2 refused (m + 1) s (nI 32768) = _
        rw [f_X6_change_L40, if_pos (by decide), if_neg hne]) 32768 0 fu 0 (by omega) (by omega) (fun c hc => by omega)
      replace hl : (∃ s' : Int32, f_X6_change_L40 fu (fun (x1 : Int32) (x2 : Int32) => if nI w = 0 then (some (x1, f2, refused)) else (some ((-1), f2, refused))) (nI w) now f2 refused fu 0 0 = some (-1, f2, refused) ∧ _) ∨ _ := hl
      rw [if_neg hne, l1, bs]
      dsimp only
      rcases l2 with ⟨c, c1, c2, c3⟩ | ⟨c1, c2⟩
      · subst c2
        rcases hl with ⟨s', e1, e2⟩ | ⟨c', e1, e2, e3⟩
        · have := (fst1_some c3).2.2.1
          rw [e2 c c1] at this
          cases this
        · obtain rfl : c' = c := by
            have := e2.symm.trans c3
            cases this
            rfl
          obtain ⟨S, S2, k1, k2, k3, k4⟩ := hS c' c1
          have x1 : nI c' / 1024 = nI (c' / 1024) := pk_div (d := 1024) (by omega) (by decide) (by decide)
          have x2 : nI c' / 32 = nI (c' / 32) := pk_div (d := 32) (by omega) (by decide) (by decide)
          have x3 : nI (c' / 32) - nI (c' / 32) / 32 * 32 = nI (c' / 32 % 32) := pk_rem (d := 32) (by omega) (by decide) (by decide)
          have x4 : nI c' - nI c' / 2 * 2 = nI (c' % 2) := pk_rem (d := 2) (by omega) (by decide) (by decide)
          have x5 : nI c' / 2 = nI (c' / 2) := pk_div (d := 2) (by omega) (by decide) (by decide)
          have x6 : nI (c' / 2) - nI (c' / 2) / 16 * 16 = nI (c' / 2 % 16) := pk_rem (d := 16) (by omega) (by decide) (by decide)
          have hv : ∃ v, f_X5_tellChange fu eszo (nI n) esrf (nI nk) eskf (nI c') (nI w) = some v ∧ f_X6_tellOf fu now f2 (nI c') (nI w) = some v := by
            unfold f_X5_tellChange f_X6_tellOf f_X6_sourceOf f_X6_goalOf f_X6_portOf
            rw [x4, x1, x2, x3, x5, x6, k2, k1]
            simp only [bs, k3, k4]
            rw [f_actionFor (by omega) p1 (by omega) (by omega), f_actionFor (by omega) t1 (by omega) (by omega)]
            have h6 : w = 1 ∨ w = 2 ∨ w = 3 ∨ w = 4 ∨ w = 5 ∨ w = 6 := by omega
            rcases h6 with rfl | rfl | rfl | rfl | rfl | rfl <;> exact ⟨_, rfl, rfl⟩
          obtain ⟨v, v1, v2⟩ := hv
          rw [v2, bs] at e3
          rw [if_neg (oI_ne (by omega)), v1, bs]
          exact ⟨_, _, _, _, _, _, _, _, _, _, _, _, _, _, _, _, _, _, _, _, _, _, rfl, e3, hc⟩
      · subst c1
        rcases hl with ⟨s', e1, e2⟩ | ⟨c', e1, e2, e3⟩
        · rw [if_pos rfl]
          exact ⟨_, _, _, _, _, _, _, _, _, _, _, _, _, _, _, _, _, _, _, _, _, _, rfl, e1, hc⟩
        · rw [c2] at e2
          cases e2
end P44
