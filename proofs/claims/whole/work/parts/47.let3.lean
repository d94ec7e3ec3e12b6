theorem f_tail {fu nf s d p t : Nat} {tm : Int32} {ff pf w fi : Nat → Int32} (hf : 2000 < fu) (hF : FC ff w nf) (hN : NS w nf (nI s) (nI d) (nI p) (nI t)) (hs : s < 32) (hd : d < 32) (hp : p < 16) (ht : t < 2) (htm : tm = w 394) (hpf : ∀ k, k < 7 → pf k = w (387 + k)) : ∃ v nf' ff' w', f_X5_openFlow fu tm (nI nf) ff pf (nI s) (nI d) (nI p) (nI t) = some (nI v, nI nf', ff') ∧ opT fu w fi (nI s) (nI d) (nI p) (nI t) = some (nI v, w', fi) ∧ v ≤ 4 ∧ FC ff' w' nf' ∧ ∀ k, k < 298 ∨ 355 ≤ k → w' k = w k := by
  have hst : 1 ≤ (if t = 0 then 1 else 6) ∧ (if t = 0 then 1 else 6) ≤ 7 := by
    by_cases h0 : t = 0
    · rw [if_pos h0]; omega
    · rw [if_neg h0]; omega
  unfold f_X5_openFlow
  rw [f_isFullF hF.1, bs]
  by_cases h8 : nf = 8
  · subst h8
    obtain ⟨b, nf', ff', w', e1, e2, e3, e4, e5, e6⟩ := f_room (fu := fu) hf hF hN
    rw [decide_eq_true rfl, iteT, e1, bs]
    dsimp only
    cases b with
    | false =>
      refine ⟨4, nf', ff', w', ?_, ?_, by omega, e3, e6⟩
      · rw [iteF]; rfl
      · unfold opT
        rw [e2, bs]
        dsimp only
        rw [iteF]
        rfl
    | true =>
      obtain rfl := e4 rfl
      rw [iteT, f_opnC (by omega) ht, f_opnM (by omega) ht e3.2.1 e2]
      refine ⟨1, 8, _, _, rfl, rfl, by omega, apFC e3 (by omega) e5 hs hd hp ht hst.1 hst.2 ?_, fun k hk => ?_⟩
      · rw [htm, hpf _ (by omega), e6 394 (by omega), e6 (386 + _) (by omega)]
        exact congrArg (fun x => w 394 + x) (congrArg w (by omega))
      · rw [apW_out (by omega) hk]; exact e6 k hk
  · have h7 : nf < 8 := by have := hF.1; omega
    have hr : f_X6_hasRoom fu w = some (true, w) := by
      unfold f_X6_hasRoom
      rw [if_pos z298, t298, hF.2.1, if_neg (show ¬ (8 : Int32) ≤ nI nf by rw [q8]; exact nI_ge h7 (by decide))]
    rw [decide_eq_false h8, iteF, f_opnC h7 ht, f_opnM h7 ht hF.2.1 hr]
    refine ⟨1, nf + 1, _, _, rfl, rfl, by omega, apFC hF h7 hN hs hd hp ht hst.1 hst.2 ?_, fun k hk => apW_out h7 hk⟩
    rw [htm, hpf _ (by omega)]
    exact congrArg (fun x => w 394 + x) (congrArg w (by omega))
theorem f_open {fu n na nf s d p t : Nat} {tm : Int32} {zo rf af ff pf w fi : Nat → Int32} (hf : 2000 < fu) (hz : ∀ a, a < 32 → zo a = w a) (hR : RC rf w n) (hA : AC af w na) (hF : FC ff w nf) (hs : s < 32) (hd : d < 32) (hp : p < 16) (ht : t < 2) (htm : tm = w 394) (hpf : ∀ k, k < 7 → pf k = w (387 + k)) (hN : NS w nf (nI s) (nI d) (nI p) (nI t)) : ∃ v rf' nf' ff' na' af' w' fi', ((f_X5_askForFlow fu zo (nI n) rf (nI na) af (nI s) (nI d) (nI p) (nI t)).bind fun r5 => if r5.1 = 1 then ((f_X5_openFlow fu tm (nI nf) ff pf (nI s) (nI d) (nI p) (nI t)).bind fun r6 => some (r6.1, r5.2.1, r6.2.1, r6.2.2, r5.2.2.1, r5.2.2.2)) else (some (r5.1, r5.2.1, nI nf, ff, r5.2.2.1, r5.2.2.2))) = some (nI v, rf', nI nf', ff', nI na', af') ∧ f_X6_opens fu w fi (nI s) (nI d) (nI p) (nI t) = some (nI v, w', fi') ∧ v ≤ 4 ∧ RC rf' w' n ∧ FC ff' w' nf' ∧ AC af' w' na' ∧ ∀ k, k < 32 ∨ (165 ≤ k ∧ k < 298) ∨ 386 ≤ k → w' k = w k := by
  obtain ⟨v, rf', na', af', w1, fi', e1, e2, e3, e4, e5, e6⟩ := f_ask (fu := fu) (fi := fi) hf hz hR hA hs hd hp ht
  have hF1 : FC ff w1 nf := FC.w hF (fun k h1 h2 => e5 k (by omega))
  have hN1 : NS w1 nf (nI s) (nI d) (nI p) (nI t) := NS.w hN (fun k h1 h2 => e5 k (by omega)) hF.1
  rw [e1, bs]
  dsimp only
  have hop : f_X6_opens fu w fi (nI s) (nI d) (nI p) (nI t) = (if nI v = 1 then opT fu w1 fi' (nI s) (nI d) (nI p) (nI t) else (if nI v = 0 then some (0, w1, fi') else some (2, w1, fi'))) := by
    unfold f_X6_opens
    rcases e6 with ⟨m1, m2⟩ | ⟨i, m0, m1, m2, m3, m4⟩
    · rw [m1, bs, if_pos (show (-1 : Int32) < 0 by decide), if_pos (show (-1 : Int32) < 0 by decide), m2, bs]
      rfl
    · subst m3
      subst m4
      rw [m1, bs, if_neg (nI_pos (show i < 2 ^ 31 by omega)), m2, bs, if_neg (nI_pos (show i < 2 ^ 31 by omega)), if_pos (show nI 1 = 1 from rfl)]
      rfl
  rw [hop]
  by_cases hv1 : v = 1
  · subst hv1
    rw [if_pos (show nI 1 = 1 from rfl), if_pos (show nI 1 = 1 from rfl)]
    obtain ⟨v2, nf', ff', w2, t1, t2, t3, t4, t5⟩ := f_tail (fu := fu) (tm := tm) (pf := pf) (fi := fi') hf hF1 hN1 hs hd hp ht (by rw [htm]; exact (e5 394 (by omega)).symm) (fun k hk => by rw [hpf k hk]; exact (e5 (387 + k) (by omega)).symm)
    rw [t1, bs, t2]
    refine ⟨v2, rf', nf', ff', na', af', w2, fi', rfl, rfl, t3, RC.w e3 (fun k h1 h2 => t5 k (by omega)), t4, AC.w e4 (fun k h1 h2 => t5 k (by omega)), fun k hk => ?_⟩
    rw [t5 k (by omega)]; exact e5 k (by omega)
  · have hne : ¬ nI v = 1 := by rw [q1, nI_eq (by omega) (by decide)]; exact hv1
    rw [if_neg hne, if_neg hne]
    have h2 : v = 0 ∨ v = 2 := by omega
    rcases h2 with rfl | rfl
    · exact ⟨0, rf', nf, ff, na', af', w1, fi', rfl, rfl, by omega, e3, hF1, e4, fun k hk => e5 k (by omega)⟩
    · exact ⟨2, rf', nf, ff, na', af', w1, fi', rfl, rfl, by omega, e3, hF1, e4, fun k hk => e5 k (by omega)⟩
theorem f_handle {fu n na nf s d p t g : Nat} {tm : Int32} {zo rf af ff pf w fi : Nat → Int32} (hf : 2000 < fu) (hz : ∀ a, a < 32 → zo a = w a) (hR : RC rf w n) (hA : AC af w na) (hF : FC ff w nf) (hs : s < 32) (hd : d < 32) (hp : p < 16) (ht : t < 2) (htm : tm = w 394) (hpf : ∀ k, k < 7 → pf k = w (387 + k)) (hg : g ≤ 4) : ∃ v rf' nf' ff' na' af' w' fi', f_X5_handleLetter fu tm zo (nI n) rf (nI nf) ff (nI na) af pf (nI s) (nI d) (nI p) (nI t) (nI g) = some (nI v, rf', nI nf', ff', nI na', af') ∧ f_X6_goes fu w fi (nI s) (nI d) (nI p) (nI t) (nI g) = some (nI v, w', fi') ∧ v ≤ 4 ∧ RC rf' w' n ∧ FC ff' w' nf' ∧ AC af' w' na' ∧ ∀ k, k < 32 ∨ (165 ≤ k ∧ k < 298) ∨ 386 ≤ k → w' k = w k := by
  have hF0 := hF
  obtain ⟨g1, g2, g3, g4, g5⟩ := hF
  unfold f_X5_handleLetter f_X6_goes
  have eo : ∀ x y, fst1 (fun i => such ff (7 * i) x y (nI p) (nI t)) nf 0 = fst1 (fun i => such w (299 + 7 * i) x y (nI p) (nI t)) nf 0 := fun x y => fst1_congr (fun i _ hi => such_c (fun c hc => by
    rw [g3 _ (by omega)]
    exact congrArg w (by omega)))
  rw [f_rowF hf g1, bs, f_rowF hf g1, bs, f_flowOf hf g1 g2, bs, eo, eo]
  cases hq : fst1 (fun i => such w (299 + 7 * i) (nI s) (nI d) (nI p) (nI t)) nf 0 with
  | some i =>
    obtain ⟨q1', q2', q3', q4'⟩ := fst1_some hq
    have hi : i < nf := by omega
    obtain ⟨s0, s1, s2, s3⟩ := such_t.mp q3'
    have hfl : fst1 (fun i => such w (299 + 7 * i) (nI s) (nI d) (nI p) (nI t) || such w (299 + 7 * i) (nI d) (nI s) (nI p) (nI t)) nf 0 = some i := by
      refine fst1_eq (by omega) q2' (by rw [q3', Bool.true_or]) (fun k _ hk => ?_)
      rw [q4' k (by omega) hk, Bool.false_or]
      cases hb : such w (299 + 7 * k) (nI d) (nI s) (nI p) (nI t) with
      | false => rfl
      | true =>
        obtain ⟨y0, y1, y2, y3⟩ := such_t.mp hb
        exact absurd ⟨y2.trans s2.symm, y3.trans s3.symm, Or.inr ⟨y0.trans s1.symm, y1.trans s0.symm⟩⟩ (g5 k i hk hi)
    rw [hfl, show oI (some i) = nI i from rfl, if_neg (oI_ne (show i < 2 ^ 31 by omega)), if_neg (nI_pos (show i < 2 ^ 31 by omega)), f_flowAt, bs, if_pos (zok_nI (by omega) (by decide)), nI_clamp (by omega), if_pos s0]
    obtain ⟨v, nf', ff', w', e1, e2, e3, e4, e5⟩ := f_cont (fu := fu) (side := 0) (g := g) hf hF0 hi (by omega) hg htm hpf
    rw [show f_X5_continueFlow tm (nI nf) ff pf (nI i) 0 (nI g) = _ from e1, bs, show f_X6_goesOn fu w (nI i) 0 (nI g) = _ from e2, bs]
    exact ⟨v, rf, nf', ff', na, af, w', fi, rfl, rfl, e3, RC.w hR (fun k h1 h2 => e5 k (by omega)), e4, AC.w hA (fun k h1 h2 => e5 k (by omega)), fun k hk => e5 k (by omega)⟩
  | none =>
    have hno := fst1_none hq
    rw [show oI none = -1 from rfl, if_pos rfl]
    have hfl : fst1 (fun i => such w (299 + 7 * i) (nI s) (nI d) (nI p) (nI t) || such w (299 + 7 * i) (nI d) (nI s) (nI p) (nI t)) nf 0 = fst1 (fun i => such w (299 + 7 * i) (nI d) (nI s) (nI p) (nI t)) nf 0 := fst1_congr (fun i h1 h2 => by rw [hno i h1 h2, Bool.false_or])
    rw [hfl]
    cases hq2 : fst1 (fun i => such w (299 + 7 * i) (nI d) (nI s) (nI p) (nI t)) nf 0 with
    | some i =>
      obtain ⟨q1', q2', q3', q4'⟩ := fst1_some hq2
      have hi : i < nf := by omega
      obtain ⟨s0, s1, s2, s3⟩ := such_t.mp q3'
      have hne : ¬ w (299 + 7 * i) = nI s := by
        intro h
        have hsd : nI d = nI s := s0.symm.trans h
        have := hno i q1' q2'
        rw [hsd] at q3'
        rw [hsd, q3'] at this
        cases this
      rw [show oI (some i) = nI i from rfl, if_neg (oI_ne (show i < 2 ^ 31 by omega)), if_neg (nI_pos (show i < 2 ^ 31 by omega)), f_flowAt, bs, if_pos (zok_nI (by omega) (by decide)), nI_clamp (by omega), if_neg hne]
      obtain ⟨v, nf', ff', w', e1, e2, e3, e4, e5⟩ := f_cont (fu := fu) (side := 1) (g := g) hf hF0 hi (by omega) hg htm hpf
      rw [show f_X5_continueFlow tm (nI nf) ff pf (nI i) 1 (nI g) = _ from e1, bs, show f_X6_goesOn fu w (nI i) 1 (nI g) = _ from e2, bs]
      exact ⟨v, rf, nf', ff', na, af, w', fi, rfl, rfl, e3, RC.w hR (fun k h1 h2 => e5 k (by omega)), e4, AC.w hA (fun k h1 h2 => e5 k (by omega)), fun k hk => e5 k (by omega)⟩
    | none =>
      have hno2 := fst1_none hq2
      rw [show oI none = -1 from rfl, if_pos rfl, if_pos (show (-1 : Int32) < 0 by decide)]
      obtain ⟨v, rf', nf', ff', na', af', w', fi', e1, e2, e3⟩ := f_open (fu := fu) (fi := fi) (tm := tm) (pf := pf) hf hz hR hA hF0 hs hd hp ht htm hpf (fun i hi => ⟨hno i (by omega) (by omega), hno2 i (by omega) (by omega)⟩)
      by_cases ht0 : nI t = 0
      · rw [if_pos ht0, if_pos ht0]
        by_cases hg0 : nI g = 0
        · rw [if_pos hg0, if_pos hg0, e1, e2, bs]
          exact ⟨v, rf', nf', ff', na', af', w', fi', rfl, rfl, e3⟩
        · rw [if_neg hg0, if_neg hg0]
          exact ⟨3, rf, nf, ff, na, af, w, fi, rfl, rfl, by omega, hR, hF0, hA, fun _ _ => rfl⟩
      · rw [if_neg ht0, if_neg ht0]
        by_cases hg0 : nI g = 2
        · rw [if_pos hg0, if_pos hg0, e1, e2, bs]
          exact ⟨v, rf', nf', ff', na', af', w', fi', rfl, rfl, e3⟩
        · rw [if_neg hg0, if_neg hg0]
          exact ⟨3, rf, nf, ff, na, af, w, fi, rfl, rfl, by omega, hR, hF0, hA, fun _ _ => rfl⟩
section P47
variable {fu : Nat} {b0 b1 b2 yhs yhn states : Int32} {estm : Int32} {eszo : Nat → Int32} {esrs : Int32} {esrf : Nat → Int32} {esks : Int32} {eskf : Nat → Int32} {esfs : Int32} {esff : Nat → Int32} {esas : Int32} {esaf espf estf : Nat → Int32} {R : Nat → Nat → Nat → Int32} {now past refused : Nat → Int32}
variable {fi : Nat → Int32}
theorem s_letter (hf : 2000 < fu) (hs : SR (pk12 estm eszo esrs esrf esks eskf esfs esff esas esaf espf estf) now) (hh : HR R yhs yhn states past) (hc : CR b0 b1 b2 refused) (a1 a2 a3 a4 a5 : Int32) : ∃ r c0 c1 c2 ys yn rf fs ff as af tf R' st nw pa re fi', f_X5_letter fu b0 b1 b2 yhs yhn estm eszo esrs esrf esks eskf esfs esff esas esaf espf estf R a1 a2 a3 a4 a5 = some (r, c0, c1, c2, ys, yn, rf, fs, ff, as, af, tf, R') ∧ f_X6_letter fu states now past refused fi a1 a2 a3 a4 a5 = some (r, st, nw, pa, re, fi') ∧ SR (pk12 estm eszo esrs rf esks eskf fs ff as af espf tf) nw ∧ HR R' ys yn st pa ∧ CR c0 c1 c2 re := by
  obtain ⟨ys, yn, R', st, pa, e1, e2, e3⟩ := rem_step hf hs hh
  have hs0 := hs
  obtain ⟨p0, ⟨nr, h1, h2, h3, h4, h5⟩, ⟨nk, hk⟩, ⟨nf, f1, f2, f3, f4, f5, f6⟩, ⟨na, a1', s2, s3, s4⟩, t0, t1, t2⟩ := hs
  obtain rfl : esrs = nI nr := h2
  obtain rfl : esfs = nI nf := f2
  obtain rfl : esas = nI na := s2
  unfold f_X5_letter f_X6_letter
  rw [(isCase_eq a1 a2 a3 a4).1, (isCase_eq a1 a2 a3 a4).2, bs, bs]
  cases hz : (zin a1 0 31 && (zin a2 0 31 && (zin a3 0 15 && zin a4 0 1))) with
  | false =>
    rw [iteF, iteF, f_failsB, f_bad]
    exact ⟨_, _, _, _, _, _, _, _, _, _, _, _, _, _, _, _, _, _, rfl, rfl, hs0, hh, hc.bad⟩
  | true =>
    rw [iteT, iteT, f_within, f_in, bs, bs]
    cases hz5 : zin a5 0 4 with
    | false =>
      rw [iteF, iteF, f_failsB, f_bad]
      exact ⟨_, _, _, _, _, _, _, _, _, _, _, _, _, _, _, _, _, _, rfl, rfl, hs0, hh, hc.bad⟩
    | true =>
      obtain ⟨hz1, hz⟩ := Bool.and_eq_true_iff.mp hz
      obtain ⟨hz2, hz⟩ := Bool.and_eq_true_iff.mp hz
      obtain ⟨hz3, hz4⟩ := Bool.and_eq_true_iff.mp hz
      obtain ⟨s, hs, rfl⟩ := zin_nat (n := 31) (by decide) hz1
      obtain ⟨d, hd, rfl⟩ := zin_nat (n := 31) (by decide) hz2
      obtain ⟨p, hp, rfl⟩ := zin_nat (n := 15) (by decide) hz3
      obtain ⟨t, ht, rfl⟩ := zin_nat (n := 1) (by decide) hz4
      obtain ⟨g, hg, rfl⟩ := zin_nat (n := 4) (by decide) hz5
      obtain ⟨v, rf', nf', ff', na', af', w', fi', g1, g2, g3, g4, g5, g6, g7⟩ := f_handle (fu := fu) (fi := fi) (s := s) (d := d) (p := p) (t := t) (g := g) (tm := estm) (pf := espf) (zo := eszo) (rf := esrf) (af := esaf) (ff := esff) (w := now) hf p0 ⟨h1, h3, h4, h5⟩ ⟨a1', s3, s4⟩ ⟨f1, f3, f4, f5, f6⟩ (by omega) (by omega) (by omega) (by omega) t1 t0 hg
      rw [iteT, iteT, e1, bs, e2, bs, g1, bs, g2, bs]
      dsimp only
      have ht2 : ∀ k, k < 6 → estf k = w' (395 + k) := fun k hk => by rw [g7 _ (by omega)]; exact t2 k hk
      have hfin : ∀ q, q < 6 → SR (pk12 estm eszo (nI nr) rf' esks eskf (nI nf') ff' (nI na') af' espf (upd estf q (estf q + 1))) (upd w' (395 + q) (w' (395 + q) + 1)) := by
        intro q hq
        obtain ⟨r1, r2, r3, r4⟩ := RC.w (w' := upd w' (395 + q) (w' (395 + q) + 1)) g4 (fun k h1 h2 => pk_un (by omega))
        obtain ⟨k1, k2, k3, k4, k5⟩ := FC.w (w' := upd w' (395 + q) (w' (395 + q) + 1)) g5 (fun k h1 h2 => pk_un (by omega))
        obtain ⟨j1, j2, j3⟩ := AC.w (w' := upd w' (395 + q) (w' (395 + q) + 1)) g6 (fun k h1 h2 => pk_un (by omega))
        refine ⟨ZnR.w p0 (fun k hk => by rw [pk_un (by omega)]; exact g7 k (by omega)), ⟨nr, r1, rfl, r2, r3, r4⟩, ⟨nk, KeR.w hk (fun k h1 h2 => by rw [pk_un (by omega)]; exact g7 k (by omega))⟩, ⟨nf', k1, rfl, k2, k3, k4, k5⟩, ⟨na', j1, rfl, j2, j3⟩, fun k hk => ?_, ?_, fun k hk => ?_⟩
        · rw [pk_un (by omega), g7 _ (by omega)]
          exact t0 k hk
        · rw [pk_un (by omega), g7 _ (by omega)]
          exact t1
        · show upd estf q (estf q + 1) k = _
          by_cases hkq : k = q
          · rw [hkq, pk_us, pk_us, ht2 q hq]
          · rw [pk_un hkq, pk_un (by omega)]
            exact ht2 k hk
      have hraise : ∀ q, q < 6 → f_X2_raise estf (nI q) 1 = some (upd estf q (estf q + 1)) := by
        intro q hq
        unfold f_X2_raise
        rw [f_within, bs, show zin (nI q) 0 5 = true by rw [q5, zin_nI (by omega) (by decide)]; exact decide_eq_true (by omega), iteT, if_pos (zok_nI hq (by decide)), if_pos (zok_nI hq (by decide)), nI_clamp (by omega)]
      have hv : v = 0 ∨ v = 1 ∨ v = 2 ∨ v = 3 ∨ v = 4 := by omega
      rcases hv with rfl | rfl | rfl | rfl | rfl
      · rw [show f_X5_tallyOf (nI 0) = some (nI 1) from rfl, bs, hraise 1 (by omega), bs]
        exact ⟨_, _, _, _, _, _, _, _, _, _, _, _, _, _, _, _, _, _, rfl, rfl, hfin 1 (by omega), e3, hc⟩
      · rw [show f_X5_tallyOf (nI 1) = some (nI 0) from rfl, bs, hraise 0 (by omega), bs]
        exact ⟨_, _, _, _, _, _, _, _, _, _, _, _, _, _, _, _, _, _, rfl, rfl, hfin 0 (by omega), e3, hc⟩
      · rw [show f_X5_tallyOf (nI 2) = some (nI 2) from rfl, bs, hraise 2 (by omega), bs]
        exact ⟨_, _, _, _, _, _, _, _, _, _, _, _, _, _, _, _, _, _, rfl, rfl, hfin 2 (by omega), e3, hc⟩
      · rw [show f_X5_tallyOf (nI 3) = some (nI 3) from rfl, bs, hraise 3 (by omega), bs]
        exact ⟨_, _, _, _, _, _, _, _, _, _, _, _, _, _, _, _, _, _, rfl, rfl, hfin 3 (by omega), e3, hc⟩
      · rw [show f_X5_tallyOf (nI 4) = some (nI 4) from rfl, bs, hraise 4 (by omega), bs]
        exact ⟨_, _, _, _, _, _, _, _, _, _, _, _, _, _, _, _, _, _, rfl, rfl, hfin 4 (by omega), e3, hc⟩
end P47
