theorem Lcuts {fu nr : Nat} {K1 : Int32 → Int32 → (Nat → Int32) → Option (Int32 × Int32 × Int32 × Int32 × (Nat → Int32) × (Nat → Nat → Nat → Int32))} {K2 : Int32 → (Nat → Int32) → Option (Int32 × Int32 × (Nat → Int32) × (Nat → Int32) × (Nat → Int32))} {zo rf w0 fi : Nat → Int32} (hf : 2000 < fu) (hz : ∀ a, a < 32 → zo a = w0 a) (hR : RC rf w0 nr) (hT : FT fi 0 33 nr w0) : ∀ (i n1 n2 n : Nat) (ff w : Nat → Int32), i < n1 → i < n2 → i ≤ n → FC ff w n → (∀ k, k < 298 → w k = w0 k) → ∃ n' ff' w', f_X5_cuts_L26 fu K1 zo (nI nr) rf n1 (nI i - 1) (nI n) ff = K1 (nI 0 - 1) (nI n') ff' ∧ f_X6_cuts_L21 fu K2 fi n2 (nI i - 1) w = K2 (nI 0 - 1) w' ∧ FC ff' w' n' ∧ (∀ k, k < 298 ∨ 355 ≤ k → w' k = w k) := by
  intro i
  induction i with
  | zero =>
    intro n1 n2 n ff w h1 h2 hn hF hw
    obtain ⟨n1, rfl⟩ : ∃ m, n1 = m + 1 := ⟨n1 - 1, by omega⟩
    obtain ⟨n2, rfl⟩ : ∃ m, n2 = m + 1 := ⟨n2 - 1, by omega⟩
    rw [f_X5_cuts_L26, f_X6_cuts_L21, if_pos neg1, if_pos neg1]
    exact ⟨n, ff, w, rfl, rfl, hF, fun _ _ => rfl⟩
  | succ i ih =>
    intro n1 n2 n ff w h1 h2 hn hF hw
    obtain ⟨n1, rfl⟩ : ∃ m, n1 = m + 1 := ⟨n1 - 1, by omega⟩
    obtain ⟨n2, rfl⟩ : ∃ m, n2 = m + 1 := ⟨n2 - 1, by omega⟩
    obtain ⟨n, rfl⟩ : ∃ m, n = m + 1 := ⟨n - 1, by omega⟩
    have hF0 := hF
    obtain ⟨g1, g2, g3, g4, g5⟩ := hF
    obtain ⟨r1, r2, r3, r4⟩ := hR
    have r3' : ∀ k, k < 11 * nr → rf k = (fun j => w0 (33 + j)) k := r3
    obtain ⟨⟨s, hs, es⟩, ⟨d, hd, ed⟩, ⟨p, hp, ep⟩, ⟨t, ht, et⟩, -, -⟩ := g4 i (by omega)
    have c0 : f_X3_get 7 (nI (n + 1)) 56 ff (nI i) 0 = some (nI s) := (get7 (c := 0) (by omega) (by omega) g1).trans (congrArg some (((g3 _ (by omega)).trans (congrArg w (by omega))).trans es))
    have c1 : f_X3_get 7 (nI (n + 1)) 56 ff (nI i) 1 = some (nI d) := (get7 (c := 1) (by omega) (by omega) g1).trans (congrArg some (((g3 _ (by omega)).trans (congrArg w (by omega))).trans ed))
    have c2 : f_X3_get 7 (nI (n + 1)) 56 ff (nI i) 2 = some (nI p) := (get7 (c := 2) (by omega) (by omega) g1).trans (congrArg some (((g3 _ (by omega)).trans (congrArg w (by omega))).trans ep))
    have c3 : f_X3_get 7 (nI (n + 1)) 56 ff (nI i) 3 = some (nI t) := (get7 (c := 3) (by omega) (by omega) g1).trans (congrArg some (((g3 _ (by omega)).trans (congrArg w (by omega))).trans et))
    have cA : f_X5_actionOfFlow fu zo (nI nr) rf (nI (n + 1)) ff (nI i) = some (acn rf (dec rf zo nr s d p t)) := by
      unfold f_X5_actionOfFlow
      rw [c0, bs, c1, bs, c2, bs, c3, bs, f_actionFor hf r1 hs hd, bs]
    obtain ⟨S, k1, k2⟩ := f_fits (c := 1024 * s + 32 * d + 2 * p + t) hT (by omega) (by omega)
    have cM : f_X6_actionBy fu w 33 S = some (acn rf (dec rf zo nr s d p t)) := by
      refine (f_actionBy (base := 33) hf (by omega)).trans (congrArg some ?_)
      rw [fst1_le r1 (fun k hk => k2 k (by omega)), show fst1 (fitC (fun j => w0 (33 + j)) w0 (1024 * s + 32 * d + 2 * p + t)) nr 0 = decC (fun j => w0 (33 + j)) w0 nr (1024 * s + 32 * d + 2 * p + t) from rfl, decC_eq hs hd hp ht, ← dec_c r3' hz hs hd]
      cases hdc : dec rf zo nr s d p t with
      | none => rfl
      | some r =>
        have := dec_lt hdc
        show w (33 + (11 * r + 9)) = rf (11 * r + 9)
        rw [hw _ (by omega), r3 _ (by omega)]
    rw [nI_pred, f_X5_cuts_L26, f_X6_cuts_L21, if_neg (nI_pos (by omega)), if_neg (nI_pos (by omega)), m1, cA, bs, f_flowAt, bs, nI_1, q2, q3, nI_add, nI_add, if_pos (zok_nI (by omega) (by decide)), if_pos (zok_nI (by omega) (by decide)), if_pos (zok_nI (by omega) (by decide)), if_pos (zok_nI (by omega) (by decide)), nI_clamp (show 299 + 7 * i < 2 ^ 31 by omega), nI_clamp (show 299 + 7 * i + 1 < 2 ^ 31 by omega), nI_clamp (show 299 + 7 * i + 2 < 2 ^ 31 by omega), nI_clamp (show 299 + 7 * i + 3 < 2 ^ 31 by omega), es, ed, ep, et, f_caseOf, bs, show f_X6_fits fi 0 (nI (1024 * s + 32 * d + 2 * p + t)) = some S from k1, bs, cM, bs]
    by_cases hlt : acn rf (dec rf zo nr s d p t) = 1
    · rw [if_pos hlt, if_pos hlt]
      exact ih n1 n2 (n + 1) ff w (by omega) (by omega) (by omega) hF0 hw
    · rw [if_neg hlt, if_neg hlt, rem7 (by omega) g1, bs, f_flowGoes g2 (by omega) (by omega) hf, bs]
      obtain ⟨n', ff', w', e1, e2, e3, e4⟩ := ih n1 n2 n (shl (7 * i) (7 * n) 7 ff) (shl (299 + 7 * i) (299 + 7 * n) 7 (upd w 298 (nI n))) (by omega) (by omega) (by omega) (FC.del hF0 (by omega)) (fun k hk => by rw [shl_out (by omega), pk_un (by omega)]; exact hw k hk)
      refine ⟨n', ff', w', e1, e2, e3, fun k h1 => ?_⟩
      rw [e4 k h1, shl_out (by omega), pk_un (by omega)]
def hm (f : Nat → Int32) : Nat → Int64 → Int64
  | 0, h => h
  | n + 1, h => 31 * hm f n h + Int32.toInt64 (f n)
theorem hm_c {f g : Nat → Int32} {h : Int64} : ∀ {n : Nat}, (∀ k, k < n → f k = g k) → hm f n h = hm g n h := by
  intro n
  induction n with
  | zero => intro _; rfl
  | succ n ih =>
    intro e
    unfold hm
    rw [ih (fun k hk => e k (by omega)), e n (by omega)]
def tv (b0 b1 b2 b3 b4 : Int32) (i : Nat) : Int32 := if i = 0 then b0 else if i = 1 then b1 else if i = 2 then b2 else if i = 3 then b3 else b4
theorem f_toldC {b0 b1 b2 txn yhs : Int32} {i : Nat} (hi : i < 5) : f_X5_told b0 b1 b2 txn yhs (nI i) = some (tv b0 b1 b2 txn yhs i, b0, b1, b2) := by
  have h : i = 0 ∨ i = 1 ∨ i = 2 ∨ i = 3 ∨ i = 4 := by omega
  rcases h with rfl | rfl | rfl | rfl | rfl <;> rfl
theorem f_toldM {st by_ : Int32} {rf : Nat → Int32} {i : Nat} (hi : i < 5) : f_X6_toldOf st by_ rf (nI i) = some (tv (rf 0) (rf 1) (rf 2) by_ st i) := by
  have h : i = 0 ∨ i = 1 ∨ i = 2 ∨ i = 3 ∨ i = 4 := by omega
  rcases h with rfl | rfl | rfl | rfl | rfl <;> rfl
theorem f_mixInto {fu n w tn : Nat} {tf : Nat → Int32} {h : Int64} (hf : 2000 < fu) (hn : n ≤ 12) (hw : w ≤ 11) (ht : n * w ≤ tn) (ht2 : tn < 2 ^ 31) : f_X3_mixInto fu (nI w) (nI n) tn tf h = some (hm tf (w * n) h) := by
  unfold f_X3_mixInto
  refine loopU0 (L := fun m i s => f_X3_mixInto_L5 fu (fun (x3 : Int64) (x4 : Int32) => some x3) (nI w) (nI n) tn tf m s i) (fun i => hm tf (w * i) h) (N := n) 0 rfl (by omega) (by omega) ?_ ?_
  · intro m i _ hi
    show f_X3_mixInto_L5 fu _ (nI w) (nI n) tn tf (m + 1) _ (nI i) = f_X3_mixInto_L5 fu _ (nI w) (nI n) tn tf m _ (nI (i + 1))
    rw [f_X3_mixInto_L5, if_neg (nI_ge hi (by omega)), nI_1 i]
    refine loopU0 (L := fun m j s => f_X3_mixInto_L17 fu (fun (x1 : Int64) (x2 : Int32) => f_X3_mixInto_L5 fu (fun (x3 : Int64) (x4 : Int32) => some x3) (nI w) (nI n) tn tf _ x1 (nI (i + 1))) (nI i) (nI w) (nI n) tn tf m s j) (fun j => hm tf (w * i + j) h) (N := w) 0 rfl (by omega) (by omega) ?_ ?_
    · intro m2 j _ hj
      show f_X3_mixInto_L17 fu _ (nI i) (nI w) (nI n) tn tf (m2 + 1) _ (nI j) = f_X3_mixInto_L17 fu _ (nI i) (nI w) (nI n) tn tf m2 _ (nI (j + 1))
      rw [f_X3_mixInto_L17, if_neg (nI_ge hj (by omega)), f_get hi hj ht ht2 (by omega) (by omega), bs, nI_1 j]
      show _ = f_X3_mixInto_L17 fu _ (nI i) (nI w) (nI n) tn tf m2 (31 * hm tf (w * i + j) h + Int32.toInt64 (tf (w * i + j))) (nI (j + 1))
      rw [Nat.mul_comm i w]
    · intro m2
      show f_X3_mixInto_L17 fu _ (nI i) (nI w) (nI n) tn tf (m2 + 1) _ (nI w) = _
      rw [f_X3_mixInto_L17, if_pos (nI_le (Nat.le_refl _) (by omega)), Nat.mul_succ]
  · intro m
    show f_X3_mixInto_L5 fu _ (nI w) (nI n) tn tf (m + 1) _ (nI n) = _
    rw [f_X3_mixInto_L5, if_pos (nI_le (Nat.le_refl _) (by omega))]
section P48
variable {fu : Nat} {b0 b1 b2 yhs yhn states : Int32} {estm : Int32} {eszo : Nat → Int32} {esrs : Int32} {esrf : Nat → Int32} {esks : Int32} {eskf : Nat → Int32} {esfs : Int32} {esff : Nat → Int32} {esas : Int32} {esaf espf estf : Nat → Int32} {R : Nat → Nat → Nat → Int32} {now past refused : Nat → Int32}
variable {fi txbf text : Nat → Int32} {txn bytes : Int32}
theorem s_cuts (hf : 2000 < fu) (hs : SR (pk12 estm eszo esrs esrf esks eskf esfs esff esas esaf espf estf) now) (hh : HR R yhs yhn states past) : ∃ r ys yn fs ff R' st nw pa fi', f_X5_cuts fu yhs yhn estm eszo esrs esrf esks eskf esfs esff esas esaf espf estf R = some (r, ys, yn, fs, ff, R') ∧ f_X6_cuts fu states now past fi = some (r, st, nw, pa, fi') ∧ SR (pk12 estm eszo esrs esrf esks eskf fs ff esas esaf espf estf) nw ∧ HR R' ys yn st pa := by
  obtain ⟨ys, yn, R', st, pa, e1, e2, e3⟩ := rem_step hf hs hh
  obtain ⟨p0, ⟨nr, h1, h2, h3, h4, h5⟩, ⟨nk, hk⟩, ⟨nf, f1, f2, f3, f4, f5, f6⟩, ⟨na, ha⟩, hsc⟩ := hs
  obtain rfl : esrs = nI nr := h2
  obtain rfl : esfs = nI nf := f2
  obtain ⟨fi', g1, g2, -⟩ := f_findsNow (fu := fu) (fi := fi) h3 h1 hf
  obtain ⟨n', ff', w', l1, l2, l3, l4⟩ := Lcuts (fu := fu) (nr := nr) (K1 := fun (x1 : Int32) (x2 : Int32) (x3 : Nat → Int32) => (f_X3_size x2 ).bind fun r5 => some (nI nf - r5, ys, yn, x2, x3, R')) (K2 := fun (x1 : Int32) (x2 : Nat → Int32) => if zok 298 401 then (some (nI nf - (x2 298), st, x2, pa, fi')) else none) (zo := eszo) (rf := esrf) (w0 := now) (fi := fi') hf p0 ⟨h1, h3, h4, h5⟩ g2 nf fu fu nf esff now (by omega) (by omega) (Nat.le_refl _) ⟨f1, f3, f4, f5, f6⟩ (fun _ _ => rfl)
  unfold f_X5_cuts f_X6_cuts
  rw [e1, bs, f_X3_size, bs, e2, bs, g1, bs, if_pos z298, t298, f3]
  dsimp only
  rw [show f_X5_cuts_L26 fu _ eszo (nI nr) esrf fu (nI nf - 1) (nI nf) esff = _ from l1, show f_X6_cuts_L21 fu _ fi' fu (nI nf - 1) now = _ from l2]
  obtain ⟨k1, k2, k3, k4, k5⟩ := l3
  rw [f_X3_size, bs, if_pos z298, k2]
  refine ⟨_, _, _, _, _, _, _, _, _, _, rfl, rfl, ⟨ZnR.w p0 (fun k hk => l4 k (by omega)), ⟨nr, RuR.w ⟨h1, rfl, h3, h4, h5⟩ (fun k h1 h2 => l4 k (by omega))⟩, ⟨nk, KeR.w hk (fun k h1 h2 => l4 k (by omega))⟩, ⟨n', k1, rfl, k2, k3, k4, k5⟩, ⟨na, AnR.w ha (fun k h1 h2 => l4 k (by omega))⟩, ScR.w hsc (fun k h1 h2 => l4 k (by omega))⟩, e3⟩
theorem s_digest (hf : 2000 < fu) (hs : SR (pk12 estm eszo esrs esrf esks eskf esfs esff esas esaf espf estf) now) (hh : HR R yhs yhn states past) (hc : CR b0 b1 b2 refused) (ht : TR txn txbf bytes text) : ∃ r : Int64, f_X5_digest fu b0 b1 b2 estm eszo esrs esrf esfs esff esas espf estf txn yhs = some (r, b0, b1, b2) ∧ f_X6_digest fu states bytes now refused = some (r, r) := by
  obtain ⟨x0, x1, x2⟩ := hc
  obtain ⟨tn, -, tq1, tq2, -⟩ := ht
  obtain ⟨h, x, -, -, hq1, -, hq2, -⟩ := hh
  have hb : txn = bytes := tq1.trans tq2.symm
  have hst : yhs = states := hq1.trans hq2.symm
  have hcv : ∀ i, i < 10 → f_X6_countOf now (nI i) = some ((f_X6_countOf now (nI i)).getD 0) ∧ f_X5_count b0 b1 b2 estm esrs esfs esas estf (nI i) = some ((f_X6_countOf now (nI i)).getD 0, b0, b1, b2) := by
    intro i hi
    obtain ⟨r, g1, g2⟩ := f_countOf (b0 := b0) (b1 := b1) (b2 := b2) hs (show i ≤ 9 by omega)
    rw [g1, g2]
    exact ⟨rfl, rfl⟩
  obtain ⟨p0, ⟨nr, h1, h2, h3, h4, h5⟩, -, ⟨nf, f1, f2, f3, f4, f5, f6⟩, -, t0, t1, t2⟩ := hs
  obtain rfl : esrs = nI nr := h2
  obtain rfl : esfs = nI nf := f2
  have d1 : ∀ K : Int64 → Int32 → Int32 → Int32 → Int32 → Option (Int64 × Int32 × Int32 × Int32), f_X5_digest_L6 fu K txn yhs fu 2573 0 b0 b1 b2 = K (hm (tv b0 b1 b2 txn yhs) 5 2573) (nI 5) b0 b1 b2 := by
    intro K
    refine loopU0 (L := fun m i s => f_X5_digest_L6 fu K txn yhs m s i b0 b1 b2) (fun i => hm (tv b0 b1 b2 txn yhs) i 2573) (N := 5) 0 rfl (by omega) (by omega) ?_ ?_
    · intro m i _ hi
      show f_X5_digest_L6 fu K txn yhs (m + 1) _ (nI i) b0 b1 b2 = f_X5_digest_L6 fu K txn yhs m _ (nI (i + 1)) b0 b1 b2
      rw [f_X5_digest_L6, if_neg (show ¬ (4 : Int32) < nI i by rw [q4, nI_ltI (by decide) (by omega)]; omega), f_toldC hi, bs, nI_1 i]
      rfl
    · intro m
      show f_X5_digest_L6 fu K txn yhs (m + 1) _ (nI 5) b0 b1 b2 = _
      rw [f_X5_digest_L6, if_pos (by decide)]
  have d2 : ∀ (K : Int64 → Int32 → Int32 → Int32 → Int32 → Option (Int64 × Int32 × Int32 × Int32)) (h : Int64), f_X5_digest_L32 fu K estm (nI nr) (nI nf) esas estf fu h 0 b0 b1 b2 = K (hm (fun i => (f_X6_countOf now (nI i)).getD 0) 10 h) (nI 10) b0 b1 b2 := by
    intro K h
    refine loopU0 (L := fun m i s => f_X5_digest_L32 fu K estm (nI nr) (nI nf) esas estf m s i b0 b1 b2) (fun i => hm (fun i => (f_X6_countOf now (nI i)).getD 0) i h) (N := 10) 0 rfl (by omega) (by omega) ?_ ?_
    · intro m i _ hi
      show f_X5_digest_L32 fu K estm (nI nr) (nI nf) esas estf (m + 1) _ (nI i) b0 b1 b2 = f_X5_digest_L32 fu K estm (nI nr) (nI nf) esas estf m _ (nI (i + 1)) b0 b1 b2
      rw [f_X5_digest_L32, if_neg (show ¬ (10 : Int32) ≤ nI i by rw [q10]; exact nI_ge hi (by decide)), (hcv i hi).2, bs, nI_1 i]
      rfl
    · intro m
      show f_X5_digest_L32 fu K estm (nI nr) (nI nf) esas estf (m + 1) _ (nI 10) b0 b1 b2 = _
      rw [f_X5_digest_L32, if_pos (by decide)]
  have d3 : ∀ (K : Int64 → Int32 → Option (Int64 × Int32 × Int32 × Int32)) (h : Int64), f_X5_digest_L59 fu K eszo fu h 0 = K (hm eszo 32 h) (nI 32) := by
    intro K h
    refine loopU0 (L := fun m i s => f_X5_digest_L59 fu K eszo m s i) (fun i => hm eszo i h) (N := 32) 0 rfl (by omega) (by omega) ?_ ?_
    · intro m i _ hi
      show f_X5_digest_L59 fu K eszo (m + 1) _ (nI i) = f_X5_digest_L59 fu K eszo m _ (nI (i + 1))
      rw [f_X5_digest_L59, if_neg (show ¬ (32 : Int32) ≤ nI i by rw [q32]; exact nI_ge hi (by decide)), if_pos (zok_nI hi (by decide)), nI_clamp (by omega), nI_1 i]
      rfl
    · intro m
      show f_X5_digest_L59 fu K eszo (m + 1) _ (nI 32) = _
      rw [f_X5_digest_L59, if_pos (by decide)]
  have d4 : ∀ (K : Int64 → Int32 → Option (Int64 × Int32 × Int32 × Int32)) (h : Int64), f_X5_digest_L114 fu K espf fu h 0 = K (hm espf 7 h) (nI 7) := by
    intro K h
    refine loopU0 (L := fun m i s => f_X5_digest_L114 fu K espf m s i) (fun i => hm espf i h) (N := 7) 0 rfl (by omega) (by omega) ?_ ?_
    · intro m i _ hi
      show f_X5_digest_L114 fu K espf (m + 1) _ (nI i) = f_X5_digest_L114 fu K espf m _ (nI (i + 1))
      rw [f_X5_digest_L114, if_neg (show ¬ (7 : Int32) ≤ nI i by rw [q7]; exact nI_ge hi (by decide)), if_pos (zok_nI hi (by decide)), nI_clamp (by omega), nI_1 i]
      rfl
    · intro m
      show f_X5_digest_L114 fu K espf (m + 1) _ (nI 7) = _
      rw [f_X5_digest_L114, if_pos (by decide)]
  have m1 : ∀ K : Int32 → Int64 → Option (Int64 × Int64), f_X6_digest_L9 fu K states bytes refused fu 0 2573 = K (nI 5) (hm (tv b0 b1 b2 txn yhs) 5 2573) := by
    intro K
    refine loopU0 (L := fun m i s => f_X6_digest_L9 fu K states bytes refused m i s) (fun i => hm (tv b0 b1 b2 txn yhs) i 2573) (N := 5) 0 rfl (by omega) (by omega) ?_ ?_
    · intro m i _ hi
      show f_X6_digest_L9 fu K states bytes refused (m + 1) (nI i) _ = f_X6_digest_L9 fu K states bytes refused m (nI (i + 1)) _
      rw [f_X6_digest_L9, if_neg (show ¬ (5 : Int32) ≤ nI i by rw [q5]; exact nI_ge hi (by decide)), f_toldM hi, bs, f_X6_mix, bs, nI_1 i, ← x0, ← x1, ← x2, ← hb, ← hst]
      rfl
    · intro m
      show f_X6_digest_L9 fu K states bytes refused (m + 1) (nI 5) _ = _
      rw [f_X6_digest_L9, if_pos (by decide)]
  have m2 : ∀ (K : Int32 → Int64 → Option (Int64 × Int64)) (h : Int64), f_X6_digest_L32 fu K now fu 0 h = K (nI 10) (hm (fun i => (f_X6_countOf now (nI i)).getD 0) 10 h) := by
    intro K h
    refine loopU0 (L := fun m i s => f_X6_digest_L32 fu K now m i s) (fun i => hm (fun i => (f_X6_countOf now (nI i)).getD 0) i h) (N := 10) 0 rfl (by omega) (by omega) ?_ ?_
    · intro m i _ hi
      show f_X6_digest_L32 fu K now (m + 1) (nI i) _ = f_X6_digest_L32 fu K now m (nI (i + 1)) _
      rw [f_X6_digest_L32, if_neg (show ¬ (10 : Int32) ≤ nI i by rw [q10]; exact nI_ge hi (by decide)), (hcv i hi).1, bs, f_X6_mix, bs, nI_1 i]
      rfl
    · intro m
      show f_X6_digest_L32 fu K now (m + 1) (nI 10) _ = _
      rw [f_X6_digest_L32, if_pos (by decide)]
  have m3 : ∀ (K : Int32 → Int64 → Option (Int64 × Int64)) (h : Int64), f_X6_digest_L56 fu K now fu 0 h = K (nI 32) (hm eszo 32 h) := by
    intro K h
    refine loopU0 (L := fun m i s => f_X6_digest_L56 fu K now m i s) (fun i => hm eszo i h) (N := 32) 0 rfl (by omega) (by omega) ?_ ?_
    · intro m i _ hi
      show f_X6_digest_L56 fu K now (m + 1) (nI i) _ = f_X6_digest_L56 fu K now m (nI (i + 1)) (31 * hm eszo i h + Int32.toInt64 (eszo i))
      rw [f_X6_digest_L56, if_neg (show ¬ (32 : Int32) ≤ nI i by rw [q32]; exact nI_ge hi (by decide)), q0, nI_add, Nat.zero_add, if_pos (zok_nI (by omega) (by decide)), nI_clamp (by omega), f_X6_mix, bs, nI_1 i, show eszo i = now i from p0 i hi]
    · intro m
      show f_X6_digest_L56 fu K now (m + 1) (nI 32) _ = _
      rw [f_X6_digest_L56, if_pos (by decide)]
  have m4 : ∀ (K : Int32 → Int64 → Option (Int64 × Int64)) (h : Int64), f_X6_digest_L83 fu K now fu 0 h = K (nI (11 * nr)) (hm esrf (11 * nr) h) := by
    intro K h
    refine loopU0 (L := fun m i s => f_X6_digest_L83 fu K now m i s) (fun i => hm esrf i h) (N := 11 * nr) 0 rfl (by omega) (by omega) ?_ ?_
    · intro m i _ hi
      show f_X6_digest_L83 fu K now (m + 1) (nI i) _ = f_X6_digest_L83 fu K now m (nI (i + 1)) (31 * hm esrf i h + Int32.toInt64 (esrf i))
      rw [f_X6_digest_L83, if_pos (show zok 32 401 = true by decide), tn32, h3, q11, pk_mul, if_neg (nI_ge hi (by omega)), q33, nI_add, if_pos (zok_nI (by omega) (by decide)), nI_clamp (by omega), f_X6_mix, bs, nI_1 i, show esrf i = now (33 + i) from h4 i hi]
    · intro m
      show f_X6_digest_L83 fu K now (m + 1) (nI (11 * nr)) _ = _
      rw [f_X6_digest_L83, if_pos (show zok 32 401 = true by decide), tn32, h3, q11, pk_mul, if_pos (nI_le (Nat.le_refl _) (by omega))]
  have m5 : ∀ (K : Int32 → Int64 → Option (Int64 × Int64)) (h : Int64), f_X6_digest_L119 fu K now fu 0 h = K (nI (7 * nf)) (hm esff (7 * nf) h) := by
    intro K h
    refine loopU0 (L := fun m i s => f_X6_digest_L119 fu K now m i s) (fun i => hm esff i h) (N := 7 * nf) 0 rfl (by omega) (by omega) ?_ ?_
    · intro m i _ hi
      show f_X6_digest_L119 fu K now (m + 1) (nI i) _ = f_X6_digest_L119 fu K now m (nI (i + 1)) (31 * hm esff i h + Int32.toInt64 (esff i))
      rw [f_X6_digest_L119, if_pos z298, t298, f3, q7, pk_mul, if_neg (nI_ge hi (by omega)), q299, nI_add, if_pos (zok_nI (by omega) (by decide)), nI_clamp (by omega), f_X6_mix, bs, nI_1 i, show esff i = now (299 + i) from f4 i hi]
    · intro m
      show f_X6_digest_L119 fu K now (m + 1) (nI (7 * nf)) _ = _
      rw [f_X6_digest_L119, if_pos z298, t298, f3, q7, pk_mul, if_pos (nI_le (Nat.le_refl _) (by omega))]
  have m6 : ∀ (K : Int32 → Int64 → Option (Int64 × Int64)) (h : Int64), f_X6_digest_L157 fu K now fu 1 h = K (nI 8) (hm espf 7 h) := by
    intro K h
    refine loopU0 (L := fun m i s => f_X6_digest_L157 fu K now m i s) (fun i => hm espf (i - 1) h) (N := 8) 1 rfl (by omega) (by omega) ?_ ?_
    · intro m i hi0 hi
      obtain ⟨i, rfl⟩ : ∃ j, i = j + 1 := ⟨i - 1, by omega⟩
      show f_X6_digest_L157 fu K now (m + 1) (nI (i + 1)) _ = f_X6_digest_L157 fu K now m (nI (i + 1 + 1)) (31 * hm espf i h + Int32.toInt64 (espf i))
      rw [f_X6_digest_L157, if_neg (show ¬ (8 : Int32) ≤ nI (i + 1) by rw [q8]; exact nI_ge hi (by decide)), q386, nI_add, if_pos (zok_nI (by omega) (by decide)), nI_clamp (by omega), f_X6_mix, bs, nI_1 (i + 1), show espf i = now (386 + (i + 1)) from (t0 i (by omega)).trans (congrArg now (by omega))]
      rfl
    · intro m
      show f_X6_digest_L157 fu K now (m + 1) (nI 8) _ = _
      rw [f_X6_digest_L157, if_pos (by decide)]
  unfold f_X5_digest f_X6_digest
  rw [d1, d2, d3, show f_X3_mixInto fu 11 (nI nr) 132 esrf _ = _ from f_mixInto (w := 11) hf h1 (by omega) (by omega) (by decide), bs, show f_X3_mixInto fu 7 (nI nf) 56 esff _ = _ from f_mixInto (w := 7) hf (by omega) (by omega) (by omega) (by decide), bs, d4, m1, m2, m3, m4, m5, m6]
  exact ⟨_, rfl, rfl⟩
end P48
