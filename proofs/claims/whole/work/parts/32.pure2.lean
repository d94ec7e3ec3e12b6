theorem iteF {α : Type} {a b : α} : (if zB false = 0 then a else b) = a := if_pos rfl
theorem iteT {α : Type} {a b : α} : (if zB true = 0 then a else b) = b := if_neg (by decide)
theorem ZnR.w {c : Nat → Nat → Int32} {w w' : Nat → Int32} (h : ZnR c w) (e : ∀ k, k < 32 → w' k = w k) : ZnR c w' := fun a ha => by rw [e a ha]; exact h a ha
theorem RuR.w {c : Nat → Nat → Int32} {w w' : Nat → Int32} {n : Nat} (h : RuR c w n) (e : ∀ k, 32 ≤ k → k < 165 → w' k = w k) : RuR c w' n := by
  obtain ⟨a1, a2, a3, a4, a5⟩ := h
  exact ⟨a1, a2, by rw [e 32 (by omega) (by omega)]; exact a3, fun k hk => by rw [e _ (by omega) (by omega)]; exact a4 k hk, fun r hr => by rw [e _ (by omega) (by omega)]; exact a5 r hr⟩
theorem KeR.w {c : Nat → Nat → Int32} {w w' : Nat → Int32} {n : Nat} (h : KeR c w n) (e : ∀ k, 165 ≤ k → k < 298 → w' k = w k) : KeR c w' n := by
  obtain ⟨a1, a2, a3, a4, a5⟩ := h
  exact ⟨a1, a2, by rw [e 165 (by omega) (by omega)]; exact a3, fun k hk => by rw [e _ (by omega) (by omega)]; exact a4 k hk, fun r hr => by rw [e _ (by omega) (by omega)]; exact a5 r hr⟩
theorem FlR.w {c : Nat → Nat → Int32} {w w' : Nat → Int32} {n : Nat} (h : FlR c w n) (e : ∀ k, 298 ≤ k → k < 355 → w' k = w k) : FlR c w' n := by
  obtain ⟨c1, c2, c3, c4, c5, c6⟩ := h
  refine ⟨c1, c2, by rw [e 298 (by omega) (by omega)]; exact c3, fun k hk => by rw [e _ (by omega) (by omega)]; exact c4 k hk, fun i hi => ?_, fun i j hij hj => ?_⟩
  · have := c5 i hi
    unfold flowOk at this ⊢
    rw [e (299 + 7 * i) (by omega) (by omega), e (299 + 7 * i + 1) (by omega) (by omega), e (299 + 7 * i + 2) (by omega) (by omega), e (299 + 7 * i + 3) (by omega) (by omega), e (299 + 7 * i + 4) (by omega) (by omega), e (299 + 7 * i + 6) (by omega) (by omega)]
    exact this
  · have := c6 i j hij hj
    unfold flowNe at this ⊢
    rw [e (299 + 7 * i) (by omega) (by omega), e (299 + 7 * i + 1) (by omega) (by omega), e (299 + 7 * i + 2) (by omega) (by omega), e (299 + 7 * i + 3) (by omega) (by omega), e (299 + 7 * j) (by omega) (by omega), e (299 + 7 * j + 1) (by omega) (by omega), e (299 + 7 * j + 2) (by omega) (by omega), e (299 + 7 * j + 3) (by omega) (by omega)]
    exact this
theorem AnR.w {c : Nat → Nat → Int32} {w w' : Nat → Int32} {n : Nat} (h : AnR c w n) (e : ∀ k, 355 ≤ k → k < 386 → w' k = w k) : AnR c w' n := by
  obtain ⟨a1, a2, a3, a4⟩ := h
  exact ⟨a1, a2, by rw [e 355 (by omega) (by omega)]; exact a3, fun k hk => by rw [e _ (by omega) (by omega)]; exact a4 k hk⟩
theorem ScR.w {c : Nat → Nat → Int32} {w w' : Nat → Int32} (h : ScR c w) (e : ∀ k, 386 ≤ k → k < 401 → w' k = w k) : ScR c w' := by
  obtain ⟨a1, a2, a3⟩ := h
  exact ⟨fun g hg => by rw [e _ (by omega) (by omega)]; exact a1 g hg, by rw [e 394 (by omega) (by omega)]; exact a2, fun t ht => by rw [e _ (by omega) (by omega)]; exact a3 t ht⟩
theorem ix3 (b m r c : Nat) : nI b + nI m * nI r + nI c = nI (b + m * r + c) := by rw [pk_mul, nI_add, nI_add]
section P2
variable {fu : Nat} {b0 b1 b2 yhs yhn states : Int32} {estm : Int32} {eszo : Nat → Int32} {esrs : Int32} {esrf : Nat → Int32} {esks : Int32} {eskf : Nat → Int32} {esfs : Int32} {esff : Nat → Int32} {esas : Int32} {esaf espf estf : Nat → Int32} {R : Nat → Nat → Nat → Int32} {now past refused : Nat → Int32}
theorem s_zoneOf (hs : SR (pk12 estm eszo esrs esrf esks eskf esfs esff esas esaf espf estf) now) (hc : CR b0 b1 b2 refused) (a1 : Int32) : ∃ r c0 c1 c2 rf, f_X5_zoneOf b0 b1 b2 eszo a1 = some (r, c0, c1, c2) ∧ f_X6_zoneOf now refused a1 = some (r, rf) ∧ CR c0 c1 c2 rf := by
  unfold f_X5_zoneOf f_X6_zoneOf
  rw [f_within, f_isAddress, bs, bs]
  cases hz : zin a1 0 31 with
  | false =>
    rw [iteF, iteF, f_failsB, f_bad]
    exact ⟨_, _, _, _, _, rfl, rfl, hc.bad⟩
  | true =>
    obtain ⟨a, ha, rfl⟩ := zin_nat (n := 31) (by decide) hz
    rw [iteT, iteT, q0, nI_add, Nat.zero_add, if_pos (zok_nI (by omega) (by decide)), if_pos (zok_nI (by omega) (by decide)), nI_clamp (by omega)]
    refine ⟨now a, b0, b1, b2, refused, ?_, rfl, hc⟩
    rw [show eszo a = now a from hs.1 a (by omega)]
theorem Lzone {K1 : Int32 → Int32 → (Nat → Int32) → Option (Int32 × Int32 × Int32 × Int32 × Int32 × Int32 × (Nat → Int32) × (Nat → Nat → Nat → Int32))} {K2 : Int32 → Int32 → (Nat → Int32) → Option (Int32 × Int32 × (Nat → Int32) × (Nat → Int32) × (Nat → Int32))} {a1 : Int32} {b : Nat} (hb : b ≤ 31) : ∀ (m i n n2 : Nat) (v : Int32) (zo nw : Nat → Int32), i + m = b + 1 → m < n → m < n2 → (∀ k, k < 32 → zo k = nw k) → ∃ v' zo' nw', f_X5_zone_L52 fu K1 a1 (nI b) n v (nI i) zo = K1 v' (nI (b + 1)) zo' ∧ f_X6_zone_L43 fu K2 a1 (nI b) n2 v (nI i) nw = K2 v' (nI (b + 1)) nw' ∧ (∀ k, k < 32 → zo' k = nw' k) ∧ ∀ k, 32 ≤ k → nw' k = nw k := by
  intro m
  induction m with
  | zero =>
    intro i n n2 v zo nw hi hn hn2 he
    obtain ⟨n, rfl⟩ : ∃ m, n = m + 1 := ⟨n - 1, by omega⟩
    obtain ⟨n2, rfl⟩ : ∃ m, n2 = m + 1 := ⟨n2 - 1, by omega⟩
    obtain rfl : i = b + 1 := by omega
    have hlt : nI b < nI (b + 1) := nI_lt (by omega) (by omega)
    rw [f_X5_zone_L52, f_X6_zone_L43, if_pos hlt, if_pos hlt]
    exact ⟨v, zo, nw, rfl, rfl, he, fun _ _ => rfl⟩
  | succ m ih =>
    intro i n n2 v zo nw hi hn hn2 he
    obtain ⟨n, rfl⟩ : ∃ m, n = m + 1 := ⟨n - 1, by omega⟩
    obtain ⟨n2, rfl⟩ : ∃ m, n2 = m + 1 := ⟨n2 - 1, by omega⟩
    have hlt : ¬ nI b < nI i := nI_nlt (by omega) (by omega)
    have e0 : (0 : Int32) + nI i = nI i := by rw [q0, nI_add, Nat.zero_add]
    rw [f_X5_zone_L52, f_X6_zone_L43, if_neg hlt, if_neg hlt, e0, if_pos (zok_nI (show i < 32 by omega) (by decide)), if_pos (zok_nI (show i < 401 by omega) (by decide)), if_pos (zok_nI (show i < 32 by omega) (by decide)), if_pos (zok_nI (show i < 401 by omega) (by decide)), if_pos (zok_nI (show i < 401 by omega) (by decide)), nI_clamp (by omega), nI_1, he i (by omega)]
    by_cases hz : nw i = a1
    · rw [if_pos hz, if_pos hz]
      have e1 : v + 0 = v := Int32.add_zero v
      rw [e1]
      obtain ⟨v', zo', nw', h1, h2, h3, h4⟩ := ih (i + 1) n n2 v zo (upd nw i a1) (by omega) (by omega) (by omega) (fun k hk => by
        by_cases hki : k = i
        · rw [hki, pk_us, he i (by omega), hz]
        · rw [pk_un hki]; exact he k hk)
      exact ⟨v', zo', nw', h1, h2, h3, fun k hk => by rw [h4 k hk, pk_un (by omega)]⟩
    · rw [if_neg hz, if_neg hz]
      obtain ⟨v', zo', nw', h1, h2, h3, h4⟩ := ih (i + 1) n n2 (v + 1) (upd zo i a1) (upd nw i a1) (by omega) (by omega) (by omega) (fun k hk => by
        by_cases hki : k = i
        · rw [hki, pk_us, pk_us]
        · rw [pk_un hki, pk_un hki]; exact he k hk)
      exact ⟨v', zo', nw', h1, h2, h3, fun k hk => by rw [h4 k hk, pk_un (by omega)]⟩
theorem s_zone (hf : 2000 < fu) (hs : SR (pk12 estm eszo esrs esrf esks eskf esfs esff esas esaf espf estf) now) (hh : HR R yhs yhn states past) (hc : CR b0 b1 b2 refused) (a1 a2 a3 : Int32) : ∃ r c0 c1 c2 ys yn zo R' st nw pa rf, f_X5_zone fu b0 b1 b2 yhs yhn estm eszo esrs esrf esks eskf esfs esff esas esaf espf estf R a1 a2 a3 = some (r, c0, c1, c2, ys, yn, zo, R') ∧ f_X6_zone fu states now past refused a1 a2 a3 = some (r, st, nw, pa, rf) ∧ SR (pk12 estm zo esrs esrf esks eskf esfs esff esas esaf espf estf) nw ∧ HR R' ys yn st pa ∧ CR c0 c1 c2 rf := by
  unfold f_X5_zone f_X6_zone
  simp only [f_within, f_in, f_isAddress, bs, f_failsB, f_bad]
  cases h1 : zin a1 0 5 with
  | false =>
    rw [iteF, iteF]
    exact ⟨_, _, _, _, _, _, _, _, _, _, _, _, rfl, rfl, hs, hh, hc.bad⟩
  | true =>
    rw [iteT, iteT]
    cases h3 : zin a3 0 31 with
    | false =>
      rw [iteF]
      cases h2 : zin a2 0 31 with
      | false =>
        rw [iteF]
        exact ⟨_, _, _, _, _, _, _, _, _, _, _, _, rfl, rfl, hs, hh, hc.bad⟩
      | true =>
        rw [iteT, iteF]
        exact ⟨_, _, _, _, _, _, _, _, _, _, _, _, rfl, rfl, hs, hh, hc.bad⟩
    | true =>
      obtain ⟨b, hb, rfl⟩ := zin_nat (n := 31) (by decide) h3
      rw [iteT]
      cases h2 : zin a2 0 31 with
      | false =>
        have h4 : zin a2 0 (nI b) = false := by
          cases h4 : zin a2 0 (nI b) with
          | false => rfl
          | true =>
            obtain ⟨a, ha, rfl⟩ := zin_nat (by omega) h4
            have : zin (nI a) 0 (nI 31) = true := by rw [zin_nI (by omega) (by omega)]; exact decide_eq_true (by omega)
            rw [show zin (nI a) 0 (nI 31) = zin (nI a) 0 31 from rfl, h2] at this
            cases this
        rw [h4, iteF, iteF]
        exact ⟨_, _, _, _, _, _, _, _, _, _, _, _, rfl, rfl, hs, hh, hc.bad⟩
      | true =>
        obtain ⟨a, ha, rfl⟩ := zin_nat (n := 31) (by decide) h2
        rw [zin_nI (by omega) (by omega), iteT, iteT]
        by_cases hab : a ≤ b
        · rw [decide_eq_true hab, iteT, if_pos (nI_le hab (by omega))]
          obtain ⟨ys, yn, R', st, pa, e1, e2, e3⟩ := rem_step hf hs hh
          rw [e1, e2, bs, bs, q0]
          obtain ⟨v', zo', nw', g1, g2, g3, g4⟩ := Lzone (fu := fu) (K1 := fun (x1 : Int32) (x2 : Int32) (x3 : Nat → Int32) => some (x1, b0, b1, b2, ys, yn, x3, R')) (K2 := fun (x1 : Int32) (x2 : Int32) (x3 : Nat → Int32) => some (x1, st, x3, pa, refused)) (a1 := a1) hb (b + 1 - a) a fu fu (nI 0) eszo now (by omega) (by omega) (by omega) hs.1
          refine ⟨v', b0, b1, b2, ys, yn, zo', R', st, nw', pa, refused, g1, g2, ?_, e3, hc⟩
          obtain ⟨-, ⟨n, p1⟩, ⟨nk, p2⟩, ⟨nf, p3⟩, ⟨na, p4⟩, p5⟩ := hs
          exact ⟨g3, ⟨n, RuR.w p1 (fun k h1 h2 => g4 k (by omega))⟩, ⟨nk, KeR.w p2 (fun k h1 h2 => g4 k (by omega))⟩, ⟨nf, FlR.w p3 (fun k h1 h2 => g4 k (by omega))⟩, ⟨na, AnR.w p4 (fun k h1 h2 => g4 k (by omega))⟩, ScR.w p5 (fun k h1 h2 => g4 k (by omega))⟩
        · rw [decide_eq_false hab, iteF, if_neg (nI_ge (by omega) (by omega))]
          exact ⟨_, _, _, _, _, _, _, _, _, _, _, _, rfl, rfl, hs, hh, hc.bad⟩
theorem s_span (hf : 2000 < fu) (hs : SR (pk12 estm eszo esrs esrf esks eskf esfs esff esas esaf espf estf) now) (hh : HR R yhs yhn states past) (hc : CR b0 b1 b2 refused) (a1 a2 : Int32) : ∃ r c0 c1 c2 ys yn pf R' st nw pa rf, f_X5_span b0 b1 b2 yhs yhn estm eszo esrs esrf esks eskf esfs esff esas esaf espf estf R a1 a2 = some (r, c0, c1, c2, ys, yn, pf, R') ∧ f_X6_span fu states now past refused a1 a2 = some (r, st, nw, pa, rf) ∧ SR (pk12 estm eszo esrs esrf esks eskf esfs esff esas esaf pf estf) nw ∧ HR R' ys yn st pa ∧ CR c0 c1 c2 rf := by
  unfold f_X5_span f_X6_span
  simp only [f_within, f_in, bs, f_failsB, f_bad]
  cases h1 : zin a1 1 7 with
  | false =>
    rw [iteF, iteF]
    exact ⟨_, _, _, _, _, _, _, _, _, _, _, _, rfl, rfl, hs, hh, hc.bad⟩
  | true =>
    rw [iteT, iteT]
    cases h2 : zin a2 1 100 with
    | false =>
      rw [iteF, iteF]
      exact ⟨_, _, _, _, _, _, _, _, _, _, _, _, rfl, rfl, hs, hh, hc.bad⟩
    | true =>
      obtain ⟨g, hg1, hg7, rfl⟩ := zin_one (n := 7) (by decide) h1
      obtain ⟨ys, yn, R', st, pa, e1, e2, e3⟩ := rem_step hf hs hh
      obtain ⟨t, rfl⟩ : ∃ t, g = t + 1 := ⟨g - 1, by omega⟩
      rw [iteT, iteT, e1, e2, bs, bs, nI_pred, if_pos (zok_nI (show t < 7 by omega) (by decide)), if_pos (zok_nI (show t < 7 by omega) (by decide)), nI_clamp (by omega), q386, nI_add, if_pos (zok_nI (show 386 + (t + 1) < 401 by omega) (by decide)), if_pos (zok_nI (show 386 + (t + 1) < 401 by omega) (by decide)), nI_clamp (by omega)]
      obtain ⟨p0, ⟨n, p1⟩, ⟨nk, p2⟩, ⟨nf, p3⟩, ⟨na, p4⟩, p5, p6, p7⟩ := hs
      have hv : espf t = now (386 + (t + 1)) := (p5 t (by omega)).trans (congrArg now (by omega))
      refine ⟨now (386 + (t + 1)), b0, b1, b2, ys, yn, upd espf t a2, R', st, upd now (386 + (t + 1)) a2, pa, refused, by rw [hv], rfl, ?_, e3, hc⟩
      refine ⟨ZnR.w p0 (fun k hk => pk_un (by omega)), ⟨n, RuR.w p1 (fun k h1 h2 => pk_un (by omega))⟩, ⟨nk, KeR.w p2 (fun k h1 h2 => pk_un (by omega))⟩, ⟨nf, FlR.w p3 (fun k h1 h2 => pk_un (by omega))⟩, ⟨na, AnR.w p4 (fun k h1 h2 => pk_un (by omega))⟩, fun g hg => ?_, ?_, fun g hg => ?_⟩
      · show upd espf t a2 g = upd now (386 + (t + 1)) a2 (387 + g)
        by_cases hgt : g = t
        · rw [hgt, pk_us, show 387 + t = 386 + (t + 1) by omega, pk_us]
        · rw [pk_un hgt, pk_un (by omega)]; exact p5 g hg
      · show estm = upd now (386 + (t + 1)) a2 394
        rw [pk_un (by omega)]; exact p6
      · show estf g = upd now (386 + (t + 1)) a2 (395 + g)
        rw [pk_un (by omega)]; exact p7 g hg
theorem f_isRuleC {n : Nat} (a : Int32) : f_X5_isRule (nI n) a = some (zin a 0 (nI n - 1)) := by
  unfold f_X5_isRule f_X3_size
  rw [bs, f_within]
  rfl
theorem f_isFlowC {n : Nat} (a : Int32) : f_X5_isFlow (nI n) a = some (zin a 0 (nI n - 1)) := by
  unfold f_X5_isFlow f_X3_size
  rw [bs, f_within]
  rfl
theorem tn_32 : Int32.toNatClampNeg 32 = 32 := by decide
theorem f_isRuleM {n : Nat} {now : Nat → Int32} (h : now 32 = nI n) (a : Int32) : f_X6_isRule now a = some (zin a 0 (nI n - 1)) := by
  unfold f_X6_isRule
  rw [if_pos (by decide), tn_32, h, f_in]
  rfl
theorem s_of (hs : SR (pk12 estm eszo esrs esrf esks eskf esfs esff esas esaf espf estf) now) (hc : CR b0 b1 b2 refused) (a1 a2 : Int32) : ∃ r c0 c1 c2 rf, f_X5_of b0 b1 b2 esrs esrf a1 a2 = some (r, c0, c1, c2) ∧ f_X6_of now refused a1 a2 = some (r, rf) ∧ CR c0 c1 c2 rf := by
  obtain ⟨p0, ⟨n, p1, p2, p3, p4, p5⟩, -⟩ := hs
  have e : esrs = nI n := p2
  subst e
  unfold f_X5_of f_X6_of
  rw [f_isRuleC, f_isRuleM p3, bs, bs]
  cases h1 : zin a1 0 (nI n - 1) with
  | false =>
    rw [iteF, iteF, f_failsB, f_bad]
    exact ⟨_, _, _, _, _, rfl, rfl, hc.bad⟩
  | true =>
    rw [iteT, iteT, f_within, f_in, bs, bs]
    cases h2 : zin a2 0 10 with
    | false =>
      rw [iteF, iteF, f_failsB, f_bad]
      exact ⟨_, _, _, _, _, rfl, rfl, hc.bad⟩
    | true =>
      obtain ⟨r, hr, rfl⟩ := zin_m1 (by omega) h1
      obtain ⟨w, hw, rfl⟩ := zin_nat (n := 10) (by decide) h2
      rw [iteT, iteT, get11 hr (by omega) p1, bs, q33, q11, ix3, if_pos (zok_nI (show 33 + 11 * r + w < 401 by omega) (by decide)), nI_clamp (by omega)]
      refine ⟨now (33 + 11 * r + w), b0, b1, b2, refused, ?_, rfl, hc⟩
      rw [show esrf (r * 11 + w) = now (33 + 11 * r + w) from (p4 (r * 11 + w) (by omega)).trans (congrArg now (by omega))]
end P2
