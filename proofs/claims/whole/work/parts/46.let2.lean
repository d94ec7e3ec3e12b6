def RC (rf w : Nat → Int32) (n : Nat) : Prop := n ≤ 12 ∧ w 32 = nI n ∧ (∀ k, k < 11 * n → rf k = w (33 + k)) ∧ ∀ r, r < n → act (w (33 + 11 * r + 9))
theorem RC.w {rf w w' : Nat → Int32} {n : Nat} (h : RC rf w n) (e : ∀ k, 32 ≤ k → k < 165 → w' k = w k) : RC rf w' n := by
  obtain ⟨a1, a3, a4, a5⟩ := h
  exact ⟨a1, by rw [e 32 (by omega) (by omega)]; exact a3, fun k hk => by rw [e _ (by omega) (by omega)]; exact a4 k hk, fun r hr => by rw [e _ (by omega) (by omega)]; exact a5 r hr⟩
theorem act_nI {x : Int32} (h : act x) : ∃ v, v ≤ 2 ∧ x = nI v := by
  rcases h with h | h | h
  · exact ⟨0, by omega, h⟩
  · exact ⟨1, by omega, h⟩
  · exact ⟨2, by omega, h⟩
theorem f_ask {fu n na s d p t : Nat} {zo rf af w fi : Nat → Int32} (hf : 2000 < fu) (hz : ∀ a, a < 32 → zo a = w a) (hR : RC rf w n) (hA : AC af w na) (hs : s < 32) (hd : d < 32) (hp : p < 16) (ht : t < 2) : ∃ v rf' na' af' w' fi', f_X5_askForFlow fu zo (nI n) rf (nI na) af (nI s) (nI d) (nI p) (nI t) = some (nI v, rf', nI na', af') ∧ v ≤ 2 ∧ RC rf' w' n ∧ AC af' w' na' ∧ (∀ k, k < 32 ∨ (165 ≤ k ∧ k < 355) ∨ 386 ≤ k → w' k = w k) ∧ ((f_X6_saidOf fu w (nI s) (nI d) (nI p) (nI t) = some (-1) ∧ f_X6_asks fu w fi (nI s) (nI d) (nI p) (nI t) = some (nI v, w', fi')) ∨ (∃ i, i < 6 ∧ f_X6_saidOf fu w (nI s) (nI d) (nI p) (nI t) = some (nI i) ∧ f_X6_saidGoes fu w (nI i) = some w' ∧ v = 1 ∧ fi' = fi)) := by
  have hR0 := hR
  have hA0 := hA
  obtain ⟨r1, r2, r3, r4⟩ := hR
  obtain ⟨a1, a2, a3⟩ := hA
  have r3' : ∀ k, k < 11 * n → rf k = (fun j => w (33 + j)) k := r3
  unfold f_X5_askForFlow
  rw [f_rowA hf a1, bs, f_saidOf hf a1 a2]
  have e : fst1 (fun i => such w (356 + 5 * i) (nI s) (nI d) (nI p) (nI t)) na 0 = fst1 (fun i => such af (5 * i) (nI s) (nI d) (nI p) (nI t)) na 0 := fst1_congr (fun i _ hi => such_c (fun c hc => by
    rw [a3 _ (by omega)]
    exact congrArg w (by omega)))
  rw [e]
  cases hq : fst1 (fun i => such af (5 * i) (nI s) (nI d) (nI p) (nI t)) na 0 with
  | some i =>
    have hi := (fst1_some hq).2.1
    obtain ⟨na, rfl⟩ : ∃ m, na = m + 1 := ⟨na - 1, by omega⟩
    rw [show oI (some i) = nI i from rfl, if_neg (oI_ne (show i < 2 ^ 31 by omega)), rem5 (by omega) a1, bs]
    refine ⟨1, rf, na, _, _, fi, rfl, by omega, RC.w hR0 (fun k h1 h2 => ?_), AC.del hA0 (by omega), fun k hk => ?_, Or.inr ⟨i, by omega, rfl, f_saidGoes a2 (by omega) (by omega) hf, rfl, rfl⟩⟩
    · rw [shl_out (by omega), pk_un (by omega)]
    · rw [shl_out (by omega), pk_un (by omega)]
  | none =>
    rw [show oI none = -1 from rfl, if_pos rfl, f_ruleFor hf r1 hs hd, bs]
    obtain ⟨fi', g1, g2, -⟩ := f_findsNow (fu := fu) (fi := fi) r2 r1 hf
    obtain ⟨S, g3, g4⟩ := f_fits (c := 1024 * s + 32 * d + 2 * p + t) g2 (by omega) (by omega)
    have hasks : f_X6_asks fu w fi (nI s) (nI d) (nI p) (nI t) = (if 0 ≤ oI (dec rf zo n s d p t) then (if zok ((33 + (11 * oI (dec rf zo n s d p t))) + 10) 401 then (if zok ((33 + (11 * oI (dec rf zo n s d p t))) + 10) 401 then (if zok ((33 + (11 * oI (dec rf zo n s d p t))) + 9) 401 then (some ((upd w (Int32.toNatClampNeg ((33 + (11 * oI (dec rf zo n s d p t))) + 10)) ((w (Int32.toNatClampNeg ((33 + (11 * oI (dec rf zo n s d p t))) + 10))) + 1)) (Int32.toNatClampNeg ((33 + (11 * oI (dec rf zo n s d p t))) + 9)), upd w (Int32.toNatClampNeg ((33 + (11 * oI (dec rf zo n s d p t))) + 10)) ((w (Int32.toNatClampNeg ((33 + (11 * oI (dec rf zo n s d p t))) + 10))) + 1), fi')) else none) else none) else none) else (some (0, w, fi'))) := by
      unfold f_X6_asks
      rw [g1, bs, f_caseOf, bs, show f_X6_fits fi' 0 (nI (1024 * s + 32 * d + 2 * p + t)) = some S from g3, bs, f_decC hf r1 g4, bs, decC_eq hs hd hp ht, ← dec_c r3' hz hs hd]
    rw [hasks]
    cases hdc : dec rf zo n s d p t with
    | none => exact ⟨0, rf, na, af, w, fi', rfl, by omega, hR0, hA0, fun _ _ => rfl, Or.inl ⟨rfl, rfl⟩⟩
    | some r =>
      have hr := dec_lt hdc
      obtain ⟨v, hv, ev⟩ := act_nI (r4 r hr)
      have m10 : (33 : Int32) + 11 * nI r + 10 = nI (33 + 11 * r + 10) := ix3 33 11 r 10
      have m9 : (33 : Int32) + 11 * nI r + 9 = nI (33 + 11 * r + 9) := ix3 33 11 r 9
      have ef : rf (r * 11 + 9) = w (33 + 11 * r + 9) := (r3 _ (by omega)).trans (congrArg w (by omega))
      have eh : rf (r * 11 + 10) = w (33 + 11 * r + 10) := (r3 _ (by omega)).trans (congrArg w (by omega))
      rw [show oI (some r) = nI r from rfl, if_neg (oI_ne (show r < 2 ^ 31 by omega)), if_pos (nI_pos' (show r < 2 ^ 31 by omega)), m10, m9, show f_X3_get 11 (nI n) 132 rf (nI r) 10 = _ from get11 (c := 10) hr (by omega) r1, bs, show f_X3_put 11 (nI n) 132 rf (nI r) 10 (rf (r * 11 + 10) + 1) = _ from put11 (c := 10) hr (by omega) r1, bs, show f_X3_get 11 (nI n) 132 (upd rf (r * 11 + 10) (rf (r * 11 + 10) + 1)) (nI r) 9 = _ from get11 (c := 9) hr (by omega) r1, bs, pk_un (show r * 11 + 9 ≠ r * 11 + 10 by omega), ef, ev, if_pos (zok_nI (by omega) (by decide)), if_pos (zok_nI (by omega) (by decide)), if_pos (zok_nI (by omega) (by decide)), nI_clamp (show 33 + 11 * r + 10 < 2 ^ 31 by omega), nI_clamp (show 33 + 11 * r + 9 < 2 ^ 31 by omega), pk_un (show 33 + 11 * r + 9 ≠ 33 + 11 * r + 10 by omega), ev]
      refine ⟨v, _, na, af, _, fi', rfl, hv, ⟨r1, ?_, fun k hk => ?_, fun x hx => ?_⟩, AC.w hA0 (fun k h1 h2 => pk_un (by omega)), fun k hk => pk_un (by omega), Or.inl ⟨rfl, rfl⟩⟩
      · rw [pk_un (by omega)]; exact r2
      · by_cases hk2 : k = r * 11 + 10
        · rw [hk2, pk_us, show 33 + (r * 11 + 10) = 33 + 11 * r + 10 by omega, pk_us, eh]
        · rw [pk_un hk2, pk_un (by omega)]
          exact r3 k hk
      · rw [pk_un (by omega)]
        exact r4 x hx
def opT (fu : Nat) (w fi : Nat → Int32) (a1 a2 a3 a4 : Int32) : Option (Int32 × (Nat → Int32) × (Nat → Int32)) := ((f_X6_hasRoom fu w ).bind fun r7 => if (zB r7.1) = 0 then (some (4, r7.2, fi)) else (if zok 298 401 then ((f_X6_flowAt  (r7.2 (Int32.toNatClampNeg 298))).bind fun r8 => if zok r8 401 then (if zok (r8 + 1) 401 then (if zok (r8 + 2) 401 then (if zok (r8 + 3) 401 then (if zok (r8 + 6) 401 then (if a4 = 0 then ((f_X6_becomes (upd (upd (upd (upd (upd r7.2 (Int32.toNatClampNeg r8) a1) (Int32.toNatClampNeg (r8 + 1)) a2) (Int32.toNatClampNeg (r8 + 2)) a3) (Int32.toNatClampNeg (r8 + 3)) a4) (Int32.toNatClampNeg (r8 + 6)) (-1)) r8 1).bind fun r10 => if zok 298 401 then (if zok 298 401 then (some (1, upd r10 (Int32.toNatClampNeg 298) ((r10 (Int32.toNatClampNeg 298)) + 1), fi)) else none) else none) else ((f_X6_becomes (upd (upd (upd (upd (upd r7.2 (Int32.toNatClampNeg r8) a1) (Int32.toNatClampNeg (r8 + 1)) a2) (Int32.toNatClampNeg (r8 + 2)) a3) (Int32.toNatClampNeg (r8 + 3)) a4) (Int32.toNatClampNeg (r8 + 6)) (-1)) r8 6).bind fun r9 => if zok 298 401 then (if zok 298 401 then (some (1, upd r9 (Int32.toNatClampNeg 298) ((r9 (Int32.toNatClampNeg 298)) + 1), fi)) else none) else none)) else none) else none) else none) else none) else none) else none))
def apW (n st : Nat) (x y p t : Int32) (w : Nat → Int32) : Nat → Int32 := upd (upd (upd (upd (upd (upd (upd (upd w (299 + 7 * n) x) (299 + 7 * n + 1) y) (299 + 7 * n + 2) p) (299 + 7 * n + 3) t) (299 + 7 * n + 6) (-1)) (299 + 7 * n + 4) (nI st)) (299 + 7 * n + 5) (w 394 + w (386 + st))) 298 (nI (n + 1))
def apF (n st : Nat) (x y p t due : Int32) (ff : Nat → Int32) : Nat → Int32 := upd (upd (upd (upd (upd (upd (upd ff (n * 7) x) (n * 7 + 1) y) (n * 7 + 2) p) (n * 7 + 3) t) (n * 7 + 6) (-1)) (n * 7 + 4) (nI st)) (n * 7 + 5) due
theorem apFC {ff w : Nat → Int32} {n st s d p t : Nat} {due : Int32} (h : FC ff w n) (hn : n < 8) (hN : NS w n (nI s) (nI d) (nI p) (nI t)) (hs : s < 32) (hd : d < 32) (hp : p < 16) (ht : t < 2) (s1 : 1 ≤ st) (s7 : st ≤ 7) (hdue : due = w 394 + w (386 + st)) : FC (apF n st (nI s) (nI d) (nI p) (nI t) due ff) (apW n st (nI s) (nI d) (nI p) (nI t) w) (n + 1) := by
  have v0 : apW n st (nI s) (nI d) (nI p) (nI t) w (299 + 7 * n) = nI s := by unfold apW; simp (disch := omega) only [pk_un, pk_us]
  have v1 : apW n st (nI s) (nI d) (nI p) (nI t) w (299 + 7 * n + 1) = nI d := by unfold apW; simp (disch := omega) only [pk_un, pk_us]
  have v2 : apW n st (nI s) (nI d) (nI p) (nI t) w (299 + 7 * n + 2) = nI p := by unfold apW; simp (disch := omega) only [pk_un, pk_us]
  have v3 : apW n st (nI s) (nI d) (nI p) (nI t) w (299 + 7 * n + 3) = nI t := by unfold apW; simp (disch := omega) only [pk_un, pk_us]
  have v4 : apW n st (nI s) (nI d) (nI p) (nI t) w (299 + 7 * n + 4) = nI st := by unfold apW; simp (disch := omega) only [pk_un, pk_us]
  have v5 : apW n st (nI s) (nI d) (nI p) (nI t) w (299 + 7 * n + 5) = due := by rw [hdue]; unfold apW; simp (disch := omega) only [pk_un, pk_us]
  have v6 : apW n st (nI s) (nI d) (nI p) (nI t) w (299 + 7 * n + 6) = -1 := by unfold apW; simp (disch := omega) only [pk_un, pk_us]
  have vo : ∀ k, 299 ≤ k → k < 299 + 7 * n → apW n st (nI s) (nI d) (nI p) (nI t) w k = w k := fun k h1 h2 => by unfold apW; simp (disch := omega) only [pk_un, pk_us]
  refine FC.app h hn (fun k hk => ?_) vo ?_ (fun c hc => ?_) ⟨⟨s, hs, v0⟩, ⟨d, hd, v1⟩, ⟨p, hp, v2⟩, ⟨t, ht, v3⟩, ⟨st, s1, s7, v4⟩, Or.inl v6⟩ (fun i hi => ?_)
  · unfold apF; simp (disch := omega) only [pk_un, pk_us]
  · unfold apW; rw [pk_us]
  · have hc7 : c = 0 ∨ c = 1 ∨ c = 2 ∨ c = 3 ∨ c = 4 ∨ c = 5 ∨ c = 6 := by omega
    rcases hc7 with rfl | rfl | rfl | rfl | rfl | rfl | rfl
    · rw [Nat.add_zero, Nat.add_zero, v0, show 7 * n = n * 7 by omega]; unfold apF; simp (disch := omega) only [pk_un, pk_us]
    · rw [v1, show 7 * n + 1 = n * 7 + 1 by omega]; unfold apF; simp (disch := omega) only [pk_un, pk_us]
    · rw [v2, show 7 * n + 2 = n * 7 + 2 by omega]; unfold apF; simp (disch := omega) only [pk_un, pk_us]
    · rw [v3, show 7 * n + 3 = n * 7 + 3 by omega]; unfold apF; simp (disch := omega) only [pk_un, pk_us]
    · rw [v4, show 7 * n + 4 = n * 7 + 4 by omega]; unfold apF; simp (disch := omega) only [pk_un, pk_us]
    · rw [v5, show 7 * n + 5 = n * 7 + 5 by omega]; unfold apF; simp (disch := omega) only [pk_un, pk_us]
    · rw [v6, show 7 * n + 6 = n * 7 + 6 by omega]; unfold apF; simp (disch := omega) only [pk_un, pk_us]
  · unfold flowNe
    rw [v0, v1, v2, v3, vo (299 + 7 * i) (by omega) (by omega), vo (299 + 7 * i + 1) (by omega) (by omega), vo (299 + 7 * i + 2) (by omega) (by omega), vo (299 + 7 * i + 3) (by omega) (by omega)]
    rintro ⟨x2, x3, ⟨x0, x1⟩ | ⟨x0, x1⟩⟩
    · have := such_t.mpr ⟨x0, x1, x2, x3⟩
      rw [(hN i hi).1] at this
      cases this
    · have := such_t.mpr ⟨x0, x1, x2, x3⟩
      rw [(hN i hi).2] at this
      cases this
theorem apW_out {n st k : Nat} {x y p t : Int32} {w : Nat → Int32} (hn : n < 8) (hk : k < 298 ∨ 355 ≤ k) : apW n st x y p t w k = w k := by
  unfold apW
  simp (disch := omega) only [pk_un]
theorem f_opnC {n t : Nat} {tm x y p : Int32} {ff pf : Nat → Int32} (hn : n < 8) (ht : t < 2) : ((f_X5_appendCase 8 7 (nI n) 56 ff x y p (nI t)).bind fun r2 => (f_X3_size r2.1 ).bind fun r3 => (f_X3_put 7 r2.1 56 r2.2 (r3 - 1) 6 (-1)).bind fun r4 => if nI t = 0 then ((f_X2_enterStage tm r2.1 r4 pf (r3 - 1) 1).bind fun r6 => some ((1 : Int32), r2.1, r6)) else ((f_X2_enterStage tm r2.1 r4 pf (r3 - 1) 6).bind fun r5 => some (1, r2.1, r5))) = some (nI 1, nI (n + 1), apF n (if t = 0 then 1 else 6) x y p (nI t) (tm + pf ((if t = 0 then 1 else 6) - 1)) ff) := by
  rw [f_appendF hn, bs]
  dsimp only
  rw [f_X3_size, bs, nI_pred, show f_X3_put 7 (nI (n + 1)) 56 _ (nI n) 6 (-1) = _ from put7 (c := 6) (by omega) (by omega) (by omega), bs]
  have h2 : t = 0 ∨ t = 1 := by omega
  rcases h2 with rfl | rfl
  · rw [if_pos (show nI 0 = 0 from rfl), if_pos rfl, show f_X2_enterStage tm (nI (n + 1)) _ pf (nI n) 1 = _ from f_enter (t := 1) (by omega) (by omega) (by omega) (by omega), bs]
    rfl
  · rw [if_neg (show ¬ nI 1 = 0 by decide), if_neg (by omega), show f_X2_enterStage tm (nI (n + 1)) _ pf (nI n) 6 = _ from f_enter (t := 6) (by omega) (by omega) (by omega) (by omega), bs]
    rfl
theorem f_opnM {fu n t : Nat} {x y p : Int32} {w w' fi : Nat → Int32} (hn : n < 8) (ht : t < 2) (h8 : w' 298 = nI n) (hr : f_X6_hasRoom fu w = some (true, w')) : opT fu w fi x y p (nI t) = some (nI 1, apW n (if t = 0 then 1 else 6) x y p (nI t) w', fi) := by
  unfold opT
  rw [hr, bs]
  dsimp only
  rw [iteT, if_pos z298, t298, h8, f_flowAt, bs, q1, q2, q3, show (6 : Int32) = nI 6 from rfl, nI_add, nI_add, nI_add, nI_add, if_pos (zok_nI (show 299 + 7 * n < 401 by omega) (by decide)), if_pos (zok_nI (show 299 + 7 * n + 1 < 401 by omega) (by decide)), if_pos (zok_nI (show 299 + 7 * n + 2 < 401 by omega) (by decide)), if_pos (zok_nI (show 299 + 7 * n + 3 < 401 by omega) (by decide)), if_pos (zok_nI (show 299 + 7 * n + 6 < 401 by omega) (by decide)), nI_clamp (show 299 + 7 * n < 2 ^ 31 by omega), nI_clamp (show 299 + 7 * n + 1 < 2 ^ 31 by omega), nI_clamp (show 299 + 7 * n + 2 < 2 ^ 31 by omega), nI_clamp (show 299 + 7 * n + 3 < 2 ^ 31 by omega), nI_clamp (show 299 + 7 * n + 6 < 2 ^ 31 by omega), f_becomes hn (by omega) (by omega), f_becomes hn (by omega) (by omega), bs, bs]
  simp only [if_pos z298]
  have h2 : t = 0 ∨ t = 1 := by omega
  rcases h2 with rfl | rfl
  · rw [if_pos (show nI 0 = 0 from rfl), if_pos rfl]
    unfold apW
    simp (disch := omega) only [pk_un, h8, nI_add]
    rfl
  · rw [if_neg (show ¬ nI 1 = 0 by decide), if_neg (by omega)]
    unfold apW
    simp (disch := omega) only [pk_un, h8, nI_add]
    rfl
