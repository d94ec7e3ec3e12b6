theorem loopP {S T : Type} {L : Nat → Int32 → S → Option T} (P : Nat → S → Prop) {N : Nat} {K : S → Option T} (hs : ∀ n i s, i < N → P i s → ∃ s', L (n + 1) (nI i) s = L n (nI (i + 1)) s' ∧ P (i + 1) s') (he : ∀ n s, P N s → L (n + 1) (nI N) s = K s) : ∀ (m i n : Nat) (s : S), i + m = N → m < n → P i s → ∃ s', L n (nI i) s = K s' ∧ P N s' := by
  intro m
  induction m with
  | zero =>
    intro i n s hi hn h
    obtain ⟨n, rfl⟩ : ∃ m, n = m + 1 := ⟨n - 1, by omega⟩
    obtain rfl : i = N := by omega
    exact ⟨s, he n s h, h⟩
  | succ m ih =>
    intro i n s hi hn h
    obtain ⟨n, rfl⟩ : ∃ m, n = m + 1 := ⟨n - 1, by omega⟩
    obtain ⟨s', e1, e2⟩ := hs n i s (by omega) h
    rw [e1]
    exact ih (i + 1) n s' (by omega) (by omega) e2
theorem cg2 {α β γ : Type} {f : α → β → γ} {a a' : α} {b b' : β} (h1 : a = a') (h2 : b = b') : f a b = f a' b' := by rw [h1, h2]
theorem fst1_succ {p : Nat → Bool} : ∀ {m i : Nat}, fst1 p (m + 1) i = (match fst1 p m i with | some j => some j | none => if p (i + m) then some (i + m) else none) := by
  intro m
  induction m with
  | zero =>
    intro i
    show (if p i then some i else none) = (if p (i + 0) then some (i + 0) else none)
    rw [Nat.add_zero]
  | succ m ih =>
    intro i
    show (if p i then some i else fst1 p (m + 1) (i + 1)) = (match (if p i then some i else fst1 p m (i + 1)) with | some j => some j | none => if p (i + (m + 1)) then some (i + (m + 1)) else none)
    by_cases hp : p i = true
    · rw [if_pos hp, if_pos hp]
    · rw [if_neg hp, if_neg hp, ih, show i + 1 + m = i + (m + 1) by omega]
def setN (p : Nat → Bool) : Nat → Int32
  | 0 => 0
  | r + 1 => if p r then setN p r ||| (1 <<< (nI r &&& 31)) else setN p r
theorem tb_setN {p : Nat → Bool} {q : Nat} (hq : q < 32) : ∀ n, n ≤ 32 → tb (setN p n) q = (decide (q < n) && p q) := by
  intro n
  induction n with
  | zero => intro _; unfold setN; rw [tb_0, decide_eq_false (by omega), Bool.false_and]
  | succ n ih =>
    intro hn
    have e : tb (setN p (n + 1)) q = (tb (setN p n) q || (decide (q = n) && p n)) := by
      show tb (if p n then setN p n ||| (1 <<< (nI n &&& 31)) else setN p n) q = _
      cases hp : p n with
      | false => rw [if_neg (by decide), Bool.and_false, Bool.or_false]
      | true => rw [if_pos rfl, tb_or, tb_one n q (by omega) hq, Bool.and_true]
    rw [e, ih (by omega)]
    by_cases hqn : q = n
    · subst hqn
      rw [decide_eq_false (by omega), decide_eq_true rfl, decide_eq_true (by omega), Bool.false_and, Bool.false_or]
    · rw [decide_eq_false hqn, Bool.false_and, Bool.or_false]
      by_cases hlt : q < n
      · rw [decide_eq_true hlt, decide_eq_true (by omega)]
      · rw [decide_eq_false hlt, decide_eq_false (by omega)]
theorem f_fittingEnd {fu n e : Nat} {tf : Nat → Int32} {a z : Int32} (hf : 2000 < fu) (hn : n ≤ 12) (he : e < 2) : f_X1_fittingEnd fu (nI n) 11 (nI n) 132 tf (nI e) a z = some (setN (fun q => fitE tf q e a z) n) := by
  unfold f_X1_fittingEnd
  refine loopU0 (L := fun m i s => f_X1_fittingEnd_L6 fu (fun (x1 : Int32) (x2 : Int32) => some x1) (nI e) a z (nI n) 11 (nI n) 132 tf m s i) (fun i => setN (fun q => fitE tf q e a z) i) (N := n) 0 rfl (by omega) (by omega) ?_ ?_
  · intro m i _ hi
    show f_X1_fittingEnd_L6 fu _ (nI e) a z (nI n) 11 (nI n) 132 tf (m + 1) _ (nI i) = f_X1_fittingEnd_L6 fu _ (nI e) a z (nI n) 11 (nI n) 132 tf m _ (nI (i + 1))
    rw [f_X1_fittingEnd_L6, if_neg (nI_ge hi (by omega)), f_fitsEnd hi hn he, bs, nI_1 i]
    show _ = f_X1_fittingEnd_L6 fu _ (nI e) a z (nI n) 11 (nI n) 132 tf m (if fitE tf i e a z then setN (fun q => fitE tf q e a z) i ||| (1 <<< (nI i &&& 31)) else setN (fun q => fitE tf q e a z) i) (nI (i + 1))
    cases fitE tf i e a z with
    | false => rw [iteF, if_neg (by decide)]
    | true => rw [iteT, if_pos rfl]
  · intro m
    show f_X1_fittingEnd_L6 fu _ (nI e) a z (nI n) 11 (nI n) 132 tf (m + 1) _ (nI n) = _
    rw [f_X1_fittingEnd_L6, if_pos (nI_le (Nat.le_refl _) (by omega))]
theorem f_servicesOf {fu n r : Nat} {tf : Nat → Int32} (hf : 2000 < fu) (hn : n ≤ 12) (hr : r < n) : f_X1_servicesOf fu 11 (nI n) 132 tf (nI r) = some (setN (fun k => fitS tf r (nI (k / 2)) (nI (k % 2))) 32) := by
  unfold f_X1_servicesOf
  refine loopU0 (L := fun m i s => f_X1_servicesOf_L4 fu (fun (x1 : Int32) (x2 : Int32) => some x1) (nI r) 11 (nI n) 132 tf m s i) (fun i => setN (fun k => fitS tf r (nI (k / 2)) (nI (k % 2))) i) (N := 32) 0 rfl (by omega) (by omega) ?_ ?_
  · intro m i _ hi
    show f_X1_servicesOf_L4 fu _ (nI r) 11 (nI n) 132 tf (m + 1) _ (nI i) = f_X1_servicesOf_L4 fu _ (nI r) 11 (nI n) 132 tf m _ (nI (i + 1))
    have x4 : nI i - nI i / 2 * 2 = nI (i % 2) := pk_rem (d := 2) (by omega) (by decide) (by decide)
    have x5 : nI i / 2 = nI (i / 2) := pk_div (d := 2) (by omega) (by decide) (by decide)
    rw [f_X1_servicesOf_L4, if_neg (show ¬ (32 : Int32) ≤ nI i by rw [q32]; exact nI_ge (by omega) (by decide)), x4, x5, f_fitsService hr hn, bs, nI_1 i]
    show _ = f_X1_servicesOf_L4 fu _ (nI r) 11 (nI n) 132 tf m (if fitS tf r (nI (i / 2)) (nI (i % 2)) then setN (fun k => fitS tf r (nI (k / 2)) (nI (k % 2))) i ||| (1 <<< (nI i &&& 31)) else setN (fun k => fitS tf r (nI (k / 2)) (nI (k % 2))) i) (nI (i + 1))
    cases fitS tf r (nI (i / 2)) (nI (i % 2)) with
    | false => rw [iteF, if_neg (by decide)]
    | true => rw [iteT, if_pos rfl]
  · intro m
    show f_X1_servicesOf_L4 fu _ (nI r) 11 (nI n) 132 tf (m + 1) _ (nI 32) = _
    rw [f_X1_servicesOf_L4, if_pos (by decide)]
/-- what a picture shows of a list -/
def PIC (A B C D : Nat → Int32) (n : Nat) (tf zo : Nat → Int32) : Prop := (∀ a, a < 32 → ∀ q, q < 32 → tb (A a) q = (decide (q < n) && fitE tf q 0 (nI a) (zo a))) ∧ (∀ a, a < 32 → ∀ q, q < 32 → tb (B a) q = (decide (q < n) && fitE tf q 1 (nI a) (zo a))) ∧ (∀ r, r < n → ∀ k, k < 32 → tb (C r) k = fitS tf r (nI (k / 2)) (nI (k % 2))) ∧ ∀ r, r < n → D r = tf (11 * r + 9)
theorem f_draw {fu n : Nat} {fa fb fc fd tf zo : Nat → Int32} (hf : 2000 < fu) (hn : n ≤ 12) : ∃ A B C D, f_X1_draw fu fa fb fc fd 11 (nI n) 132 tf zo = some (nI n, 0, 0, 0, A, B, C, D) ∧ PIC A B C D n tf zo := by
  unfold f_X1_draw
  have hz : zmin (nI n) 12 = nI n := by
    unfold zmin
    rw [if_neg (show ¬ (12 : Int32) < nI n by rw [q12, nI_ltI (by decide) (by omega)]; omega)]
  rw [f_X3_size, bs, hz]
  have l1 : ∀ K : Int32 → (Nat → Int32) → (Nat → Int32) → Option (Int32 × Int32 × Int32 × Int32 × (Nat → Int32) × (Nat → Int32) × (Nat → Int32) × (Nat → Int32)), f_X1_draw_L15 fu K (nI n) 11 (nI n) 132 tf zo fu 0 fa fb = K (nI 32) (fun k => if k < 32 then setN (fun q => fitE tf q 0 (nI k) (zo k)) n else fa k) (fun k => if k < 32 then setN (fun q => fitE tf q 1 (nI k) (zo k)) n else fb k) := by
    intro K
    refine loopU0 (L := fun m i (s : (Nat → Int32) × (Nat → Int32)) => f_X1_draw_L15 fu K (nI n) 11 (nI n) 132 tf zo m i s.1 s.2) (fun i => (fun k => if k < i then setN (fun q => fitE tf q 0 (nI k) (zo k)) n else fa k, fun k => if k < i then setN (fun q => fitE tf q 1 (nI k) (zo k)) n else fb k)) (N := 32) (s0 := (fa, fb)) 0 (cg2 (f := Prod.mk) (funext fun k => (if_neg (by omega)).symm) (funext fun k => (if_neg (by omega)).symm)) (by omega) (by omega) ?_ ?_
    · intro m i _ hi
      show f_X1_draw_L15 fu K (nI n) 11 (nI n) 132 tf zo (m + 1) (nI i) _ _ = f_X1_draw_L15 fu K (nI n) 11 (nI n) 132 tf zo m (nI (i + 1)) _ _
      dsimp only
      have hlt : ¬ (32 : Int32) ≤ nI i := by rw [q32]; exact nI_ge (by omega) (by decide)
      have hz : zok (nI i) 32 = true := zok_nI (by omega) (by decide)
      rw [f_X1_draw_L15, if_neg hlt, if_neg hlt, if_pos hz, nI_clamp (by omega), show f_X1_fittingEnd fu (nI n) 11 (nI n) 132 tf 0 (nI i) (zo i) = _ from f_fittingEnd (e := 0) hf hn (by omega), bs, if_pos hz, if_pos hz, show f_X1_fittingEnd fu (nI n) 11 (nI n) 132 tf 1 (nI i) (zo i) = _ from f_fittingEnd (e := 1) hf hn (by omega), bs, if_pos hz, nI_1 i]
      refine cg2 (funext fun k => ?_) (funext fun k => ?_)
      · by_cases hk : k = i
        · rw [hk, pk_us, if_pos (by omega)]
        · rw [pk_un hk]
          by_cases h2 : k < i
          · rw [if_pos h2, if_pos (by omega)]
          · rw [if_neg h2, if_neg (by omega)]
      · by_cases hk : k = i
        · rw [hk, pk_us, if_pos (by omega)]
        · rw [pk_un hk]
          by_cases h2 : k < i
          · rw [if_pos h2, if_pos (by omega)]
          · rw [if_neg h2, if_neg (by omega)]
    · intro m
      show f_X1_draw_L15 fu K (nI n) 11 (nI n) 132 tf zo (m + 1) (nI 32) _ _ = _
      rw [f_X1_draw_L15, if_pos (by decide)]
  have l2 : ∀ K : Int32 → (Nat → Int32) → (Nat → Int32) → Option (Int32 × Int32 × Int32 × Int32 × (Nat → Int32) × (Nat → Int32) × (Nat → Int32) × (Nat → Int32)), f_X1_draw_L67 fu K (nI n) 11 (nI n) 132 tf fu 0 fc fd = K (nI n) (fun k => if k < n then setN (fun j => fitS tf k (nI (j / 2)) (nI (j % 2))) 32 else fc k) (fun k => if k < n then tf (11 * k + 9) else fd k) := by
    intro K
    refine loopU0 (L := fun m i (s : (Nat → Int32) × (Nat → Int32)) => f_X1_draw_L67 fu K (nI n) 11 (nI n) 132 tf m i s.1 s.2) (fun i => (fun k => if k < i then setN (fun j => fitS tf k (nI (j / 2)) (nI (j % 2))) 32 else fc k, fun k => if k < i then tf (11 * k + 9) else fd k)) (N := n) (s0 := (fc, fd)) 0 (cg2 (f := Prod.mk) (funext fun k => (if_neg (by omega)).symm) (funext fun k => (if_neg (by omega)).symm)) (by omega) (by omega) ?_ ?_
    · intro m i _ hi
      show f_X1_draw_L67 fu K (nI n) 11 (nI n) 132 tf (m + 1) (nI i) _ _ = f_X1_draw_L67 fu K (nI n) 11 (nI n) 132 tf m (nI (i + 1)) _ _
      dsimp only
      have hz : zok (nI i) 12 = true := zok_nI (by omega) (by decide)
      rw [f_X1_draw_L67, if_neg (nI_ge hi (by omega)), f_servicesOf hf hn hi, bs, if_pos hz, q9, get11 hi (by omega) hn, bs, if_pos hz, nI_clamp (by omega), nI_1 i]
      refine cg2 (funext fun k => ?_) (funext fun k => ?_)
      · by_cases hk : k = i
        · rw [hk, pk_us, if_pos (by omega)]
        · rw [pk_un hk]
          by_cases h2 : k < i
          · rw [if_pos h2, if_pos (by omega)]
          · rw [if_neg h2, if_neg (by omega)]
      · by_cases hk : k = i
        · rw [hk, pk_us, if_pos (by omega)]
          exact congrArg tf (by omega)
        · rw [pk_un hk]
          by_cases h2 : k < i
          · rw [if_pos h2, if_pos (by omega)]
          · rw [if_neg h2, if_neg (by omega)]
    · intro m
      show f_X1_draw_L67 fu K (nI n) 11 (nI n) 132 tf (m + 1) (nI n) _ _ = _
      rw [f_X1_draw_L67, if_pos (nI_le (Nat.le_refl _) (by omega))]
  rw [l1, l2]
  refine ⟨_, _, _, _, rfl, fun a ha q hq => ?_, fun a ha q hq => ?_, fun r hr k hk => ?_, fun r hr => if_pos hr⟩
  · dsimp only; rw [if_pos ha, tb_setN hq n (by omega)]
  · dsimp only; rw [if_pos ha, tb_setN hq n (by omega)]
  · dsimp only; rw [if_pos hr, tb_setN hk 32 (by omega), decide_eq_true hk, Bool.true_and]
/-- which rule of a set decides a service -/
def ucs (C : Nat → Int32) (n : Nat) (set : Int32) (k : Nat) : Option Nat := fst1 (fun q => tb set q && tb (C q) k) n 0
theorem ucs_succ {C : Nat → Int32} {n k : Nat} {set : Int32} : ucs C (n + 1) set k = (match ucs C n set k with | some j => some j | none => if tb set n && tb (C n) k then some n else none) := by
  unfold ucs
  rw [fst1_succ, Nat.zero_add]
theorem ucs_lt {C : Nat → Int32} {n k j : Nat} {set : Int32} (h : ucs C n set k = some j) : j < n := by
  have := fst1_some h
  omega
theorem ucs_dec {A B C D tf zo : Nat → Int32} {n s d k : Nat} (hP : PIC A B C D n tf zo) (hn : n ≤ 12) (hs : s < 32) (hd : d < 32) (hk : k < 32) : ucs C n (A s &&& B d) k = decC tf zo n (1024 * s + 32 * d + k) := by
  unfold ucs decC dec
  rw [show (1024 * s + 32 * d + k) / 1024 = s by omega, show (1024 * s + 32 * d + k) / 32 % 32 = d by omega, show (1024 * s + 32 * d + k) / 2 % 16 = k / 2 by omega, show (1024 * s + 32 * d + k) % 2 = k % 2 by omega]
  refine fst1_congr (fun q _ hq => ?_)
  obtain ⟨h1, h2, h3, h4⟩ := hP
  rw [tb_and, h1 s hs q (by omega), h2 d hd q (by omega), h3 q (by omega) k hk, decide_eq_true (by omega), Bool.true_and, Bool.true_and, Bool.and_assoc]
  rfl
theorem f_servicesDecided {fu n r : Nat} {C : Nat → Int32} {set : Int32} (hf : 2000 < fu) (hn : n ≤ 12) (hr : r < n) : ∃ x, f_X1_servicesDecided fu (nI n) C (nI r) set = some x ∧ ∀ k, k < 32 → tb x k = decide (ucs C n set k = some r) := by
  unfold f_X1_servicesDecided
  rw [f_within, bs, zin_m1t (by omega) hr, iteT, f_holds (by omega), bs]
  have hfin : ∀ k, ucs C n set k = some r ↔ ((tb set r && tb (C r) k) = true ∧ ucs C r set k = none) := by
    intro k
    constructor
    · intro h
      obtain ⟨a1, a2, a3, a4⟩ := fst1_some h
      exact ⟨a3, fst1_no (fun j h1 h2 => a4 j h1 (by omega))⟩
    · rintro ⟨h1, h2⟩
      exact fst1_eq (by omega) (by omega) h1 (fun j h3 h4 => fst1_none h2 j h3 (by omega))
  cases hset : tb set r with
  | false =>
    rw [iteF]
    refine ⟨0, rfl, fun k hk => ?_⟩
    rw [tb_0]
    refine (decide_eq_false (fun h => ?_)).symm
    have := ((hfin k).mp h).1
    rw [hset] at this
    cases this
  | true =>
    rw [iteT, if_pos (zok_nI (by omega) (by decide)), nI_clamp (by omega)]
    refine Exists.elim (loopP (L := fun m i s => f_X1_servicesDecided_L34 fu (fun (x1 : Int32) (x2 : Int32) => some x1) (nI r) set C m s i) (fun i s => ∀ k, k < 32 → tb s k = (tb (C r) k && (ucs C i set k).isNone)) (N := r) (K := fun s => some s) ?_ ?_ r 0 fu (C r) (by omega) (by omega) ?_) ?_
    · intro m i s hi hP
      show ∃ s', f_X1_servicesDecided_L34 fu _ (nI r) set C (m + 1) s (nI i) = f_X1_servicesDecided_L34 fu _ (nI r) set C m s' (nI (i + 1)) ∧ _
      rw [f_X1_servicesDecided_L34, if_neg (nI_ge hi (by omega)), f_holds (by omega), bs, nI_1 i]
      cases hq : tb set i with
      | false =>
        rw [iteF]
        refine ⟨s, rfl, fun k hk => ?_⟩
        rw [hP k hk, ucs_succ, hq]
        cases ucs C i set k <;> rfl
      | true =>
        rw [iteT, if_pos (zok_nI (by omega) (by decide)), nI_clamp (by omega)]
        refine ⟨_, rfl, fun k hk => ?_⟩
        rw [tb_and, tb_not hk, hP k hk, ucs_succ, hq]
        cases ucs C i set k <;> cases tb (C i) k <;> cases tb (C r) k <;> rfl
    · intro m s _
      show f_X1_servicesDecided_L34 fu _ (nI r) set C (m + 1) s (nI r) = _
      rw [f_X1_servicesDecided_L34, if_pos (nI_le (Nat.le_refl _) (by omega))]
    · intro k hk
      show _ = (tb (C r) k && true)
      rw [Bool.and_true]
    · rintro s' ⟨e1, e2⟩
      refine ⟨s', e1, fun k hk => ?_⟩
      rw [e2 k hk]
      cases hu : ucs C r set k with
      | none =>
        cases hc : tb (C r) k with
        | false =>
          refine (decide_eq_false (fun h => ?_)).symm
          have := ((hfin k).mp h).1
          rw [hc, Bool.and_false] at this
          cases this
        | true => exact (decide_eq_true ((hfin k).mpr ⟨by rw [hset, hc]; rfl, hu⟩)).symm
      | some j =>
        refine Eq.trans (Bool.and_false _) (decide_eq_false (fun h => ?_)).symm
        exact absurd (hu.symm.trans ((hfin k).mp h).2) (by intro h; cases h)
theorem cnt_cases (p : Nat → Bool) : sum (fun s => sum (fun d => cnt (fun k => p (1024 * s + 32 * d + k)) 32) 32) 32 = cnt p 32768 := by
  rw [show 32768 = 1024 * 32 from rfl, cnt_mul]
  refine sum_congr (fun s hs => ?_)
  rw [show 1024 = 32 * 32 from rfl, cnt_mul]
  refine sum_congr (fun d hd => cnt_congr (fun k hk => ?_))
  exact congrArg p (by omega)
theorem f_casesDecided {fu n r : Nat} {A B C D tf zo : Nat → Int32} (hf : 2000 < fu) (hP : PIC A B C D n tf zo) (hn : n ≤ 12) (hr : r < n) : f_X1_casesDecided fu (nI n) A B C (nI r) = some (nI (cnt (fun c => decide (decC tf zo n c = some r)) 32768)) := by
  unfold f_X1_casesDecided
  rw [← cnt_cases]
  have inner : ∀ (K : Int32 → Int32 → Option Int32) (s acc : Nat), s < 32 → f_X1_casesDecided_L13 fu K (nI r) (nI s) (nI n) A B C fu (nI acc) 0 = K (nI (acc + sum (fun d => cnt (fun k => decide (decC tf zo n (1024 * s + 32 * d + k) = some r)) 32) 32)) (nI 32) := by
    intro K s acc hs
    refine loopU0 (L := fun m i x => f_X1_casesDecided_L13 fu K (nI r) (nI s) (nI n) A B C m x i) (fun i => nI (acc + sum (fun d => cnt (fun k => decide (decC tf zo n (1024 * s + 32 * d + k) = some r)) 32) i)) (N := 32) 0 rfl (by omega) (by omega) ?_ ?_
    · intro m i _ hi
      show f_X1_casesDecided_L13 fu K (nI r) (nI s) (nI n) A B C (m + 1) _ (nI i) = f_X1_casesDecided_L13 fu K (nI r) (nI s) (nI n) A B C m _ (nI (i + 1))
      obtain ⟨x, e1, e2⟩ := f_servicesDecided (C := C) (set := A s &&& B i) hf hn hr
      rw [f_X1_casesDecided_L13, if_neg (show ¬ (32 : Int32) ≤ nI i by rw [q32]; exact nI_ge (by omega) (by decide)), if_pos (zok_nI (by omega) (by decide)), if_pos (zok_nI (by omega) (by decide)), nI_clamp (by omega), nI_clamp (by omega), e1, bs, f_bitCount, bs, nI_add, nI_1 i, cnt_congr (fun k hk => (e2 k hk).trans (by rw [ucs_dec hP hn hs hi hk])), Nat.add_assoc]
      rfl
    · intro m
      show f_X1_casesDecided_L13 fu K (nI r) (nI s) (nI n) A B C (m + 1) _ (nI 32) = _
      rw [f_X1_casesDecided_L13, if_pos (by decide)]
  refine loopU0 (L := fun m i x => f_X1_casesDecided_L4 fu (fun (x3 : Int32) (x4 : Int32) => some x3) (nI r) (nI n) A B C m x i) (fun i => nI (sum (fun s => sum (fun d => cnt (fun k => decide (decC tf zo n (1024 * s + 32 * d + k) = some r)) 32) 32) i)) (N := 32) 0 rfl (by omega) (by omega) ?_ ?_
  · intro m i _ hi
    show f_X1_casesDecided_L4 fu _ (nI r) (nI n) A B C (m + 1) _ (nI i) = f_X1_casesDecided_L4 fu _ (nI r) (nI n) A B C m _ (nI (i + 1))
    rw [f_X1_casesDecided_L4, if_neg (show ¬ (32 : Int32) ≤ nI i by rw [q32]; exact nI_ge (by omega) (by decide)), inner _ i _ hi, nI_1 i]
    rfl
  · intro m
    show f_X1_casesDecided_L4 fu _ (nI r) (nI n) A B C (m + 1) _ (nI 32) = _
    rw [f_X1_casesDecided_L4, if_pos (by decide)]
theorem f_addressesOf {fu q r : Nat} {X : Nat → Int32} (hf : 2000 < fu) (hq : q < 32) (hr : r < 32) : f_X1_addressesOf fu 32 X (nI q) (nI r) = some (nI (cnt (fun a => tb (X a) q && tb (X a) r) 32)) := by
  unfold f_X1_addressesOf
  refine loopU0 (L := fun m i x => f_X1_addressesOf_L5 fu (fun (x1 : Int32) (x2 : Int32) => some x1) (nI q) (nI r) 32 X m x i) (fun i => nI (cnt (fun a => tb (X a) q && tb (X a) r) i)) (N := 32) 0 rfl (by omega) (by omega) ?_ ?_
  · intro m i _ hi
    show f_X1_addressesOf_L5 fu _ (nI q) (nI r) 32 X (m + 1) _ (nI i) = f_X1_addressesOf_L5 fu _ (nI q) (nI r) 32 X m _ (nI (i + 1))
    have hz : zok (nI i) 32 = true := zok_nI (by omega) (by decide)
    rw [f_X1_addressesOf_L5, if_neg (nI_ge hi (by decide)), if_pos hz, nI_clamp (by omega), f_holds hq, bs, if_pos hz, f_holds hr, bs, nI_1 i]
    show _ = f_X1_addressesOf_L5 fu _ (nI q) (nI r) 32 X m (nI (cnt (fun a => tb (X a) q && tb (X a) r) i + if (tb (X i) q && tb (X i) r) then 1 else 0)) (nI (i + 1))
    cases tb (X i) q with
    | false => rw [iteF]; rfl
    | true =>
      rw [iteT]
      cases tb (X i) r with
      | false => rw [iteF]; rfl
      | true => rw [iteT, nI_1]; rfl
  · intro m
    show f_X1_addressesOf_L5 fu _ (nI q) (nI r) 32 X (m + 1) _ (nI 32) = _
    rw [f_X1_addressesOf_L5, if_pos (nI_le (Nat.le_refl _) (by decide))]
theorem f_casesFitting {fu n q r : Nat} {A B C D tf zo : Nat → Int32} (hf : 2000 < fu) (hP : PIC A B C D n tf zo) (hn : n ≤ 12) (hq : q < n) (hr : r < n) : f_X1_casesFitting fu (nI n) A B C (nI q) (nI r) = some (nI (cnt (fun c => fitC tf zo c q && fitC tf zo c r) 32768)) := by
  unfold f_X1_casesFitting
  rw [f_within, f_within, bs, bs, zin_m1t (by omega) hq, zin_m1t (by omega) hr, iteT, iteT, f_addressesOf hf (by omega) (by omega), f_addressesOf hf (by omega) (by omega), bs, bs, if_pos (zok_nI (by omega) (by decide)), if_pos (zok_nI (by omega) (by decide)), nI_clamp (by omega), nI_clamp (by omega), f_bitCount, bs, pk_mul, pk_mul]
  refine congrArg some (congrArg nI ?_)
  obtain ⟨h1, h2, h3, h4⟩ := hP
  have e1 : cnt (fun a => tb (A a) q && tb (A a) r) 32 = cnt (fun a => fitE tf q 0 (nI a) (zo a) && fitE tf r 0 (nI a) (zo a)) 32 := cnt_congr (fun a ha => by
    rw [h1 a ha q (by omega), h1 a ha r (by omega), decide_eq_true hq, decide_eq_true hr, Bool.true_and, Bool.true_and])
  have e2 : cnt (fun a => tb (B a) q && tb (B a) r) 32 = cnt (fun a => fitE tf q 1 (nI a) (zo a) && fitE tf r 1 (nI a) (zo a)) 32 := cnt_congr (fun a ha => by
    rw [h2 a ha q (by omega), h2 a ha r (by omega), decide_eq_true hq, decide_eq_true hr, Bool.true_and, Bool.true_and])
  have e3 : cnt (tb (C q &&& C r)) 32 = cnt (fun k => fitS tf q (nI (k / 2)) (nI (k % 2)) && fitS tf r (nI (k / 2)) (nI (k % 2))) 32 := cnt_congr (fun k hk => by
    rw [tb_and, h3 q hq k hk, h3 r hr k hk])
  rw [e1, e2, e3, ← cnt_cases]
  have e4 : ∀ s d, s < 32 → d < 32 → cnt (fun k => fitC tf zo (1024 * s + 32 * d + k) q && fitC tf zo (1024 * s + 32 * d + k) r) 32 = if (fitE tf q 0 (nI s) (zo s) && fitE tf r 0 (nI s) (zo s)) then (if (fitE tf q 1 (nI d) (zo d) && fitE tf r 1 (nI d) (zo d)) then cnt (fun k => fitS tf q (nI (k / 2)) (nI (k % 2)) && fitS tf r (nI (k / 2)) (nI (k % 2))) 32 else 0) else 0 := by
    intro s d hs hd
    rw [← cnt_and, ← cnt_and]
    refine cnt_congr (fun k hk => ?_)
    unfold fitC fitA
    rw [show (1024 * s + 32 * d + k) / 1024 = s by omega, show (1024 * s + 32 * d + k) / 32 % 32 = d by omega, show (1024 * s + 32 * d + k) / 2 % 16 = k / 2 by omega, show (1024 * s + 32 * d + k) % 2 = k % 2 by omega]
    cases fitE tf q 0 (nI s) (zo s) <;> cases fitE tf r 0 (nI s) (zo s) <;> cases fitE tf q 1 (nI d) (zo d) <;> cases fitE tf r 1 (nI d) (zo d) <;> cases fitS tf q (nI (k / 2)) (nI (k % 2)) <;> cases fitS tf r (nI (k / 2)) (nI (k % 2)) <;> rfl
  have e5 : sum (fun s => sum (fun d => cnt (fun k => fitC tf zo (1024 * s + 32 * d + k) q && fitC tf zo (1024 * s + 32 * d + k) r) 32) 32) 32 = sum (fun s => if (fitE tf q 0 (nI s) (zo s) && fitE tf r 0 (nI s) (zo s)) then cnt (fun a => fitE tf q 1 (nI a) (zo a) && fitE tf r 1 (nI a) (zo a)) 32 * cnt (fun k => fitS tf q (nI (k / 2)) (nI (k % 2)) && fitS tf r (nI (k / 2)) (nI (k % 2))) 32 else 0) 32 := by
    refine sum_congr (fun s hs => ?_)
    rw [sum_congr (fun d hd => e4 s d hs hd)]
    cases (fitE tf q 0 (nI s) (zo s) && fitE tf r 0 (nI s) (zo s)) with
    | false =>
      rw [if_neg (by decide)]
      show sum (fun _ => 0) 32 = 0
      rfl
    | true =>
      rw [if_pos rfl]
      exact sum_cnt _ _ 32
  rw [e5, sum_cnt, Nat.mul_assoc]
