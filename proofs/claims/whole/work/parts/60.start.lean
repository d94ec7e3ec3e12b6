theorem lwAt {args : Array Value} {s : State} (hts : ∀ w ∈ lw_tbl, w.before args s = true) (i : Nat) {w : Cond} (h : lw_tbl[i]? = some w) : w.before args s = true := hts w (List.mem_of_getElem? h)
theorem zNs_in : ∀ w ∈ zNs, w ∈ lw_tbl ∧ w.onTables = true := by
  unfold zNs
  exact List.forall_mem_cons.mpr ⟨⟨List.mem_of_getElem? (i := 123) (by decide +kernel), rfl⟩, List.forall_mem_cons.mpr ⟨⟨List.mem_of_getElem? (i := 129) (by decide +kernel), rfl⟩, List.forall_mem_cons.mpr ⟨⟨List.mem_of_getElem? (i := 131) (by decide +kernel), rfl⟩, List.forall_mem_cons.mpr ⟨⟨List.mem_of_getElem? (i := 133) (by decide +kernel), rfl⟩, List.forall_mem_cons.mpr ⟨⟨List.mem_of_getElem? (i := 135) (by decide +kernel), rfl⟩, List.forall_mem_cons.mpr ⟨⟨List.mem_of_getElem? (i := 137) (by decide +kernel), rfl⟩, List.forall_mem_cons.mpr ⟨⟨List.mem_of_getElem? (i := 139) (by decide +kernel), rfl⟩, List.forall_mem_cons.mpr ⟨⟨List.mem_of_getElem? (i := 141) (by decide +kernel), rfl⟩, List.forall_mem_cons.mpr ⟨⟨List.mem_of_getElem? (i := 143) (by decide +kernel), rfl⟩, List.forall_mem_cons.mpr ⟨⟨List.mem_of_getElem? (i := 190) (by decide +kernel), rfl⟩, List.forall_mem_cons.mpr ⟨⟨List.mem_of_getElem? (i := 182) (by decide +kernel), rfl⟩, List.forall_mem_cons.mpr ⟨⟨List.mem_of_getElem? (i := 210) (by decide +kernel), rfl⟩, List.forall_mem_cons.mpr ⟨⟨List.mem_of_getElem? (i := 283) (by decide +kernel), rfl⟩, List.forall_mem_cons.mpr ⟨⟨List.mem_of_getElem? (i := 396) (by decide +kernel), rfl⟩, List.forall_mem_cons.mpr ⟨⟨List.mem_of_getElem? (i := 398) (by decide +kernel), rfl⟩, List.forall_mem_cons.mpr ⟨⟨List.mem_of_getElem? (i := 401) (by decide +kernel), rfl⟩, List.forall_mem_cons.mpr ⟨⟨List.mem_of_getElem? (i := 418) (by decide +kernel), rfl⟩, List.forall_mem_cons.mpr ⟨⟨List.mem_of_getElem? (i := 422) (by decide +kernel), rfl⟩, List.forall_mem_cons.mpr ⟨⟨List.mem_of_getElem? (i := 436) (by decide +kernel), rfl⟩, List.forall_mem_cons.mpr ⟨⟨List.mem_of_getElem? (i := 604) (by decide +kernel), rfl⟩, List.forall_mem_cons.mpr ⟨⟨List.mem_of_getElem? (i := 710) (by decide +kernel), rfl⟩, List.forall_mem_cons.mpr ⟨⟨List.mem_of_getElem? (i := 720) (by decide +kernel), rfl⟩, fun _ h => absurd h List.not_mem_nil⟩⟩⟩⟩⟩⟩⟩⟩⟩⟩⟩⟩⟩⟩⟩⟩⟩⟩⟩⟩⟩⟩
def gN : Cond := Jvm.Cond.and given_1 narrow_1
theorem elAny : ∀ j : Fin 11, Cond.eq (.elem (.static "ZoneGuard" "ANY_RULE" "[I") (.int (Int32.ofNat j.val))) (.int (sAny j.val)) ∈ flatC gN := by decide +kernel
theorem elGre : ∀ j : Fin 10, Cond.eq (.elem (.static "ZoneGuard" "GREATEST_NUMBER" "[I") (.int (Int32.ofNat j.val))) (.int (sGre j.val)) ∈ flatC gN := by decide +kernel
theorem elSpa : ∀ j : Fin 7, Cond.eq (.elem (.static "ZoneGuard" "FIRST_SPANS" "[I") (.int (Int32.ofNat j.val))) (.int (sSpa j.val)) ∈ flatC gN := by decide +kernel
def tmS (i : Nat) : Term := .string "ZoneGuard$Text" (zSi i)
theorem stEx : ∀ i : Fin 10, Cond.exactly (tmS i.val) "java/lang/String" ∈ flatC gN ∧ Cond.eq (.field (tmS i.val) "java/lang/String" "coder" "B") (.int 0) ∈ flatC gN ∧ Cond.arrayOf (.field (tmS i.val) "java/lang/String" "value" "[B") .byte ∈ flatC gN ∧ Cond.eq (.length (.field (tmS i.val) "java/lang/String" "value" "[B")) (.int (Int32.ofNat (zSl.getD i.val 0))) ∈ flatC gN ∧ zSl.getD i.val 0 ≤ 6 := by decide +kernel
theorem stEl : ∀ i : Fin 10, ∀ j : Fin 6, j.val < zSl.getD i.val 0 → Cond.eq (.elem (.field (tmS i.val) "java/lang/String" "value" "[B") (.int (Int32.ofNat j.val))) (.int ((zSb.getD i.val []).getD j.val 0)) ∈ flatC gN := by decide +kernel
theorem stNe : ∀ i j : Fin 10, i.val ≠ j.val → Cond.not (Cond.eq (tmS i.val) (tmS j.val)) ∈ flatC gN ∨ Cond.not (Cond.eq (tmS j.val) (tmS i.val)) ∈ flatC gN := by decide +kernel
theorem stRf : ∀ i : Fin 10, lw_tbl[644 + i.val]? = some (Cond.stringRef "ZoneGuard$Text" (zSi i.val) (zSt i.val)) := by decide +kernel
def kk0 (c0 c1 t2 t3 t4 : Nat) (adK adV : Nat → Nat) (i : Nat) : Nat := match i with
  | 0 => c0
  | 1 => c1
  | 2 => t2
  | 3 => t3
  | 4 => t4
  | i => if i < 20 then adK (i - 10) else adV (i - 20)
theorem kk0_K {c0 c1 t2 t3 t4 : Nat} {adK adV : Nat → Nat} {i : Nat} (hi : i < 10) : kk0 c0 c1 t2 t3 t4 adK adV (10 + i) = adK i := by
  rw [show 10 + i = (5 + i) + 5 by omega]
  show (if 5 + i + 5 < 20 then adK (5 + i + 5 - 10) else adV (5 + i + 5 - 20)) = adK i
  rw [if_pos (by omega)]
  exact congrArg adK (by omega)
theorem kk0_V {c0 c1 t2 t3 t4 : Nat} {adK adV : Nat → Nat} {i : Nat} : kk0 c0 c1 t2 t3 t4 adK adV (20 + i) = adV i := by
  rw [show 20 + i = (15 + i) + 5 by omega]
  show (if 15 + i + 5 < 20 then adK (15 + i + 5 - 10) else adV (15 + i + 5 - 20)) = adV i
  rw [if_neg (by omega)]
  exact congrArg adV (by omega)
theorem amb_start {args : Array Value} {s : State} (hts : ∀ w ∈ lw_tbl, w.before args s = true) (hgv : (Jvm.Cond.and given_1 narrow_1).before args s = true) : ∃ (D : va_G) (k : Nat → Nat), va_K D vwCl (tyA k) s ∧ amb k (fun q : Nat => s.heap.size ≤ q) s s.heap := by
  have hs : ∀ c ∈ flatC gN, c.before args s = true := flat_of_before _ hgv
  have hA : ∀ a : Nat, a < s.heap.size → ¬ (fun q : Nat => s.heap.size ≤ q) a := fun a h => Nat.not_le.mpr h
  obtain ⟨t2, e2, T2⟩ := va_Tof (tm := .static "ZoneGuard" "ANY_RULE" "[I") (ty := .int) (N := 11) (f := fun j => .int (sAny j)) (A := fun q : Nat => s.heap.size ≤ q) (by decide) (hs _ (by decide +kernel)) (va_eqt (hs _ (by decide +kernel))) (fun j hj => va_eqt (hs _ (elAny ⟨j, hj⟩))) hA
  obtain ⟨t3, e3, T3⟩ := va_Tof (tm := .static "ZoneGuard" "GREATEST_NUMBER" "[I") (ty := .int) (N := 10) (f := fun j => .int (sGre j)) (A := fun q : Nat => s.heap.size ≤ q) (by decide) (hs _ (by decide +kernel)) (va_eqt (hs _ (by decide +kernel))) (fun j hj => va_eqt (hs _ (elGre ⟨j, hj⟩))) hA
  obtain ⟨t4, e4, T4⟩ := va_Tof (tm := .static "ZoneGuard" "FIRST_SPANS" "[I") (ty := .int) (N := 7) (f := fun j => .int (sSpa j)) (A := fun q : Nat => s.heap.size ≤ q) (by decide) (hs _ (by decide +kernel)) (va_eqt (hs _ (by decide +kernel))) (fun j hj => va_eqt (hs _ (elSpa ⟨j, hj⟩))) hA
  obtain ⟨adK, adV, hSt, hev⟩ := vk_Sof (N := 10) (tm := tmS) (len := zSl) (byt := zSb) (A := fun q : Nat => s.heap.size ≤ q) (fun i hi => by have := (stEx ⟨i, hi⟩).2.2.2.2; dsimp only at this; omega) (fun i hi => hs _ (stEx ⟨i, hi⟩).1) (fun i hi => hs _ (stEx ⟨i, hi⟩).2.1) (fun i hi => hs _ (stEx ⟨i, hi⟩).2.2.1) (fun i hi => hs _ (stEx ⟨i, hi⟩).2.2.2.1) (fun i hi j hj => hs _ (stEl ⟨i, hi⟩ ⟨j, by have := (stEx ⟨i, hi⟩).2.2.2.2; dsimp only at this; omega⟩ hj)) (fun i j hi hj hij => (stNe ⟨i, hi⟩ ⟨j, hj⟩ hij).elim (fun h => Or.inl (hs _ h)) (fun h => Or.inr (hs _ h))) hA
  obtain ⟨c0, kA0, comp0, f1, f2, f3⟩ := Cond.arrayClass_spec (args := args) (first := s) (o := none) (s := s) (idx := []) (lwAt hts 122 (w := .arrayClass .int) (by decide +kernel))
  have hAO : va_AO "ZoneGuard$State" s := va_AO.of (lwAt hts 168 (w := .arrayOver (.object "ZoneGuard$State")) (by decide +kernel))
  obtain ⟨comp1, c1, kA1, g1, -, g3, g4, g5⟩ := Cond.arrayOver_spec (args := #[]) (first := s) (o := none) (s := s) (idx := []) (show (Cond.arrayOver (.object "ZoneGuard$State")).holds #[] s none s [] = true from hAO)
  obtain ⟨d0, i0, n0⟩ := u_known (C := RX0) (T := TX0) (N := 3) (n := 3) (wbL hts) hiX0 (lwAt hts 162 (w := .instantiable "ZoneGuard$History" 3) (by decide +kernel))
  obtain ⟨d1, i1, n1⟩ := u_known (C := RX1) (T := TX1) (N := 8) (n := 8) (wbL hts) hiX1 (lwAt hts 209 (w := .instantiable "ZoneGuard$Picture" 8) (by decide +kernel))
  obtain ⟨d2, i2, n2⟩ := u_known (C := RX2) (T := TX2) (N := 8) (n := 8) (wbL hts) hiX2 (lwAt hts 95 (w := .instantiable "ZoneGuard$State" 8) (by decide +kernel))
  obtain ⟨d3, i3, n3⟩ := u_known (C := RX3) (T := TX3) (N := 4) (n := 4) (wbL hts) hiX3 (lwAt hts 101 (w := .instantiable "ZoneGuard$Table" 4) (by decide +kernel))
  obtain ⟨d4, i4, n4⟩ := u_known (C := RX4) (T := TX4) (N := 6) (n := 6) (wbL hts) hiX4 (lwAt hts 181 (w := .instantiable "ZoneGuard$Text" 6) (by decide +kernel))
  obtain ⟨d5, i5, n5⟩ := u_known (C := RX5) (T := TX5) (N := 8) (n := 8) (wbL hts) hiX5 (lwAt hts 87 (w := .instantiable "ZoneGuard" 8) (by decide +kernel))
  obtain ⟨d6, i6, n6⟩ := u_known (C := RX6) (T := TX6) (N := 14) (n := 14) (wbL hts) hiX6 (lwAt hts 760 (w := .instantiable "ZoneGuardModel" 14) (by decide +kernel))
  refine ⟨(fun j => match j with | 0 => d0 | 1 => d1 | 2 => d2 | 3 => d3 | 4 => d4 | 5 => d5 | _ => d6, fun j => match j with | 0 => i0 | 1 => i1 | 2 => i2 | 3 => i3 | 4 => i4 | 5 => i5 | _ => i6), kk0 c0 c1 t2 t3 t4 adK adV, ⟨?_, ?_⟩, ?_⟩
  · intro j q hq
    match j, hq with
    | 0, hq => cases hq; exact n0
    | 1, hq => cases hq; exact n1
    | 2, hq => cases hq; exact n2
    | 3, hq => cases hq; exact n3
    | 4, hq => cases hq; exact n4
    | 5, hq => cases hq; exact n5
    | 6, hq => cases hq; exact n6
    | j + 7, hq => simp at hq
  · intro j q hq
    match j, hq with
    | 0, hq => cases hq; exact ⟨fun n z => ⟨fun k h => (by cases h), kA0, f2, comp0, f3⟩, f1⟩
    | 1, hq => cases hq; exact ⟨fun n z => ⟨fun k h => (by cases h), kA1, g3, comp1, g4⟩, kA1, comp1, g3, g4, g1, g5⟩
    | j + 2, hq => simp [tyA] at hq
  · refine ⟨fun w hw => va_Nw.of (zNs_in w hw).2 (hts w (zNs_in w hw).1), ⟨va_Zof (lwAt hts 321 (w := .laysStatic "ZoneGuard" "ANY_RULE" "[I") (by decide +kernel)) (lwAt hts 72 (w := .initialized "ZoneGuard") (by decide +kernel)) e2 hA, T2⟩, ⟨va_Zof (lwAt hts 342 (w := .laysStatic "ZoneGuard" "GREATEST_NUMBER" "[I") (by decide +kernel)) (lwAt hts 72 (w := .initialized "ZoneGuard") (by decide +kernel)) e3 hA, T3⟩, ⟨va_Zof (lwAt hts 124 (w := .laysStatic "ZoneGuard" "FIRST_SPANS" "[I") (by decide +kernel)) (lwAt hts 72 (w := .initialized "ZoneGuard") (by decide +kernel)) e4 hA, T4⟩, va_Zof (lwAt hts 667 (w := .laysStatic "java/lang/String" "COMPACT_STRINGS" "Z") (by decide +kernel)) (lwAt hts 82 (w := .initialized "java/lang/String") (by decide +kernel)) (va_eqt (hs _ (by decide +kernel))) hA, va_Zqof (lwAt hts 683 (w := .laysStatic "jdk/internal/util/Preconditions" "SIOOBE_FORMATTER" zSF) (by decide +kernel)) (lwAt hts 84 (w := .initialized "jdk/internal/util/Preconditions") (by decide +kernel)) (hs _ (by decide +kernel)) hA, fun i hi => ?_, ⟨fun i hi => ?_, fun i j hi hj h => ?_⟩, hAO⟩
    · rw [kk0_K hi]
      exact vk_R.of (lwAt hts (644 + i) (stRf ⟨i, hi⟩)) (hev i hi)
    · dsimp only
      rw [kk0_K hi, kk0_V]
      exact hSt.1 i hi
    · dsimp only at h
      rw [kk0_K hi, kk0_K hj] at h
      exact hSt.2 i j hi hj h
