def f_X5_isCase  (a1 : Int32) (a2 : Int32) (a3 : Int32) (a4 : Int32) : Option (Bool) :=
  (f_X5_within  a1 0 31).bind fun r1 => if (zB r1) = 0 then (some (false)) else ((f_X5_within  a2 0 31).bind fun r2 => if (zB r2) = 0 then (some (false)) else ((f_X5_within  a3 0 15).bind fun r3 => if (zB r3) = 0 then (some (false)) else ((f_X5_within  a4 0 1).bind fun r4 => if (zB r4) = 0 then (some (false)) else (some (true)))))
abbrev wk_X5_isCase : List Cond := Cond.code yX5_isCase cX5_isCase 4 (some .boolean) :: WB
abbrev rm_X5_isCase : Room := { frames := 1, cells := 0, slots := 0, locals := 22 }
set_option maxHeartbeats 4000000 in
set_option maxRecDepth 100000 in
theorem c_X5_isCase (l : Launch) (D : va_G) (k : Nat → Nat)  (a1 : Int32) (a2 : Int32) (a3 : Int32) (a4 : Int32) {res : Bool} (h : f_X5_isCase  a1 a2 a3 a4 = some res) : Ci l yX5_isCase wk_X5_isCase rm_X5_isCase D k [.int a1, .int a2, .int a3, .int a4] [] [] (zB res) := by
  unfold Ci
  intro sz
  refine Met.ofW (cc := cX5_isCase) (maxL := 4) (ret := (some .boolean)) (by decide) rfl ?_
  intro p e s m args below meth c s₁ B hml hv
  obtain ⟨rfl, hsz, hP, hK, hD0, hm⟩ := hv
  have hx := B.exec
  have hb := B.bytes
  have hr := B.returns
  have ht : ∀ w ∈ WB, w.before _ s = true := fun w hw => atoms_spec (ws := wk_X5_isCase) B.pre w (List.mem_cons_of_mem _ hw)
  have hown : s.vm.findClass RX5 = some m.cls := findClass_of_methodNamed B.named
  have hlocks := B.notSynchronized
  subst hsz
  have hD := hD0.self (sz := s.heap.size)
  generalize hAe : va_A [] s.heap.size = A at hD hm ⊢
  have hA : ∀ q : Nat, s.heap.size ≤ q → A q := fun q h => by rw [← hAe]; exact Or.inr h
  have hS : va_S A s.heap s.heap [] := va_S.rf
  have hl := lv_entry ([.int a1, .int a2, .int a3, .int a4]) (n := 4) (Nat.le_of_ble_eq_true rfl)
  rw [lg_entry_eq]
  generalize (lg_sl ([.int a1, .int a2, .int a3, .int a4]) ++ List.replicate (4 - (lg_sl ([.int a1, .int a2, .int a3, .int a4])).length) Slot.unset).toArray = ls at hl ⊢
  have hl : lv_has ls 4 [(0, .int a1), (1, .int a2), (2, .int a3), (3, .int a4)] := hl
  obtain ⟨H, hH⟩ : ∃ H, H = s.heap := ⟨_, rfl⟩
  rw [← hH] at hP
  have hS : va_S A s.heap H [] := by rw [hH]; exact hS
  suffices hgo : W p l e _ s m _ below meth c H [] 0 0 _ _ by rw [hH] at hgo; exact hgo
  unfold f_X5_isCase at h
  refine lv_iload_n hx hb dX5_isCase_0 rfl (lv_at hl 0 rfl) ?_
  refine lv_iconst (v := 0) hx hb dX5_isCase_1 (by decide) ?_
  refine lv_bipush (v := 31) hx hb dX5_isCase_2 (by decide) ?_
  obtain ⟨r1, h1, h⟩ := zb h
  refine zi (zrS (As := [.int a1, .int 0, .int 31]) (rest := []) ⟨hx, hb, hml, hown, ht⟩ (c_X5_within l D k   a1 0 31 h1 _) (va_cwS 3 ht (gdS wb268 wb269 wb72 wb270) rfl rfl rfl (by decide +kernel) ⟨Nat.le_of_ble_eq_true rfl, Nat.le_of_ble_eq_true rfl⟩) hK hP hD hS hA hm [] rfl rfl rfl hl.1 rfl (Nat.le_of_ble_eq_true rfl) dX5_isCase_4 ⟨Nat.le_refl _, Nat.le_refl _⟩) hP hD hS hA [] rfl rfl (fun H locs hP hD hS => ?_)
  have hP : va_P D vwCl [] H := hP
  have hD : va_D A [] := hD
  refine lv_if_eq (tgt := 43) hx hb dX5_isCase_7 (by decide) (fun c4 => ?_) (fun c4 => ?_)
  · have h := zt h c4
    refine lv_iconst (v := 0) hx hb dX5_isCase_43 (by decide) ?_
    obtain rfl := Option.some.inj h
    exact W.zret (v := 0) (ty := .boolean) hx hb hr (rfl) (fun t ht9 hW => ⟨⟨_, (), rfl, rfl, zend ht9 hP⟩, hS.F ht9⟩) hS.2.2 dX5_isCase_44
  · have h := zf h c4
    refine lv_iload_n hx hb dX5_isCase_10 rfl (lv_at hl 1 rfl) ?_
    refine lv_iconst (v := 0) hx hb dX5_isCase_11 (by decide) ?_
    refine lv_bipush (v := 31) hx hb dX5_isCase_12 (by decide) ?_
    obtain ⟨r2, h2, h⟩ := zb h
    refine zi (zrS (As := [.int a2, .int 0, .int 31]) (rest := []) ⟨hx, hb, hml, hown, ht⟩ (c_X5_within l D k   a2 0 31 h2 _) (va_cwS 3 ht (gdS wb268 wb269 wb72 wb270) rfl rfl rfl (by decide +kernel) ⟨Nat.le_of_ble_eq_true rfl, Nat.le_of_ble_eq_true rfl⟩) hK hP hD hS hA hm [] rfl rfl rfl hl.1 rfl (Nat.le_of_ble_eq_true rfl) dX5_isCase_14 ⟨Nat.le_refl _, Nat.le_refl _⟩) hP hD hS hA [] rfl rfl (fun H locs hP hD hS => ?_)
    have hP : va_P D vwCl [] H := hP
    have hD : va_D A [] := hD
    refine lv_if_eq (tgt := 43) hx hb dX5_isCase_17 (by decide) (fun c3 => ?_) (fun c3 => ?_)
    · have h := zt h c3
      refine lv_iconst (v := 0) hx hb dX5_isCase_43 (by decide) ?_
      obtain rfl := Option.some.inj h
      exact W.zret (v := 0) (ty := .boolean) hx hb hr (rfl) (fun t ht9 hW => ⟨⟨_, (), rfl, rfl, zend ht9 hP⟩, hS.F ht9⟩) hS.2.2 dX5_isCase_44
    · have h := zf h c3
      refine lv_iload_n hx hb dX5_isCase_20 rfl (lv_at hl 2 rfl) ?_
      refine lv_iconst (v := 0) hx hb dX5_isCase_21 (by decide) ?_
      refine lv_bipush (v := 15) hx hb dX5_isCase_22 (by decide) ?_
      obtain ⟨r3, h3, h⟩ := zb h
      refine zi (zrS (As := [.int a3, .int 0, .int 15]) (rest := []) ⟨hx, hb, hml, hown, ht⟩ (c_X5_within l D k   a3 0 15 h3 _) (va_cwS 3 ht (gdS wb268 wb269 wb72 wb270) rfl rfl rfl (by decide +kernel) ⟨Nat.le_of_ble_eq_true rfl, Nat.le_of_ble_eq_true rfl⟩) hK hP hD hS hA hm [] rfl rfl rfl hl.1 rfl (Nat.le_of_ble_eq_true rfl) dX5_isCase_24 ⟨Nat.le_refl _, Nat.le_refl _⟩) hP hD hS hA [] rfl rfl (fun H locs hP hD hS => ?_)
      have hP : va_P D vwCl [] H := hP
      have hD : va_D A [] := hD
      refine lv_if_eq (tgt := 43) hx hb dX5_isCase_27 (by decide) (fun c2 => ?_) (fun c2 => ?_)
      · have h := zt h c2
        refine lv_iconst (v := 0) hx hb dX5_isCase_43 (by decide) ?_
        obtain rfl := Option.some.inj h
        exact W.zret (v := 0) (ty := .boolean) hx hb hr (rfl) (fun t ht9 hW => ⟨⟨_, (), rfl, rfl, zend ht9 hP⟩, hS.F ht9⟩) hS.2.2 dX5_isCase_44
      · have h := zf h c2
        refine lv_iload_n hx hb dX5_isCase_30 rfl (lv_at hl 3 rfl) ?_
        refine lv_iconst (v := 0) hx hb dX5_isCase_31 (by decide) ?_
        refine lv_iconst (v := 1) hx hb dX5_isCase_32 (by decide) ?_
        obtain ⟨r4, h4, h⟩ := zb h
        refine zi (zrS (As := [.int a4, .int 0, .int 1]) (rest := []) ⟨hx, hb, hml, hown, ht⟩ (c_X5_within l D k   a4 0 1 h4 _) (va_cwS 3 ht (gdS wb268 wb269 wb72 wb270) rfl rfl rfl (by decide +kernel) ⟨Nat.le_of_ble_eq_true rfl, Nat.le_of_ble_eq_true rfl⟩) hK hP hD hS hA hm [] rfl rfl rfl hl.1 rfl (Nat.le_of_ble_eq_true rfl) dX5_isCase_33 ⟨Nat.le_refl _, Nat.le_refl _⟩) hP hD hS hA [] rfl rfl (fun H locs hP hD hS => ?_)
        have hP : va_P D vwCl [] H := hP
        have hD : va_D A [] := hD
        refine lv_if_eq (tgt := 43) hx hb dX5_isCase_36 (by decide) (fun c1 => ?_) (fun c1 => ?_)
        · have h := zt h c1
          refine lv_iconst (v := 0) hx hb dX5_isCase_43 (by decide) ?_
          obtain rfl := Option.some.inj h
          exact W.zret (v := 0) (ty := .boolean) hx hb hr (rfl) (fun t ht9 hW => ⟨⟨_, (), rfl, rfl, zend ht9 hP⟩, hS.F ht9⟩) hS.2.2 dX5_isCase_44
        · have h := zf h c1
          refine lv_iconst (v := 1) hx hb dX5_isCase_39 (by decide) ?_
          refine lv_goto (tgt := 44) hx hb dX5_isCase_40 (by decide) ?_
          obtain rfl := Option.some.inj h
          exact W.zret (v := 1) (ty := .boolean) hx hb hr (rfl) (fun t ht9 hW => ⟨⟨_, (), rfl, rfl, zend ht9 hP⟩, hS.F ht9⟩) hS.2.2 dX5_isCase_44
def f_X5_greatestNumber  (a1 : Int32) : Option (Int32) :=
  (f_X5_within  a1 0 (10 - 1)).bind fun r1 => if (zB r1) = 0 then (some ((-1))) else (if zok a1 10 then (some (sGre (Int32.toNatClampNeg a1))) else none)
abbrev wk_X5_greatestNumber : List Cond := Cond.code yX5_greatestNumber cX5_greatestNumber 1 (some .int) :: WB
abbrev rm_X5_greatestNumber : Room := { frames := 1, cells := 0, slots := 0, locals := 22 }
set_option maxHeartbeats 4000000 in
set_option maxRecDepth 100000 in
theorem c_X5_greatestNumber (l : Launch) (D : va_G) (k : Nat → Nat)  (a1 : Int32) {res : Int32} (h : f_X5_greatestNumber  a1 = some res) : Ci l yX5_greatestNumber wk_X5_greatestNumber rm_X5_greatestNumber D k [.int a1] [] [] res := by
  unfold Ci
  intro sz
  refine Met.ofW (cc := cX5_greatestNumber) (maxL := 1) (ret := (some .int)) (by decide) rfl ?_
  intro p e s m args below meth c s₁ B hml hv
  obtain ⟨rfl, hsz, hP, hK, hD0, hm⟩ := hv
  have hx := B.exec
  have hb := B.bytes
  have hr := B.returns
  have ht : ∀ w ∈ WB, w.before _ s = true := fun w hw => atoms_spec (ws := wk_X5_greatestNumber) B.pre w (List.mem_cons_of_mem _ hw)
  have hown : s.vm.findClass RX5 = some m.cls := findClass_of_methodNamed B.named
  have hlocks := B.notSynchronized
  subst hsz
  have hD := hD0.self (sz := s.heap.size)
  generalize hAe : va_A [] s.heap.size = A at hD hm ⊢
  have hA : ∀ q : Nat, s.heap.size ≤ q → A q := fun q h => by rw [← hAe]; exact Or.inr h
  have hS : va_S A s.heap s.heap [] := va_S.rf
  have hl := lv_entry ([.int a1]) (n := 1) (Nat.le_of_ble_eq_true rfl)
  rw [lg_entry_eq]
  generalize (lg_sl ([.int a1]) ++ List.replicate (1 - (lg_sl ([.int a1])).length) Slot.unset).toArray = ls at hl ⊢
  have hl : lv_has ls 1 [(0, .int a1)] := hl
  obtain ⟨H, hH⟩ : ∃ H, H = s.heap := ⟨_, rfl⟩
  rw [← hH] at hP
  have hS : va_S A s.heap H [] := by rw [hH]; exact hS
  suffices hgo : W p l e _ s m _ below meth c H [] 0 0 _ _ by rw [hH] at hgo; exact hgo
  unfold f_X5_greatestNumber at h
  refine lv_iload_n hx hb dX5_greatestNumber_0 rfl (lv_at hl 0 rfl) ?_
  refine lv_iconst (v := 0) hx hb dX5_greatestNumber_1 (by decide) ?_
  refine va_gets hx hb hm.2.2.1.1 hS hown (ht _ wb341) (fun _ h9 => h9) dX5_greatestNumber_2 ?_
  refine va_tlen (v := 10) hx hb hm.2.2.1.2 hS rfl dX5_greatestNumber_5 ?_
  refine lv_iconst (v := 1) hx hb dX5_greatestNumber_6 (by decide) ?_
  refine lv_isub hx hb dX5_greatestNumber_7 ?_
  obtain ⟨r1, h1, h⟩ := zb h
  refine zi (zrS (As := [.int a1, .int 0, .int (10 - 1)]) (rest := []) ⟨hx, hb, hml, hown, ht⟩ (c_X5_within l D k   a1 0 (10 - 1) h1 _) (va_cwS 3 ht (gdS wb268 wb269 wb72 wb270) rfl rfl rfl (by decide +kernel) ⟨Nat.le_of_ble_eq_true rfl, Nat.le_of_ble_eq_true rfl⟩) hK hP hD hS hA hm [] rfl rfl rfl hl.1 rfl (Nat.le_of_ble_eq_true rfl) dX5_greatestNumber_8 ⟨Nat.le_refl _, Nat.le_refl _⟩) hP hD hS hA [] rfl rfl (fun H locs hP hD hS => ?_)
  have hP : va_P D vwCl [] H := hP
  have hD : va_D A [] := hD
  refine lv_if_eq (tgt := 22) hx hb dX5_greatestNumber_11 (by decide) (fun c1 => ?_) (fun c1 => ?_)
  · have h := zt h c1
    refine lv_iconst (v := (-1)) hx hb dX5_greatestNumber_22 (by decide) ?_
    obtain rfl := Option.some.inj h
    exact W.iret (v := (-1)) hx hb hr (fun t ht9 hW => ⟨⟨_, (), rfl, rfl, zend ht9 hP⟩, hS.F ht9⟩) hS.2.2 dX5_greatestNumber_23
  · have h := zf h c1
    refine va_gets hx hb hm.2.2.1.1 hS hown (ht _ wb341) (fun _ h9 => h9) dX5_greatestNumber_14 ?_
    refine lv_iload_n hx hb dX5_greatestNumber_17 rfl (lv_at hl 0 rfl) ?_
    obtain ⟨hi1, h⟩ := zg h
    refine va_ti hx hb hm.2.2.1.2 hS hi1 rfl dX5_greatestNumber_18 ?_
    refine lv_goto (tgt := 23) hx hb dX5_greatestNumber_19 (by decide) ?_
    obtain rfl := Option.some.inj h
    exact W.iret (v := sGre (Int32.toNatClampNeg a1)) hx hb hr (fun t ht9 hW => ⟨⟨_, (), rfl, rfl, zend ht9 hP⟩, hS.F ht9⟩) hS.2.2 dX5_greatestNumber_23
def f_X5_nextStage  (a1 : Int32) (a2 : Int32) (a3 : Int32) (a4 : Int32) : Option (Int32) :=
  if a1 = 1 then (if a2 = 1 then (if a4 = 1 then (some (2)) else (some ((-1)))) else (some ((-1)))) else (if a1 = 2 then (if a2 = 0 then (if a4 = 2 then (some (3)) else (some ((-1)))) else (some ((-1)))) else (if a1 = 3 then (if a4 = 2 then (some (3)) else (if a4 = 3 then (some (4)) else (some ((-1))))) else (if a1 = 4 then (if a2 = a3 then (some ((-1))) else (if a4 = 2 then (some (4)) else (if a4 = 3 then (some (5)) else (some ((-1)))))) else (if a1 = 5 then (some ((-1))) else (if a1 = 6 then (if a4 = 2 then (if a2 = 1 then (some (7)) else (some (6))) else (some ((-1)))) else (if a1 = 7 then (if a4 = 2 then (some (7)) else (some ((-1)))) else (some ((-1)))))))))
abbrev wk_X5_nextStage : List Cond := Cond.code yX5_nextStage cX5_nextStage 4 (some .int) :: WB
abbrev rm_X5_nextStage : Room := { frames := 0, cells := 0, slots := 0, locals := 0 }
set_option maxHeartbeats 4000000 in
set_option maxRecDepth 100000 in
theorem c_X5_nextStage (l : Launch) (D : va_G) (k : Nat → Nat)  (a1 : Int32) (a2 : Int32) (a3 : Int32) (a4 : Int32) {res : Int32} (h : f_X5_nextStage  a1 a2 a3 a4 = some res) : Ci l yX5_nextStage wk_X5_nextStage rm_X5_nextStage D k [.int a1, .int a2, .int a3, .int a4] [] [] res := by
  unfold Ci
  intro sz
  refine Met.ofW (cc := cX5_nextStage) (maxL := 4) (ret := (some .int)) (by decide) rfl ?_
  intro p e s m args below meth c s₁ B hml hv
  obtain ⟨rfl, hsz, hP, hK, hD0, hm⟩ := hv
  have hx := B.exec
  have hb := B.bytes
  have hr := B.returns
  have ht : ∀ w ∈ WB, w.before _ s = true := fun w hw => atoms_spec (ws := wk_X5_nextStage) B.pre w (List.mem_cons_of_mem _ hw)
  have hown : s.vm.findClass RX5 = some m.cls := findClass_of_methodNamed B.named
  have hlocks := B.notSynchronized
  subst hsz
  have hD := hD0.self (sz := s.heap.size)
  generalize hAe : va_A [] s.heap.size = A at hD hm ⊢
  have hA : ∀ q : Nat, s.heap.size ≤ q → A q := fun q h => by rw [← hAe]; exact Or.inr h
  have hS : va_S A s.heap s.heap [] := va_S.rf
  have hl := lv_entry ([.int a1, .int a2, .int a3, .int a4]) (n := 4) (Nat.le_of_ble_eq_true rfl)
  rw [lg_entry_eq]
  generalize (lg_sl ([.int a1, .int a2, .int a3, .int a4]) ++ List.replicate (4 - (lg_sl ([.int a1, .int a2, .int a3, .int a4])).length) Slot.unset).toArray = ls at hl ⊢
  have hl : lv_has ls 4 [(0, .int a1), (1, .int a2), (2, .int a3), (3, .int a4)] := hl
  obtain ⟨H, hH⟩ : ∃ H, H = s.heap := ⟨_, rfl⟩
  rw [← hH] at hP
  have hS : va_S A s.heap H [] := by rw [hH]; exact hS
  suffices hgo : W p l e _ s m _ below meth c H [] 0 0 _ _ by rw [hH] at hgo; exact hgo
  unfold f_X5_nextStage at h
  refine lv_iload_n hx hb dX5_nextStage_0 rfl (lv_at hl 0 rfl) ?_
  by_cases c1 : a1 = 1
  · have h := zt h c1
    refine lv_tableIn (off := 43) (tgt := 44) hx hb dX5_nextStage_1 (by rw [c1]; decide) (by rw [c1]; decide) (by rw [c1]; rfl) (by decide) ?_
    refine lv_iload_n hx hb dX5_nextStage_44 rfl (lv_at hl 1 rfl) ?_
    refine lv_iconst (v := 1) hx hb dX5_nextStage_45 (by decide) ?_
    refine lv_icmp_ne (tgt := 58) hx hb dX5_nextStage_46 (by decide) (fun c19 => ?_) (fun c19 => ?_)
    · have h := zf h c19
      refine lv_iconst (v := (-1)) hx hb dX5_nextStage_58 (by decide) ?_
      obtain rfl := Option.some.inj h
      exact W.iret (v := (-1)) hx hb hr (fun t ht9 hW => ⟨⟨_, (), rfl, rfl, zend ht9 hP⟩, hS.F ht9⟩) hS.2.2 dX5_nextStage_59
    · have h := zt h c19
      refine lv_iload_n hx hb dX5_nextStage_49 rfl (lv_at hl 3 rfl) ?_
      refine lv_iconst (v := 1) hx hb dX5_nextStage_50 (by decide) ?_
      refine lv_icmp_ne (tgt := 58) hx hb dX5_nextStage_51 (by decide) (fun c18 => ?_) (fun c18 => ?_)
      · have h := zf h c18
        refine lv_iconst (v := (-1)) hx hb dX5_nextStage_58 (by decide) ?_
        obtain rfl := Option.some.inj h
        exact W.iret (v := (-1)) hx hb hr (fun t ht9 hW => ⟨⟨_, (), rfl, rfl, zend ht9 hP⟩, hS.F ht9⟩) hS.2.2 dX5_nextStage_59
      · have h := zt h c18
        refine lv_iconst (v := 2) hx hb dX5_nextStage_54 (by decide) ?_
        refine lv_goto (tgt := 59) hx hb dX5_nextStage_55 (by decide) ?_
        obtain rfl := Option.some.inj h
        exact W.iret (v := 2) hx hb hr (fun t ht9 hW => ⟨⟨_, (), rfl, rfl, zend ht9 hP⟩, hS.F ht9⟩) hS.2.2 dX5_nextStage_59
  · have h := zf h c1
    by_cases c2 : a1 = 2
    · have h := zt h c2
      refine lv_tableIn (off := 59) (tgt := 60) hx hb dX5_nextStage_1 (by rw [c2]; decide) (by rw [c2]; decide) (by rw [c2]; rfl) (by decide) ?_
      refine lv_iload_n hx hb dX5_nextStage_60 rfl (lv_at hl 1 rfl) ?_
      refine lv_if_ne (tgt := 73) hx hb dX5_nextStage_61 (by decide) (fun c17 => ?_) (fun c17 => ?_)
      · have h := zf h c17
        refine lv_iconst (v := (-1)) hx hb dX5_nextStage_73 (by decide) ?_
        obtain rfl := Option.some.inj h
        exact W.iret (v := (-1)) hx hb hr (fun t ht9 hW => ⟨⟨_, (), rfl, rfl, zend ht9 hP⟩, hS.F ht9⟩) hS.2.2 dX5_nextStage_74
      · have h := zt h c17
        refine lv_iload_n hx hb dX5_nextStage_64 rfl (lv_at hl 3 rfl) ?_
        refine lv_iconst (v := 2) hx hb dX5_nextStage_65 (by decide) ?_
        refine lv_icmp_ne (tgt := 73) hx hb dX5_nextStage_66 (by decide) (fun c16 => ?_) (fun c16 => ?_)
        · have h := zf h c16
          refine lv_iconst (v := (-1)) hx hb dX5_nextStage_73 (by decide) ?_
          obtain rfl := Option.some.inj h
          exact W.iret (v := (-1)) hx hb hr (fun t ht9 hW => ⟨⟨_, (), rfl, rfl, zend ht9 hP⟩, hS.F ht9⟩) hS.2.2 dX5_nextStage_74
        · have h := zt h c16
          refine lv_iconst (v := 3) hx hb dX5_nextStage_69 (by decide) ?_
          refine lv_goto (tgt := 74) hx hb dX5_nextStage_70 (by decide) ?_
          obtain rfl := Option.some.inj h
          exact W.iret (v := 3) hx hb hr (fun t ht9 hW => ⟨⟨_, (), rfl, rfl, zend ht9 hP⟩, hS.F ht9⟩) hS.2.2 dX5_nextStage_74
    · have h := zf h c2
      by_cases c3 : a1 = 3
      · have h := zt h c3
        refine lv_tableIn (off := 74) (tgt := 75) hx hb dX5_nextStage_1 (by rw [c3]; decide) (by rw [c3]; decide) (by rw [c3]; rfl) (by decide) ?_
        refine lv_iload_n hx hb dX5_nextStage_75 rfl (lv_at hl 3 rfl) ?_
        refine lv_iconst (v := 2) hx hb dX5_nextStage_76 (by decide) ?_
        refine lv_icmp_ne (tgt := 84) hx hb dX5_nextStage_77 (by decide) (fun c15 => ?_) (fun c15 => ?_)
        · have h := zf h c15
          refine lv_iload_n hx hb dX5_nextStage_84 rfl (lv_at hl 3 rfl) ?_
          refine lv_iconst (v := 3) hx hb dX5_nextStage_85 (by decide) ?_
          refine lv_icmp_ne (tgt := 93) hx hb dX5_nextStage_86 (by decide) (fun c14 => ?_) (fun c14 => ?_)
          · have h := zf h c14
            refine lv_iconst (v := (-1)) hx hb dX5_nextStage_93 (by decide) ?_
            obtain rfl := Option.some.inj h
            exact W.iret (v := (-1)) hx hb hr (fun t ht9 hW => ⟨⟨_, (), rfl, rfl, zend ht9 hP⟩, hS.F ht9⟩) hS.2.2 dX5_nextStage_94
          · have h := zt h c14
            refine lv_iconst (v := 4) hx hb dX5_nextStage_89 (by decide) ?_
            refine lv_goto (tgt := 94) hx hb dX5_nextStage_90 (by decide) ?_
            obtain rfl := Option.some.inj h
            exact W.iret (v := 4) hx hb hr (fun t ht9 hW => ⟨⟨_, (), rfl, rfl, zend ht9 hP⟩, hS.F ht9⟩) hS.2.2 dX5_nextStage_94
        · have h := zt h c15
          refine lv_iconst (v := 3) hx hb dX5_nextStage_80 (by decide) ?_
          refine lv_goto (tgt := 94) hx hb dX5_nextStage_81 (by decide) ?_
          obtain rfl := Option.some.inj h
          exact W.iret (v := 3) hx hb hr (fun t ht9 hW => ⟨⟨_, (), rfl, rfl, zend ht9 hP⟩, hS.F ht9⟩) hS.2.2 dX5_nextStage_94
      · have h := zf h c3
        by_cases c4 : a1 = 4
        · have h := zt h c4
          refine lv_tableIn (off := 94) (tgt := 95) hx hb dX5_nextStage_1 (by rw [c4]; decide) (by rw [c4]; decide) (by rw [c4]; rfl) (by decide) ?_
          refine lv_iload_n hx hb dX5_nextStage_95 rfl (lv_at hl 1 rfl) ?_
          refine lv_iload_n hx hb dX5_nextStage_96 rfl (lv_at hl 2 rfl) ?_
          refine lv_icmp_ne (tgt := 102) hx hb dX5_nextStage_97 (by decide) (fun c13 => ?_) (fun c13 => ?_)
          · have h := zf h c13
            refine lv_iload_n hx hb dX5_nextStage_102 rfl (lv_at hl 3 rfl) ?_
            refine lv_iconst (v := 2) hx hb dX5_nextStage_103 (by decide) ?_
            refine lv_icmp_ne (tgt := 111) hx hb dX5_nextStage_104 (by decide) (fun c12 => ?_) (fun c12 => ?_)
            · have h := zf h c12
              refine lv_iload_n hx hb dX5_nextStage_111 rfl (lv_at hl 3 rfl) ?_
              refine lv_iconst (v := 3) hx hb dX5_nextStage_112 (by decide) ?_
              refine lv_icmp_ne (tgt := 120) hx hb dX5_nextStage_113 (by decide) (fun c11 => ?_) (fun c11 => ?_)
              · have h := zf h c11
                refine lv_iconst (v := (-1)) hx hb dX5_nextStage_120 (by decide) ?_
                obtain rfl := Option.some.inj h
                exact W.iret (v := (-1)) hx hb hr (fun t ht9 hW => ⟨⟨_, (), rfl, rfl, zend ht9 hP⟩, hS.F ht9⟩) hS.2.2 dX5_nextStage_121
              · have h := zt h c11
                refine lv_iconst (v := 5) hx hb dX5_nextStage_116 (by decide) ?_
                refine lv_goto (tgt := 121) hx hb dX5_nextStage_117 (by decide) ?_
                obtain rfl := Option.some.inj h
                exact W.iret (v := 5) hx hb hr (fun t ht9 hW => ⟨⟨_, (), rfl, rfl, zend ht9 hP⟩, hS.F ht9⟩) hS.2.2 dX5_nextStage_121
            · have h := zt h c12
              refine lv_iconst (v := 4) hx hb dX5_nextStage_107 (by decide) ?_
              refine lv_goto (tgt := 121) hx hb dX5_nextStage_108 (by decide) ?_
              obtain rfl := Option.some.inj h
              exact W.iret (v := 4) hx hb hr (fun t ht9 hW => ⟨⟨_, (), rfl, rfl, zend ht9 hP⟩, hS.F ht9⟩) hS.2.2 dX5_nextStage_121
          · have h := zt h c13
            refine lv_iconst (v := (-1)) hx hb dX5_nextStage_100 (by decide) ?_
            obtain rfl := Option.some.inj h
            exact W.iret (v := (-1)) hx hb hr (fun t ht9 hW => ⟨⟨_, (), rfl, rfl, zend ht9 hP⟩, hS.F ht9⟩) hS.2.2 dX5_nextStage_101
        · have h := zf h c4
          by_cases c5 : a1 = 5
          · have h := zt h c5
            refine lv_tableIn (off := 153) (tgt := 154) hx hb dX5_nextStage_1 (by rw [c5]; decide) (by rw [c5]; decide) (by rw [c5]; rfl) (by decide) ?_
            refine lv_iconst (v := (-1)) hx hb dX5_nextStage_154 (by decide) ?_
            obtain rfl := Option.some.inj h
            exact W.iret (v := (-1)) hx hb hr (fun t ht9 hW => ⟨⟨_, (), rfl, rfl, zend ht9 hP⟩, hS.F ht9⟩) hS.2.2 dX5_nextStage_155
          · have h := zf h c5
            by_cases c6 : a1 = 6
            · have h := zt h c6
              refine lv_tableIn (off := 121) (tgt := 122) hx hb dX5_nextStage_1 (by rw [c6]; decide) (by rw [c6]; decide) (by rw [c6]; rfl) (by decide) ?_
              refine lv_iload_n hx hb dX5_nextStage_122 rfl (lv_at hl 3 rfl) ?_
              refine lv_iconst (v := 2) hx hb dX5_nextStage_123 (by decide) ?_
              refine lv_icmp_eq (tgt := 129) hx hb dX5_nextStage_124 (by decide) (fun c10 => ?_) (fun c10 => ?_)
              · have h := zt h c10
                refine lv_iload_n hx hb dX5_nextStage_129 rfl (lv_at hl 1 rfl) ?_
                refine lv_iconst (v := 1) hx hb dX5_nextStage_130 (by decide) ?_
                refine lv_icmp_ne (tgt := 139) hx hb dX5_nextStage_131 (by decide) (fun c9 => ?_) (fun c9 => ?_)
                · have h := zf h c9
                  refine lv_bipush (v := 6) hx hb dX5_nextStage_139 (by decide) ?_
                  obtain rfl := Option.some.inj h
                  exact W.iret (v := 6) hx hb hr (fun t ht9 hW => ⟨⟨_, (), rfl, rfl, zend ht9 hP⟩, hS.F ht9⟩) hS.2.2 dX5_nextStage_141
                · have h := zt h c9
                  refine lv_bipush (v := 7) hx hb dX5_nextStage_134 (by decide) ?_
                  refine lv_goto (tgt := 141) hx hb dX5_nextStage_136 (by decide) ?_
                  obtain rfl := Option.some.inj h
                  exact W.iret (v := 7) hx hb hr (fun t ht9 hW => ⟨⟨_, (), rfl, rfl, zend ht9 hP⟩, hS.F ht9⟩) hS.2.2 dX5_nextStage_141
              · have h := zf h c10
                refine lv_iconst (v := (-1)) hx hb dX5_nextStage_127 (by decide) ?_
                obtain rfl := Option.some.inj h
                exact W.iret (v := (-1)) hx hb hr (fun t ht9 hW => ⟨⟨_, (), rfl, rfl, zend ht9 hP⟩, hS.F ht9⟩) hS.2.2 dX5_nextStage_128
            · have h := zf h c6
              by_cases c7 : a1 = 7
              · have h := zt h c7
                refine lv_tableIn (off := 141) (tgt := 142) hx hb dX5_nextStage_1 (by rw [c7]; decide) (by rw [c7]; decide) (by rw [c7]; rfl) (by decide) ?_
                refine lv_iload_n hx hb dX5_nextStage_142 rfl (lv_at hl 3 rfl) ?_
                refine lv_iconst (v := 2) hx hb dX5_nextStage_143 (by decide) ?_
                refine lv_icmp_ne (tgt := 152) hx hb dX5_nextStage_144 (by decide) (fun c8 => ?_) (fun c8 => ?_)
                · have h := zf h c8
                  refine lv_iconst (v := (-1)) hx hb dX5_nextStage_152 (by decide) ?_
                  obtain rfl := Option.some.inj h
                  exact W.iret (v := (-1)) hx hb hr (fun t ht9 hW => ⟨⟨_, (), rfl, rfl, zend ht9 hP⟩, hS.F ht9⟩) hS.2.2 dX5_nextStage_153
                · have h := zt h c8
                  refine lv_bipush (v := 7) hx hb dX5_nextStage_147 (by decide) ?_
                  refine lv_goto (tgt := 153) hx hb dX5_nextStage_149 (by decide) ?_
                  obtain rfl := Option.some.inj h
                  exact W.iret (v := 7) hx hb hr (fun t ht9 hW => ⟨⟨_, (), rfl, rfl, zend ht9 hP⟩, hS.F ht9⟩) hS.2.2 dX5_nextStage_153
              · have h := zf h c7
                refine lv_tableOut (tgt := 154) hx hb dX5_nextStage_1 (by have e0 : (Int32.toInt a1) ≠ 1 := fun q => c1 (Int32.toInt_inj.mp (by rw [q]; rfl)); have e1 : (Int32.toInt a1) ≠ 2 := fun q => c2 (Int32.toInt_inj.mp (by rw [q]; rfl)); have e2 : (Int32.toInt a1) ≠ 3 := fun q => c3 (Int32.toInt_inj.mp (by rw [q]; rfl)); have e3 : (Int32.toInt a1) ≠ 4 := fun q => c4 (Int32.toInt_inj.mp (by rw [q]; rfl)); have e4 : (Int32.toInt a1) ≠ 5 := fun q => c5 (Int32.toInt_inj.mp (by rw [q]; rfl)); have e5 : (Int32.toInt a1) ≠ 6 := fun q => c6 (Int32.toInt_inj.mp (by rw [q]; rfl)); have e6 : (Int32.toInt a1) ≠ 7 := fun q => c7 (Int32.toInt_inj.mp (by rw [q]; rfl)); omega) (by decide) ?_
                refine lv_iconst (v := (-1)) hx hb dX5_nextStage_154 (by decide) ?_
                obtain rfl := Option.some.inj h
                exact W.iret (v := (-1)) hx hb hr (fun t ht9 hW => ⟨⟨_, (), rfl, rfl, zend ht9 hP⟩, hS.F ht9⟩) hS.2.2 dX5_nextStage_155
def f_X5_tallyOf  (a1 : Int32) : Option (Int32) :=
  if a1 = 0 then (some (1)) else (if a1 = 1 then (some (0)) else (if a1 = 2 then (some (2)) else (if a1 = 3 then (some (3)) else (some (4)))))
abbrev wk_X5_tallyOf : List Cond := Cond.code yX5_tallyOf cX5_tallyOf 1 (some .int) :: WB
abbrev rm_X5_tallyOf : Room := { frames := 0, cells := 0, slots := 0, locals := 0 }
set_option maxHeartbeats 4000000 in
set_option maxRecDepth 100000 in
theorem c_X5_tallyOf (l : Launch) (D : va_G) (k : Nat → Nat)  (a1 : Int32) {res : Int32} (h : f_X5_tallyOf  a1 = some res) : Ci l yX5_tallyOf wk_X5_tallyOf rm_X5_tallyOf D k [.int a1] [] [] res := by
  unfold Ci
  intro sz
  refine Met.ofW (cc := cX5_tallyOf) (maxL := 1) (ret := (some .int)) (by decide) rfl ?_
  intro p e s m args below meth c s₁ B hml hv
  obtain ⟨rfl, hsz, hP, hK, hD0, hm⟩ := hv
  have hx := B.exec
  have hb := B.bytes
  have hr := B.returns
  have ht : ∀ w ∈ WB, w.before _ s = true := fun w hw => atoms_spec (ws := wk_X5_tallyOf) B.pre w (List.mem_cons_of_mem _ hw)
  have hown : s.vm.findClass RX5 = some m.cls := findClass_of_methodNamed B.named
  have hlocks := B.notSynchronized
  subst hsz
  have hD := hD0.self (sz := s.heap.size)
  generalize hAe : va_A [] s.heap.size = A at hD hm ⊢
  have hA : ∀ q : Nat, s.heap.size ≤ q → A q := fun q h => by rw [← hAe]; exact Or.inr h
  have hS : va_S A s.heap s.heap [] := va_S.rf
  have hl := lv_entry ([.int a1]) (n := 1) (Nat.le_of_ble_eq_true rfl)
  rw [lg_entry_eq]
  generalize (lg_sl ([.int a1]) ++ List.replicate (1 - (lg_sl ([.int a1])).length) Slot.unset).toArray = ls at hl ⊢
  have hl : lv_has ls 1 [(0, .int a1)] := hl
  obtain ⟨H, hH⟩ : ∃ H, H = s.heap := ⟨_, rfl⟩
  rw [← hH] at hP
  have hS : va_S A s.heap H [] := by rw [hH]; exact hS
  suffices hgo : W p l e _ s m _ below meth c H [] 0 0 _ _ by rw [hH] at hgo; exact hgo
  unfold f_X5_tallyOf at h
  refine lv_iload_n hx hb dX5_tallyOf_0 rfl (lv_at hl 0 rfl) ?_
  by_cases c1 : a1 = 0
  · have h := zt h c1
    refine lv_tableIn (off := 33) (tgt := 34) hx hb dX5_tallyOf_1 (by rw [c1]; decide) (by rw [c1]; decide) (by rw [c1]; rfl) (by decide) ?_
    refine lv_iconst (v := 1) hx hb dX5_tallyOf_34 (by decide) ?_
    obtain rfl := Option.some.inj h
    exact W.iret (v := 1) hx hb hr (fun t ht9 hW => ⟨⟨_, (), rfl, rfl, zend ht9 hP⟩, hS.F ht9⟩) hS.2.2 dX5_tallyOf_35
  · have h := zf h c1
    by_cases c2 : a1 = 1
    · have h := zt h c2
      refine lv_tableIn (off := 31) (tgt := 32) hx hb dX5_tallyOf_1 (by rw [c2]; decide) (by rw [c2]; decide) (by rw [c2]; rfl) (by decide) ?_
      refine lv_iconst (v := 0) hx hb dX5_tallyOf_32 (by decide) ?_
      obtain rfl := Option.some.inj h
      exact W.iret (v := 0) hx hb hr (fun t ht9 hW => ⟨⟨_, (), rfl, rfl, zend ht9 hP⟩, hS.F ht9⟩) hS.2.2 dX5_tallyOf_33
    · have h := zf h c2
      by_cases c3 : a1 = 2
      · have h := zt h c3
        refine lv_tableIn (off := 35) (tgt := 36) hx hb dX5_tallyOf_1 (by rw [c3]; decide) (by rw [c3]; decide) (by rw [c3]; rfl) (by decide) ?_
        refine lv_iconst (v := 2) hx hb dX5_tallyOf_36 (by decide) ?_
        obtain rfl := Option.some.inj h
        exact W.iret (v := 2) hx hb hr (fun t ht9 hW => ⟨⟨_, (), rfl, rfl, zend ht9 hP⟩, hS.F ht9⟩) hS.2.2 dX5_tallyOf_37
      · have h := zf h c3
        by_cases c4 : a1 = 3
        · have h := zt h c4
          refine lv_tableIn (off := 37) (tgt := 38) hx hb dX5_tallyOf_1 (by rw [c4]; decide) (by rw [c4]; decide) (by rw [c4]; rfl) (by decide) ?_
          refine lv_iconst (v := 3) hx hb dX5_tallyOf_38 (by decide) ?_
          obtain rfl := Option.some.inj h
          exact W.iret (v := 3) hx hb hr (fun t ht9 hW => ⟨⟨_, (), rfl, rfl, zend ht9 hP⟩, hS.F ht9⟩) hS.2.2 dX5_tallyOf_39
        · have h := zf h c4
          refine lv_tableOut (tgt := 40) hx hb dX5_tallyOf_1 (by have e0 : (Int32.toInt a1) ≠ 0 := fun q => c1 (Int32.toInt_inj.mp (by rw [q]; rfl)); have e1 : (Int32.toInt a1) ≠ 1 := fun q => c2 (Int32.toInt_inj.mp (by rw [q]; rfl)); have e2 : (Int32.toInt a1) ≠ 2 := fun q => c3 (Int32.toInt_inj.mp (by rw [q]; rfl)); have e3 : (Int32.toInt a1) ≠ 3 := fun q => c4 (Int32.toInt_inj.mp (by rw [q]; rfl)); omega) (by decide) ?_
          refine lv_iconst (v := 4) hx hb dX5_tallyOf_40 (by decide) ?_
          obtain rfl := Option.some.inj h
          exact W.iret (v := 4) hx hb hr (fun t ht9 hW => ⟨⟨_, (), rfl, rfl, zend ht9 hP⟩, hS.F ht9⟩) hS.2.2 dX5_tallyOf_41
def f_X1_holds  (a1 : Int32) (a2 : Int32) : Option (Bool) :=
  if ((zus a1 a2) &&& 1) = 1 then (some (true)) else (some (false))
abbrev wk_X1_holds : List Cond := Cond.code yX1_holds cX1_holds 2 (some .boolean) :: WB
abbrev rm_X1_holds : Room := { frames := 0, cells := 0, slots := 0, locals := 0 }
set_option maxHeartbeats 4000000 in
set_option maxRecDepth 100000 in
theorem c_X1_holds (l : Launch) (D : va_G) (k : Nat → Nat)  (a1 : Int32) (a2 : Int32) {res : Bool} (h : f_X1_holds  a1 a2 = some res) : Ci l yX1_holds wk_X1_holds rm_X1_holds D k [.int a1, .int a2] [] [] (zB res) := by
  unfold Ci
  intro sz
  refine Met.ofW (cc := cX1_holds) (maxL := 2) (ret := (some .boolean)) (by decide) rfl ?_
  intro p e s m args below meth c s₁ B hml hv
  obtain ⟨rfl, hsz, hP, hK, hD0, hm⟩ := hv
  have hx := B.exec
  have hb := B.bytes
  have hr := B.returns
  have ht : ∀ w ∈ WB, w.before _ s = true := fun w hw => atoms_spec (ws := wk_X1_holds) B.pre w (List.mem_cons_of_mem _ hw)
  have hown : s.vm.findClass RX1 = some m.cls := findClass_of_methodNamed B.named
  have hlocks := B.notSynchronized
  subst hsz
  have hD := hD0.self (sz := s.heap.size)
  generalize hAe : va_A [] s.heap.size = A at hD hm ⊢
  have hA : ∀ q : Nat, s.heap.size ≤ q → A q := fun q h => by rw [← hAe]; exact Or.inr h
  have hS : va_S A s.heap s.heap [] := va_S.rf
  have hl := lv_entry ([.int a1, .int a2]) (n := 2) (Nat.le_of_ble_eq_true rfl)
  rw [lg_entry_eq]
  generalize (lg_sl ([.int a1, .int a2]) ++ List.replicate (2 - (lg_sl ([.int a1, .int a2])).length) Slot.unset).toArray = ls at hl ⊢
  have hl : lv_has ls 2 [(0, .int a1), (1, .int a2)] := hl
  obtain ⟨H, hH⟩ : ∃ H, H = s.heap := ⟨_, rfl⟩
  rw [← hH] at hP
  have hS : va_S A s.heap H [] := by rw [hH]; exact hS
  suffices hgo : W p l e _ s m _ below meth c H [] 0 0 _ _ by rw [hH] at hgo; exact hgo
  unfold f_X1_holds at h
  refine lv_iload_n hx hb dX1_holds_0 rfl (lv_at hl 0 rfl) ?_
  refine lv_iload_n hx hb dX1_holds_1 rfl (lv_at hl 1 rfl) ?_
  refine lv_iushr (v := zus a1 a2) hx hb dX1_holds_2 rfl ?_
  refine lv_iconst (v := 1) hx hb dX1_holds_3 (by decide) ?_
  refine lv_iand hx hb dX1_holds_4 ?_
  refine lv_iconst (v := 1) hx hb dX1_holds_5 (by decide) ?_
  refine lv_icmp_ne (tgt := 13) hx hb dX1_holds_6 (by decide) (fun c1 => ?_) (fun c1 => ?_)
  · have h := zf h c1
    refine lv_iconst (v := 0) hx hb dX1_holds_13 (by decide) ?_
    obtain rfl := Option.some.inj h
    exact W.zret (v := 0) (ty := .boolean) hx hb hr (rfl) (fun t ht9 hW => ⟨⟨_, (), rfl, rfl, zend ht9 hP⟩, hS.F ht9⟩) hS.2.2 dX1_holds_14
  · have h := zt h c1
    refine lv_iconst (v := 1) hx hb dX1_holds_9 (by decide) ?_
    refine lv_goto (tgt := 14) hx hb dX1_holds_10 (by decide) ?_
    obtain rfl := Option.some.inj h
    exact W.zret (v := 1) (ty := .boolean) hx hb hr (rfl) (fun t ht9 hW => ⟨⟨_, (), rfl, rfl, zend ht9 hP⟩, hS.F ht9⟩) hS.2.2 dX1_holds_14
def f_X1_leastOf_L2 (fu : Nat) (K : Int32 → Option (Int32)) (v0 : Int32) : Nat → Int32 → Option (Int32)
  | 0, _ => none
  | n + 1, v1 =>
  if 32 ≤ v1 then (K v1) else ((f_X1_holds  v0 v1).bind fun r1 => if (zB r1) = 0 then (f_X1_leastOf_L2 fu K v0 n (v1 + 1)) else (some (v1)))
def f_X1_leastOf (fu : Nat)  (a1 : Int32) : Option (Int32) :=
  f_X1_leastOf_L2 fu (fun (x1 : Int32) => some (0)) a1 fu 0
abbrev wk_X1_leastOf : List Cond := Cond.code yX1_leastOf cX1_leastOf 2 (some .int) :: WB
abbrev rm_X1_leastOf : Room := { frames := 1, cells := 0, slots := 0, locals := 21 }
set_option maxHeartbeats 4000000 in
set_option maxRecDepth 100000 in
theorem c_X1_leastOf (l : Launch) (D : va_G) (k : Nat → Nat)  (a1 : Int32) (fu : Nat) {res : Int32} (h : f_X1_leastOf fu  a1 = some res) : Ci l yX1_leastOf wk_X1_leastOf rm_X1_leastOf D k [.int a1] [] [] res := by
  unfold Ci
  intro sz
  refine Met.ofW (cc := cX1_leastOf) (maxL := 2) (ret := (some .int)) (by decide) rfl ?_
  intro p e s m args below meth c s₁ B hml hv
  obtain ⟨rfl, hsz, hP, hK, hD0, hm⟩ := hv
  have hx := B.exec
  have hb := B.bytes
  have hr := B.returns
  have ht : ∀ w ∈ WB, w.before _ s = true := fun w hw => atoms_spec (ws := wk_X1_leastOf) B.pre w (List.mem_cons_of_mem _ hw)
  have hown : s.vm.findClass RX1 = some m.cls := findClass_of_methodNamed B.named
  have hlocks := B.notSynchronized
  subst hsz
  have hD := hD0.self (sz := s.heap.size)
  generalize hAe : va_A [] s.heap.size = A at hD hm ⊢
  have hA : ∀ q : Nat, s.heap.size ≤ q → A q := fun q h => by rw [← hAe]; exact Or.inr h
  have hS : va_S A s.heap s.heap [] := va_S.rf
  have hl := lv_entry ([.int a1]) (n := 2) (Nat.le_of_ble_eq_true rfl)
  rw [lg_entry_eq]
  generalize (lg_sl ([.int a1]) ++ List.replicate (2 - (lg_sl ([.int a1])).length) Slot.unset).toArray = ls at hl ⊢
  have hl : lv_has ls 2 [(0, .int a1)] := hl
  obtain ⟨H, hH⟩ : ∃ H, H = s.heap := ⟨_, rfl⟩
  rw [← hH] at hP
  have hS : va_S A s.heap H [] := by rw [hH]; exact hS
  suffices hgo : W p l e _ s m _ below meth c H [] 0 0 _ _ by rw [hH] at hgo; exact hgo
  unfold f_X1_leastOf at h
  refine lv_iconst (v := 0) hx hb dX1_leastOf_0 (by decide) ?_
  refine lv_istore_n (lv' := [(1, .int 0), (0, .int a1)]) hx hb dX1_leastOf_1 rfl hl (by decide) rfl (fun ls hl => ?_)
  have loop2 : ∀ (v0 : Int32), ∀ (K : Int32 → Option (Int32)), (∀ (v1 : Int32), K v1 = some res → ∀ (H : Heap) (locs : List Loc), va_P D vwCl [] H → va_D A [] → va_S A s.heap H locs → ∀ ls : Array Slot, lv_has ls 2 [(0, .int v0), (1, .int v1)] → W p l e (headSpec wk_X1_leastOf rm_X1_leastOf).room s m ([.int a1] : List Value).toArray below meth c H locs 0 0 (MQ below (va_Qi (fun xq9 (_ : Unit) => xq9 = res) (fun _ tq9 => va_P D vwCl [] tq9.heap) A) ([.int a1] : List Value).toArray s 0 0 A) (F0 m 24 ls [])) → ∀ (n : Nat) (v1 : Int32), f_X1_leastOf_L2 fu K v0 n v1 = some res → ∀ (H : Heap) (locs : List Loc), va_P D vwCl [] H → va_D A [] → va_S A s.heap H locs → ∀ ls : Array Slot, lv_has ls 2 [(0, .int v0), (1, .int v1)] → W p l e (headSpec wk_X1_leastOf rm_X1_leastOf).room s m ([.int a1] : List Value).toArray below meth c H locs 0 0 (MQ below (va_Qi (fun xq9 (_ : Unit) => xq9 = res) (fun _ tq9 => va_P D vwCl [] tq9.heap) A) ([.int a1] : List Value).toArray s 0 0 A) (F0 m 2 ls []) := by
    intro v0 K hKK n
    induction n with
    | zero =>
      intro v1 h
      rw [f_X1_leastOf_L2] at h
      cases h
    | succ n ih =>
      intro v1 h H locs hP hD hS ls hl
      rw [f_X1_leastOf_L2] at h
      refine lv_iload_n hx hb dX1_leastOf_2 rfl (lv_at hl 1 rfl) ?_
      refine lv_bipush (v := 32) hx hb dX1_leastOf_3 (by decide) ?_
      refine lv_icmp_ge (tgt := 24) hx hb dX1_leastOf_5 (by decide) (fun c2 => ?_) (fun c2 => ?_)
      · have h := zt h c2
        exact hKK _ h _ _ hP hD hS _ (lv_sub hl [0, 1] rfl)
      · have h := zf h c2
        refine lv_iload_n hx hb dX1_leastOf_8 rfl (lv_at hl 0 rfl) ?_
        refine lv_iload_n hx hb dX1_leastOf_9 rfl (lv_at hl 1 rfl) ?_
        obtain ⟨r1, h1, h⟩ := zb h
        refine zi (zrS (As := [.int v0, .int v1]) (rest := []) ⟨hx, hb, hml, hown, ht⟩ (c_X1_holds l D k   v0 v1 h1 _) (va_cwS 2 ht (gdS wb437 wb438 wb79 wb439) rfl rfl rfl (by decide +kernel) ⟨Nat.le_of_ble_eq_true rfl, Nat.le_of_ble_eq_true rfl⟩) hK hP hD hS hA hm [] rfl rfl rfl hl.1 rfl (Nat.le_of_ble_eq_true rfl) dX1_leastOf_10 ⟨Nat.le_refl _, Nat.le_refl _⟩) hP hD hS hA [] rfl rfl (fun H locs hP hD hS => ?_)
        have hP : va_P D vwCl [] H := hP
        have hD : va_D A [] := hD
        refine lv_if_eq (tgt := 18) hx hb dX1_leastOf_13 (by decide) (fun c1 => ?_) (fun c1 => ?_)
        · have h := zt h c1
          refine lv_iinc (v := v1 + 1) (lv' := [(1, .int (v1 + 1)), (0, .int v0)]) hx hb dX1_leastOf_18 hl (k := 1) rfl rfl (by decide) rfl (fun ls hl => ?_)
          refine lv_goto (tgt := 2) hx hb dX1_leastOf_21 (by decide) ?_
          exact ih _ h _ _ hP hD hS _ (lv_sub hl [1, 0] rfl)
        · have h := zf h c1
          refine lv_iload_n hx hb dX1_leastOf_16 rfl (lv_at hl 1 rfl) ?_
          obtain rfl := Option.some.inj h
          exact W.iret (v := v1) hx hb hr (fun t ht9 hW => ⟨⟨_, (), rfl, rfl, zend ht9 hP⟩, hS.F ht9⟩) hS.2.2 dX1_leastOf_17
  refine loop2 _ _ ?_ fu _ h _ _ hP hD hS _ (lv_sub hl [1, 0] rfl)
  intro x1 h H locs hP hD hS ls hl
  try dsimp only at h
  have hP : va_P D vwCl [] H := hP
  have hD : va_D A [] := hD
  have hl : lv_has ls 2 [(0, .int a1), (1, .int x1)] := hl
  refine lv_iconst (v := 0) hx hb dX1_leastOf_24 (by decide) ?_
  obtain rfl := Option.some.inj h
  exact W.iret (v := 0) hx hb hr (fun t ht9 hW => ⟨⟨_, (), rfl, rfl, zend ht9 hP⟩, hS.F ht9⟩) hS.2.2 dX1_leastOf_25
def f_J6_bitCount_0f7a4  (a1 : Int32) : Option (Int32) :=
  some ((((((((a1 - ((zus a1 1) &&& 1431655765)) &&& 858993459) + ((zus (a1 - ((zus a1 1) &&& 1431655765)) 2) &&& 858993459)) + (zus (((a1 - ((zus a1 1) &&& 1431655765)) &&& 858993459) + ((zus (a1 - ((zus a1 1) &&& 1431655765)) 2) &&& 858993459)) 4)) &&& 252645135) + (zus (((((a1 - ((zus a1 1) &&& 1431655765)) &&& 858993459) + ((zus (a1 - ((zus a1 1) &&& 1431655765)) 2) &&& 858993459)) + (zus (((a1 - ((zus a1 1) &&& 1431655765)) &&& 858993459) + ((zus (a1 - ((zus a1 1) &&& 1431655765)) 2) &&& 858993459)) 4)) &&& 252645135) 8)) + (zus ((((((a1 - ((zus a1 1) &&& 1431655765)) &&& 858993459) + ((zus (a1 - ((zus a1 1) &&& 1431655765)) 2) &&& 858993459)) + (zus (((a1 - ((zus a1 1) &&& 1431655765)) &&& 858993459) + ((zus (a1 - ((zus a1 1) &&& 1431655765)) 2) &&& 858993459)) 4)) &&& 252645135) + (zus (((((a1 - ((zus a1 1) &&& 1431655765)) &&& 858993459) + ((zus (a1 - ((zus a1 1) &&& 1431655765)) 2) &&& 858993459)) + (zus (((a1 - ((zus a1 1) &&& 1431655765)) &&& 858993459) + ((zus (a1 - ((zus a1 1) &&& 1431655765)) 2) &&& 858993459)) 4)) &&& 252645135) 8)) 16)) &&& 63)
abbrev wk_J6_bitCount_0f7a4 : List Cond := Cond.code yJ6_bitCount_0f7a4 cJ6_bitCount_0f7a4 1 (some .int) :: WB
abbrev rm_J6_bitCount_0f7a4 : Room := { frames := 0, cells := 0, slots := 0, locals := 0 }
set_option maxHeartbeats 4000000 in
set_option maxRecDepth 100000 in
theorem c_J6_bitCount_0f7a4 (l : Launch) (D : va_G) (k : Nat → Nat)  (a1 : Int32) {res : Int32} (h : f_J6_bitCount_0f7a4  a1 = some res) : Ci l yJ6_bitCount_0f7a4 wk_J6_bitCount_0f7a4 rm_J6_bitCount_0f7a4 D k [.int a1] [] [] res := by
  unfold Ci
  intro sz
  refine Met.ofW (cc := cJ6_bitCount_0f7a4) (maxL := 1) (ret := (some .int)) (by decide) rfl ?_
  intro p e s m args below meth c s₁ B hml hv
  obtain ⟨rfl, hsz, hP, hK, hD0, hm⟩ := hv
  have hx := B.exec
  have hb := B.bytes
  have hr := B.returns
  have ht : ∀ w ∈ WB, w.before _ s = true := fun w hw => atoms_spec (ws := wk_J6_bitCount_0f7a4) B.pre w (List.mem_cons_of_mem _ hw)
  have hown : s.vm.findClass RJ6 = some m.cls := findClass_of_methodNamed B.named
  have hlocks := B.notSynchronized
  subst hsz
  have hD := hD0.self (sz := s.heap.size)
  generalize hAe : va_A [] s.heap.size = A at hD hm ⊢
  have hA : ∀ q : Nat, s.heap.size ≤ q → A q := fun q h => by rw [← hAe]; exact Or.inr h
  have hS : va_S A s.heap s.heap [] := va_S.rf
  have hl := lv_entry ([.int a1]) (n := 1) (Nat.le_of_ble_eq_true rfl)
  rw [lg_entry_eq]
  generalize (lg_sl ([.int a1]) ++ List.replicate (1 - (lg_sl ([.int a1])).length) Slot.unset).toArray = ls at hl ⊢
  have hl : lv_has ls 1 [(0, .int a1)] := hl
  obtain ⟨H, hH⟩ : ∃ H, H = s.heap := ⟨_, rfl⟩
  rw [← hH] at hP
  have hS : va_S A s.heap H [] := by rw [hH]; exact hS
  suffices hgo : W p l e _ s m _ below meth c H [] 0 0 _ _ by rw [hH] at hgo; exact hgo
  unfold f_J6_bitCount_0f7a4 at h
  refine lv_iload_n hx hb dJ6_bitCount_0f7a4_0 rfl (lv_at hl 0 rfl) ?_
  refine lv_iload_n hx hb dJ6_bitCount_0f7a4_1 rfl (lv_at hl 0 rfl) ?_
  refine lv_iconst (v := 1) hx hb dJ6_bitCount_0f7a4_2 (by decide) ?_
  refine lv_iushr (v := zus a1 1) hx hb dJ6_bitCount_0f7a4_3 rfl ?_
  refine lv_ldcw (v := 1431655765) hx hb hown (ht _ wb443) dJ6_bitCount_0f7a4_4 ?_
  refine lv_iand hx hb dJ6_bitCount_0f7a4_7 ?_
  refine lv_isub hx hb dJ6_bitCount_0f7a4_8 ?_
  refine lv_istore_n (lv' := [(0, .int (a1 - ((zus a1 1) &&& 1431655765)))]) hx hb dJ6_bitCount_0f7a4_9 rfl hl (by decide) rfl (fun ls hl => ?_)
  refine lv_iload_n hx hb dJ6_bitCount_0f7a4_10 rfl (lv_at hl 0 rfl) ?_
  refine lv_ldcw (v := 858993459) hx hb hown (ht _ wb444) dJ6_bitCount_0f7a4_11 ?_
  refine lv_iand hx hb dJ6_bitCount_0f7a4_14 ?_
  refine lv_iload_n hx hb dJ6_bitCount_0f7a4_15 rfl (lv_at hl 0 rfl) ?_
  refine lv_iconst (v := 2) hx hb dJ6_bitCount_0f7a4_16 (by decide) ?_
  refine lv_iushr (v := zus (a1 - ((zus a1 1) &&& 1431655765)) 2) hx hb dJ6_bitCount_0f7a4_17 rfl ?_
  refine lv_ldcw (v := 858993459) hx hb hown (ht _ wb444) dJ6_bitCount_0f7a4_18 ?_
  refine lv_iand hx hb dJ6_bitCount_0f7a4_21 ?_
  refine lv_iadd hx hb dJ6_bitCount_0f7a4_22 ?_
  refine lv_istore_n (lv' := [(0, .int (((a1 - ((zus a1 1) &&& 1431655765)) &&& 858993459) + ((zus (a1 - ((zus a1 1) &&& 1431655765)) 2) &&& 858993459)))]) hx hb dJ6_bitCount_0f7a4_23 rfl hl (by decide) rfl (fun ls hl => ?_)
  refine lv_iload_n hx hb dJ6_bitCount_0f7a4_24 rfl (lv_at hl 0 rfl) ?_
  refine lv_iload_n hx hb dJ6_bitCount_0f7a4_25 rfl (lv_at hl 0 rfl) ?_
  refine lv_iconst (v := 4) hx hb dJ6_bitCount_0f7a4_26 (by decide) ?_
  refine lv_iushr (v := zus (((a1 - ((zus a1 1) &&& 1431655765)) &&& 858993459) + ((zus (a1 - ((zus a1 1) &&& 1431655765)) 2) &&& 858993459)) 4) hx hb dJ6_bitCount_0f7a4_27 rfl ?_
  refine lv_iadd hx hb dJ6_bitCount_0f7a4_28 ?_
  refine lv_ldcw (v := 252645135) hx hb hown (ht _ wb445) dJ6_bitCount_0f7a4_29 ?_
  refine lv_iand hx hb dJ6_bitCount_0f7a4_32 ?_
  refine lv_istore_n (lv' := [(0, .int (((((a1 - ((zus a1 1) &&& 1431655765)) &&& 858993459) + ((zus (a1 - ((zus a1 1) &&& 1431655765)) 2) &&& 858993459)) + (zus (((a1 - ((zus a1 1) &&& 1431655765)) &&& 858993459) + ((zus (a1 - ((zus a1 1) &&& 1431655765)) 2) &&& 858993459)) 4)) &&& 252645135))]) hx hb dJ6_bitCount_0f7a4_33 rfl hl (by decide) rfl (fun ls hl => ?_)
  refine lv_iload_n hx hb dJ6_bitCount_0f7a4_34 rfl (lv_at hl 0 rfl) ?_
  refine lv_iload_n hx hb dJ6_bitCount_0f7a4_35 rfl (lv_at hl 0 rfl) ?_
  refine lv_bipush (v := 8) hx hb dJ6_bitCount_0f7a4_36 (by decide) ?_
  refine lv_iushr (v := zus (((((a1 - ((zus a1 1) &&& 1431655765)) &&& 858993459) + ((zus (a1 - ((zus a1 1) &&& 1431655765)) 2) &&& 858993459)) + (zus (((a1 - ((zus a1 1) &&& 1431655765)) &&& 858993459) + ((zus (a1 - ((zus a1 1) &&& 1431655765)) 2) &&& 858993459)) 4)) &&& 252645135) 8) hx hb dJ6_bitCount_0f7a4_38 rfl ?_
  refine lv_iadd hx hb dJ6_bitCount_0f7a4_39 ?_
  refine lv_istore_n (lv' := [(0, .int ((((((a1 - ((zus a1 1) &&& 1431655765)) &&& 858993459) + ((zus (a1 - ((zus a1 1) &&& 1431655765)) 2) &&& 858993459)) + (zus (((a1 - ((zus a1 1) &&& 1431655765)) &&& 858993459) + ((zus (a1 - ((zus a1 1) &&& 1431655765)) 2) &&& 858993459)) 4)) &&& 252645135) + (zus (((((a1 - ((zus a1 1) &&& 1431655765)) &&& 858993459) + ((zus (a1 - ((zus a1 1) &&& 1431655765)) 2) &&& 858993459)) + (zus (((a1 - ((zus a1 1) &&& 1431655765)) &&& 858993459) + ((zus (a1 - ((zus a1 1) &&& 1431655765)) 2) &&& 858993459)) 4)) &&& 252645135) 8)))]) hx hb dJ6_bitCount_0f7a4_40 rfl hl (by decide) rfl (fun ls hl => ?_)
  refine lv_iload_n hx hb dJ6_bitCount_0f7a4_41 rfl (lv_at hl 0 rfl) ?_
  refine lv_iload_n hx hb dJ6_bitCount_0f7a4_42 rfl (lv_at hl 0 rfl) ?_
  refine lv_bipush (v := 16) hx hb dJ6_bitCount_0f7a4_43 (by decide) ?_
  refine lv_iushr (v := zus ((((((a1 - ((zus a1 1) &&& 1431655765)) &&& 858993459) + ((zus (a1 - ((zus a1 1) &&& 1431655765)) 2) &&& 858993459)) + (zus (((a1 - ((zus a1 1) &&& 1431655765)) &&& 858993459) + ((zus (a1 - ((zus a1 1) &&& 1431655765)) 2) &&& 858993459)) 4)) &&& 252645135) + (zus (((((a1 - ((zus a1 1) &&& 1431655765)) &&& 858993459) + ((zus (a1 - ((zus a1 1) &&& 1431655765)) 2) &&& 858993459)) + (zus (((a1 - ((zus a1 1) &&& 1431655765)) &&& 858993459) + ((zus (a1 - ((zus a1 1) &&& 1431655765)) 2) &&& 858993459)) 4)) &&& 252645135) 8)) 16) hx hb dJ6_bitCount_0f7a4_45 rfl ?_
  refine lv_iadd hx hb dJ6_bitCount_0f7a4_46 ?_
  refine lv_istore_n (lv' := [(0, .int (((((((a1 - ((zus a1 1) &&& 1431655765)) &&& 858993459) + ((zus (a1 - ((zus a1 1) &&& 1431655765)) 2) &&& 858993459)) + (zus (((a1 - ((zus a1 1) &&& 1431655765)) &&& 858993459) + ((zus (a1 - ((zus a1 1) &&& 1431655765)) 2) &&& 858993459)) 4)) &&& 252645135) + (zus (((((a1 - ((zus a1 1) &&& 1431655765)) &&& 858993459) + ((zus (a1 - ((zus a1 1) &&& 1431655765)) 2) &&& 858993459)) + (zus (((a1 - ((zus a1 1) &&& 1431655765)) &&& 858993459) + ((zus (a1 - ((zus a1 1) &&& 1431655765)) 2) &&& 858993459)) 4)) &&& 252645135) 8)) + (zus ((((((a1 - ((zus a1 1) &&& 1431655765)) &&& 858993459) + ((zus (a1 - ((zus a1 1) &&& 1431655765)) 2) &&& 858993459)) + (zus (((a1 - ((zus a1 1) &&& 1431655765)) &&& 858993459) + ((zus (a1 - ((zus a1 1) &&& 1431655765)) 2) &&& 858993459)) 4)) &&& 252645135) + (zus (((((a1 - ((zus a1 1) &&& 1431655765)) &&& 858993459) + ((zus (a1 - ((zus a1 1) &&& 1431655765)) 2) &&& 858993459)) + (zus (((a1 - ((zus a1 1) &&& 1431655765)) &&& 858993459) + ((zus (a1 - ((zus a1 1) &&& 1431655765)) 2) &&& 858993459)) 4)) &&& 252645135) 8)) 16)))]) hx hb dJ6_bitCount_0f7a4_47 rfl hl (by decide) rfl (fun ls hl => ?_)
  refine lv_iload_n hx hb dJ6_bitCount_0f7a4_48 rfl (lv_at hl 0 rfl) ?_
  refine lv_bipush (v := 63) hx hb dJ6_bitCount_0f7a4_49 (by decide) ?_
  refine lv_iand hx hb dJ6_bitCount_0f7a4_51 ?_
  obtain rfl := Option.some.inj h
  exact W.iret (v := (((((((a1 - ((zus a1 1) &&& 1431655765)) &&& 858993459) + ((zus (a1 - ((zus a1 1) &&& 1431655765)) 2) &&& 858993459)) + (zus (((a1 - ((zus a1 1) &&& 1431655765)) &&& 858993459) + ((zus (a1 - ((zus a1 1) &&& 1431655765)) 2) &&& 858993459)) 4)) &&& 252645135) + (zus (((((a1 - ((zus a1 1) &&& 1431655765)) &&& 858993459) + ((zus (a1 - ((zus a1 1) &&& 1431655765)) 2) &&& 858993459)) + (zus (((a1 - ((zus a1 1) &&& 1431655765)) &&& 858993459) + ((zus (a1 - ((zus a1 1) &&& 1431655765)) 2) &&& 858993459)) 4)) &&& 252645135) 8)) + (zus ((((((a1 - ((zus a1 1) &&& 1431655765)) &&& 858993459) + ((zus (a1 - ((zus a1 1) &&& 1431655765)) 2) &&& 858993459)) + (zus (((a1 - ((zus a1 1) &&& 1431655765)) &&& 858993459) + ((zus (a1 - ((zus a1 1) &&& 1431655765)) 2) &&& 858993459)) 4)) &&& 252645135) + (zus (((((a1 - ((zus a1 1) &&& 1431655765)) &&& 858993459) + ((zus (a1 - ((zus a1 1) &&& 1431655765)) 2) &&& 858993459)) + (zus (((a1 - ((zus a1 1) &&& 1431655765)) &&& 858993459) + ((zus (a1 - ((zus a1 1) &&& 1431655765)) 2) &&& 858993459)) 4)) &&& 252645135) 8)) 16)) &&& 63) hx hb hr (fun t ht9 hW => ⟨⟨_, (), rfl, rfl, zend ht9 hP⟩, hS.F ht9⟩) hS.2.2 dJ6_bitCount_0f7a4_52
def f_X5_fitsEnd (tw : Int32) (ts : Int32) (tn : Nat) (tf : Nat → Int32) (a1 : Int32) (a2 : Int32) (a3 : Int32) (a4 : Int32) : Option (Bool) :=
  (f_X3_get tw ts tn tf a1 (0 + a2)).bind fun r1 => (f_X3_get tw ts tn tf a1 (2 + (2 * a2))).bind fun r2 => (f_X3_get tw ts tn tf a1 (3 + (2 * a2))).bind fun r3 => if r1 = 6 then ((f_X5_within  a3 r2 r3).bind fun r4 => if (zB r4) = 0 then (some (false)) else (some (true))) else (if r1 = a4 then ((f_X5_within  a3 r2 r3).bind fun r5 => if (zB r5) = 0 then (some (false)) else (some (true))) else (some (false)))
abbrev wk_X5_fitsEnd : List Cond := Cond.code yX5_fitsEnd cX5_fitsEnd 8 (some .boolean) :: WB
abbrev rm_X5_fitsEnd : Room := { frames := 2, cells := 0, slots := 0, locals := 44 }
set_option maxHeartbeats 4000000 in
set_option maxRecDepth 100000 in
theorem c_X5_fitsEnd (l : Launch) (D : va_G) (k : Nat → Nat) (t tc : Nat) (tl : Int32) (tw : Int32) (ts : Int32) (tn : Nat) (tf : Nat → Int32) (a1 : Int32) (a2 : Int32) (a3 : Int32) (a4 : Int32) {res : Bool} (h : f_X5_fitsEnd tw ts tn tf a1 a2 a3 a4 = some res) : Ci l yX5_fitsEnd wk_X5_fitsEnd rm_X5_fitsEnd D k [.ref t, .int a1, .int a2, .int a3, .int a4] [(t, .inr (3, [.int tl, .int tw, .ref tc, .int ts])), (tc, .inl (k 0, tn, .inl tf))] [(t, .inr (3, [.int tl, .int tw, .ref tc, .int ts])), (tc, .inl (k 0, tn, .inl tf))] (zB res) := by
  unfold Ci
  intro sz
  refine Met.ofW (cc := cX5_fitsEnd) (maxL := 8) (ret := (some .boolean)) (by decide) rfl ?_
  intro p e s m args below meth c s₁ B hml hv
  obtain ⟨rfl, hsz, hP, hK, hD0, hm⟩ := hv
  have hx := B.exec
  have hb := B.bytes
  have hr := B.returns
  have ht : ∀ w ∈ WB, w.before _ s = true := fun w hw => atoms_spec (ws := wk_X5_fitsEnd) B.pre w (List.mem_cons_of_mem _ hw)
  have hown : s.vm.findClass RX5 = some m.cls := findClass_of_methodNamed B.named
  have hlocks := B.notSynchronized
  subst hsz
  have hD := hD0.self (sz := s.heap.size)
  generalize hAe : va_A [(t, .inr (3, [.int tl, .int tw, .ref tc, .int ts])), (tc, .inl (k 0, tn, .inl tf))] s.heap.size = A at hD hm ⊢
  have hA : ∀ q : Nat, s.heap.size ≤ q → A q := fun q h => by rw [← hAe]; exact Or.inr h
  have hS : va_S A s.heap s.heap [] := va_S.rf
  have hl := lv_entry ([.ref t, .int a1, .int a2, .int a3, .int a4]) (n := 8) (Nat.le_of_ble_eq_true rfl)
  rw [lg_entry_eq]
  generalize (lg_sl ([.ref t, .int a1, .int a2, .int a3, .int a4]) ++ List.replicate (8 - (lg_sl ([.ref t, .int a1, .int a2, .int a3, .int a4])).length) Slot.unset).toArray = ls at hl ⊢
  have hl : lv_has ls 8 [(0, .ref t), (1, .int a1), (2, .int a2), (3, .int a3), (4, .int a4)] := hl
  obtain ⟨H, hH⟩ : ∃ H, H = s.heap := ⟨_, rfl⟩
  rw [← hH] at hP
  have hS : va_S A s.heap H [] := by rw [hH]; exact hS
  suffices hgo : W p l e _ s m _ below meth c H [] 0 0 _ _ by rw [hH] at hgo; exact hgo
  unfold f_X5_fitsEnd at h
  refine lv_aload_n hx hb dX5_fitsEnd_0 rfl (lv_at hl 0 rfl) ?_
  refine lv_iload_n hx hb dX5_fitsEnd_1 rfl (lv_at hl 1 rfl) ?_
  refine lv_iconst (v := 0) hx hb dX5_fitsEnd_2 (by decide) ?_
  refine lv_iload_n hx hb dX5_fitsEnd_3 rfl (lv_at hl 2 rfl) ?_
  refine lv_iadd hx hb dX5_fitsEnd_4 ?_
  obtain ⟨r1, h1, h⟩ := zb h
  refine zi (zrV (C := RX3) (T := TX3) (N := 4) (As := [.int a1, .int (0 + a2)]) (rest := []) ⟨hx, hb, hml, hown, ht⟩ (c_X3_get l D k t tc tl tw ts tn tf a1 (0 + a2) h1 _) (cwV 2 ht (gdV wb343 wb344 wb345 wb74 wb346) rfl rfl rfl (by decide +kernel) ⟨Nat.le_of_ble_eq_true rfl, Nat.le_of_ble_eq_true rfl⟩) hK hP hD hS hA hm [0, 1] rfl rfl 0 3 rfl rfl rfl hl.1 rfl (Nat.le_of_ble_eq_true rfl) dX5_fitsEnd_5 ⟨Nat.le_refl _, Nat.le_refl _⟩) hP hD hS hA [0, 1] rfl rfl (fun H locs hP hD hS => ?_)
  have hP : va_P D vwCl [(t, .inr (3, [.int tl, .int tw, .ref tc, .int ts])), (tc, .inl (k 0, tn, .inl tf))] H := hP
  have hD : va_D A [(t, .inr (3, [.int tl, .int tw, .ref tc, .int ts])), (tc, .inl (k 0, tn, .inl tf))] := hD
  refine lv_istore (lv' := [(5, .int r1), (0, .ref t), (1, .int a1), (2, .int a2), (3, .int a3), (4, .int a4)]) hx hb dX5_fitsEnd_8 hl (by decide) rfl (fun ls hl => ?_)
  refine lv_aload_n hx hb dX5_fitsEnd_10 rfl (lv_at hl 1 rfl) ?_
  refine lv_iload_n hx hb dX5_fitsEnd_11 rfl (lv_at hl 2 rfl) ?_
  refine lv_iconst (v := 2) hx hb dX5_fitsEnd_12 (by decide) ?_
  refine lv_iconst (v := 2) hx hb dX5_fitsEnd_13 (by decide) ?_
  refine lv_iload_n hx hb dX5_fitsEnd_14 rfl (lv_at hl 3 rfl) ?_
  refine lv_imul hx hb dX5_fitsEnd_15 ?_
  refine lv_iadd hx hb dX5_fitsEnd_16 ?_
  obtain ⟨r2, h2, h⟩ := zb h
  refine zi (zrV (C := RX3) (T := TX3) (N := 4) (As := [.int a1, .int (2 + (2 * a2))]) (rest := []) ⟨hx, hb, hml, hown, ht⟩ (c_X3_get l D k t tc tl tw ts tn tf a1 (2 + (2 * a2)) h2 _) (cwV 2 ht (gdV wb343 wb344 wb345 wb74 wb346) rfl rfl rfl (by decide +kernel) ⟨Nat.le_of_ble_eq_true rfl, Nat.le_of_ble_eq_true rfl⟩) hK hP hD hS hA hm [0, 1] rfl rfl 0 3 rfl rfl rfl hl.1 rfl (Nat.le_of_ble_eq_true rfl) dX5_fitsEnd_17 ⟨Nat.le_refl _, Nat.le_refl _⟩) hP hD hS hA [0, 1] rfl rfl (fun H locs hP hD hS => ?_)
  have hP : va_P D vwCl [(t, .inr (3, [.int tl, .int tw, .ref tc, .int ts])), (tc, .inl (k 0, tn, .inl tf))] H := hP
  have hD : va_D A [(t, .inr (3, [.int tl, .int tw, .ref tc, .int ts])), (tc, .inl (k 0, tn, .inl tf))] := hD
  refine lv_istore (lv' := [(6, .int r2), (5, .int r1), (0, .ref t), (1, .int a1), (2, .int a2), (3, .int a3), (4, .int a4)]) hx hb dX5_fitsEnd_20 hl (by decide) rfl (fun ls hl => ?_)
  refine lv_aload_n hx hb dX5_fitsEnd_22 rfl (lv_at hl 2 rfl) ?_
  refine lv_iload_n hx hb dX5_fitsEnd_23 rfl (lv_at hl 3 rfl) ?_
  refine lv_iconst (v := 3) hx hb dX5_fitsEnd_24 (by decide) ?_
  refine lv_iconst (v := 2) hx hb dX5_fitsEnd_25 (by decide) ?_
  refine lv_iload_n hx hb dX5_fitsEnd_26 rfl (lv_at hl 4 rfl) ?_
  refine lv_imul hx hb dX5_fitsEnd_27 ?_
  refine lv_iadd hx hb dX5_fitsEnd_28 ?_
  obtain ⟨r3, h3, h⟩ := zb h
  refine zi (zrV (C := RX3) (T := TX3) (N := 4) (As := [.int a1, .int (3 + (2 * a2))]) (rest := []) ⟨hx, hb, hml, hown, ht⟩ (c_X3_get l D k t tc tl tw ts tn tf a1 (3 + (2 * a2)) h3 _) (cwV 2 ht (gdV wb343 wb344 wb345 wb74 wb346) rfl rfl rfl (by decide +kernel) ⟨Nat.le_of_ble_eq_true rfl, Nat.le_of_ble_eq_true rfl⟩) hK hP hD hS hA hm [0, 1] rfl rfl 0 3 rfl rfl rfl hl.1 rfl (Nat.le_of_ble_eq_true rfl) dX5_fitsEnd_29 ⟨Nat.le_refl _, Nat.le_refl _⟩) hP hD hS hA [0, 1] rfl rfl (fun H locs hP hD hS => ?_)
  have hP : va_P D vwCl [(t, .inr (3, [.int tl, .int tw, .ref tc, .int ts])), (tc, .inl (k 0, tn, .inl tf))] H := hP
  have hD : va_D A [(t, .inr (3, [.int tl, .int tw, .ref tc, .int ts])), (tc, .inl (k 0, tn, .inl tf))] := hD
  refine lv_istore (lv' := [(7, .int r3), (6, .int r2), (5, .int r1), (0, .ref t), (1, .int a1), (2, .int a2), (3, .int a3), (4, .int a4)]) hx hb dX5_fitsEnd_32 hl (by decide) rfl (fun ls hl => ?_)
  refine lv_iload hx hb dX5_fitsEnd_34 (lv_at hl 2 rfl) ?_
  refine lv_bipush (v := 6) hx hb dX5_fitsEnd_36 (by decide) ?_
  refine lv_icmp_eq (tgt := 48) hx hb dX5_fitsEnd_38 (by decide) (fun c4 => ?_) (fun c4 => ?_)
  · have h := zt h c4
    refine lv_iload_n hx hb dX5_fitsEnd_48 rfl (lv_at hl 6 rfl) ?_
    refine lv_iload hx hb dX5_fitsEnd_49 (lv_at hl 1 rfl) ?_
    refine lv_iload hx hb dX5_fitsEnd_51 (lv_at hl 0 rfl) ?_
    obtain ⟨r4, h4, h⟩ := zb h
    refine zi (zrS (As := [.int a3, .int r2, .int r3]) (rest := []) ⟨hx, hb, hml, hown, ht⟩ (c_X5_within l D k   a3 r2 r3 h4 _) (va_cwS 3 ht (gdS wb268 wb269 wb72 wb270) rfl rfl rfl (by decide +kernel) ⟨Nat.le_of_ble_eq_true rfl, Nat.le_of_ble_eq_true rfl⟩) hK hP hD hS hA hm [] rfl rfl rfl hl.1 rfl (Nat.le_of_ble_eq_true rfl) dX5_fitsEnd_53 ⟨Nat.le_refl _, Nat.le_refl _⟩) hP hD hS hA [] rfl rfl (fun H locs hP hD hS => ?_)
    have hP : va_P D vwCl [(t, .inr (3, [.int tl, .int tw, .ref tc, .int ts])), (tc, .inl (k 0, tn, .inl tf))] H := hP
    have hD : va_D A [(t, .inr (3, [.int tl, .int tw, .ref tc, .int ts])), (tc, .inl (k 0, tn, .inl tf))] := hD
    refine lv_if_eq (tgt := 63) hx hb dX5_fitsEnd_56 (by decide) (fun c1 => ?_) (fun c1 => ?_)
    · have h := zt h c1
      refine lv_iconst (v := 0) hx hb dX5_fitsEnd_63 (by decide) ?_
      obtain rfl := Option.some.inj h
      exact W.zret (v := 0) (ty := .boolean) hx hb hr (rfl) (fun t ht9 hW => ⟨⟨_, (), rfl, rfl, zend ht9 hP⟩, hS.F ht9⟩) hS.2.2 dX5_fitsEnd_64
    · have h := zf h c1
      refine lv_iconst (v := 1) hx hb dX5_fitsEnd_59 (by decide) ?_
      refine lv_goto (tgt := 64) hx hb dX5_fitsEnd_60 (by decide) ?_
      obtain rfl := Option.some.inj h
      exact W.zret (v := 1) (ty := .boolean) hx hb hr (rfl) (fun t ht9 hW => ⟨⟨_, (), rfl, rfl, zend ht9 hP⟩, hS.F ht9⟩) hS.2.2 dX5_fitsEnd_64
  · have h := zf h c4
    refine lv_iload hx hb dX5_fitsEnd_41 (lv_at hl 2 rfl) ?_
    refine lv_iload hx hb dX5_fitsEnd_43 (lv_at hl 7 rfl) ?_
    refine lv_icmp_ne (tgt := 63) hx hb dX5_fitsEnd_45 (by decide) (fun c3 => ?_) (fun c3 => ?_)
    · have h := zf h c3
      refine lv_iconst (v := 0) hx hb dX5_fitsEnd_63 (by decide) ?_
      obtain rfl := Option.some.inj h
      exact W.zret (v := 0) (ty := .boolean) hx hb hr (rfl) (fun t ht9 hW => ⟨⟨_, (), rfl, rfl, zend ht9 hP⟩, hS.F ht9⟩) hS.2.2 dX5_fitsEnd_64
    · have h := zt h c3
      refine lv_iload_n hx hb dX5_fitsEnd_48 rfl (lv_at hl 6 rfl) ?_
      refine lv_iload hx hb dX5_fitsEnd_49 (lv_at hl 1 rfl) ?_
      refine lv_iload hx hb dX5_fitsEnd_51 (lv_at hl 0 rfl) ?_
      obtain ⟨r5, h5, h⟩ := zb h
      refine zi (zrS (As := [.int a3, .int r2, .int r3]) (rest := []) ⟨hx, hb, hml, hown, ht⟩ (c_X5_within l D k   a3 r2 r3 h5 _) (va_cwS 3 ht (gdS wb268 wb269 wb72 wb270) rfl rfl rfl (by decide +kernel) ⟨Nat.le_of_ble_eq_true rfl, Nat.le_of_ble_eq_true rfl⟩) hK hP hD hS hA hm [] rfl rfl rfl hl.1 rfl (Nat.le_of_ble_eq_true rfl) dX5_fitsEnd_53 ⟨Nat.le_refl _, Nat.le_refl _⟩) hP hD hS hA [] rfl rfl (fun H locs hP hD hS => ?_)
      have hP : va_P D vwCl [(t, .inr (3, [.int tl, .int tw, .ref tc, .int ts])), (tc, .inl (k 0, tn, .inl tf))] H := hP
      have hD : va_D A [(t, .inr (3, [.int tl, .int tw, .ref tc, .int ts])), (tc, .inl (k 0, tn, .inl tf))] := hD
      refine lv_if_eq (tgt := 63) hx hb dX5_fitsEnd_56 (by decide) (fun c2 => ?_) (fun c2 => ?_)
      · have h := zt h c2
        refine lv_iconst (v := 0) hx hb dX5_fitsEnd_63 (by decide) ?_
        obtain rfl := Option.some.inj h
        exact W.zret (v := 0) (ty := .boolean) hx hb hr (rfl) (fun t ht9 hW => ⟨⟨_, (), rfl, rfl, zend ht9 hP⟩, hS.F ht9⟩) hS.2.2 dX5_fitsEnd_64
      · have h := zf h c2
        refine lv_iconst (v := 1) hx hb dX5_fitsEnd_59 (by decide) ?_
        refine lv_goto (tgt := 64) hx hb dX5_fitsEnd_60 (by decide) ?_
        obtain rfl := Option.some.inj h
        exact W.zret (v := 1) (ty := .boolean) hx hb hr (rfl) (fun t ht9 hW => ⟨⟨_, (), rfl, rfl, zend ht9 hP⟩, hS.F ht9⟩) hS.2.2 dX5_fitsEnd_64
def f_X5_fitsService (tw : Int32) (ts : Int32) (tn : Nat) (tf : Nat → Int32) (a1 : Int32) (a2 : Int32) (a3 : Int32) : Option (Bool) :=
  (f_X3_get tw ts tn tf a1 8).bind fun r1 => if r1 = 2 then ((f_X3_get tw ts tn tf a1 6).bind fun r2 => (f_X3_get tw ts tn tf a1 7).bind fun r3 => (f_X5_within  a2 r2 r3).bind fun r4 => if (zB r4) = 0 then (some (false)) else (some (true))) else (if r1 = a3 then ((f_X3_get tw ts tn tf a1 6).bind fun r5 => (f_X3_get tw ts tn tf a1 7).bind fun r6 => (f_X5_within  a2 r5 r6).bind fun r7 => if (zB r7) = 0 then (some (false)) else (some (true))) else (some (false)))
abbrev wk_X5_fitsService : List Cond := Cond.code yX5_fitsService cX5_fitsService 5 (some .boolean) :: WB
abbrev rm_X5_fitsService : Room := { frames := 2, cells := 0, slots := 0, locals := 44 }
set_option maxHeartbeats 4000000 in
set_option maxRecDepth 100000 in
theorem c_X5_fitsService (l : Launch) (D : va_G) (k : Nat → Nat) (t tc : Nat) (tl : Int32) (tw : Int32) (ts : Int32) (tn : Nat) (tf : Nat → Int32) (a1 : Int32) (a2 : Int32) (a3 : Int32) {res : Bool} (h : f_X5_fitsService tw ts tn tf a1 a2 a3 = some res) : Ci l yX5_fitsService wk_X5_fitsService rm_X5_fitsService D k [.ref t, .int a1, .int a2, .int a3] [(t, .inr (3, [.int tl, .int tw, .ref tc, .int ts])), (tc, .inl (k 0, tn, .inl tf))] [(t, .inr (3, [.int tl, .int tw, .ref tc, .int ts])), (tc, .inl (k 0, tn, .inl tf))] (zB res) := by
  unfold Ci
  intro sz
  refine Met.ofW (cc := cX5_fitsService) (maxL := 5) (ret := (some .boolean)) (by decide) rfl ?_
  intro p e s m args below meth c s₁ B hml hv
  obtain ⟨rfl, hsz, hP, hK, hD0, hm⟩ := hv
  have hx := B.exec
  have hb := B.bytes
  have hr := B.returns
  have ht : ∀ w ∈ WB, w.before _ s = true := fun w hw => atoms_spec (ws := wk_X5_fitsService) B.pre w (List.mem_cons_of_mem _ hw)
  have hown : s.vm.findClass RX5 = some m.cls := findClass_of_methodNamed B.named
  have hlocks := B.notSynchronized
  subst hsz
  have hD := hD0.self (sz := s.heap.size)
  generalize hAe : va_A [(t, .inr (3, [.int tl, .int tw, .ref tc, .int ts])), (tc, .inl (k 0, tn, .inl tf))] s.heap.size = A at hD hm ⊢
  have hA : ∀ q : Nat, s.heap.size ≤ q → A q := fun q h => by rw [← hAe]; exact Or.inr h
  have hS : va_S A s.heap s.heap [] := va_S.rf
  have hl := lv_entry ([.ref t, .int a1, .int a2, .int a3]) (n := 5) (Nat.le_of_ble_eq_true rfl)
  rw [lg_entry_eq]
  generalize (lg_sl ([.ref t, .int a1, .int a2, .int a3]) ++ List.replicate (5 - (lg_sl ([.ref t, .int a1, .int a2, .int a3])).length) Slot.unset).toArray = ls at hl ⊢
  have hl : lv_has ls 5 [(0, .ref t), (1, .int a1), (2, .int a2), (3, .int a3)] := hl
  obtain ⟨H, hH⟩ : ∃ H, H = s.heap := ⟨_, rfl⟩
  rw [← hH] at hP
  have hS : va_S A s.heap H [] := by rw [hH]; exact hS
  suffices hgo : W p l e _ s m _ below meth c H [] 0 0 _ _ by rw [hH] at hgo; exact hgo
  unfold f_X5_fitsService at h
  refine lv_aload_n hx hb dX5_fitsService_0 rfl (lv_at hl 0 rfl) ?_
  refine lv_iload_n hx hb dX5_fitsService_1 rfl (lv_at hl 1 rfl) ?_
  refine lv_bipush (v := 8) hx hb dX5_fitsService_2 (by decide) ?_
  obtain ⟨r1, h1, h⟩ := zb h
  refine zi (zrV (C := RX3) (T := TX3) (N := 4) (As := [.int a1, .int 8]) (rest := []) ⟨hx, hb, hml, hown, ht⟩ (c_X3_get l D k t tc tl tw ts tn tf a1 8 h1 _) (cwV 2 ht (gdV wb343 wb344 wb345 wb74 wb346) rfl rfl rfl (by decide +kernel) ⟨Nat.le_of_ble_eq_true rfl, Nat.le_of_ble_eq_true rfl⟩) hK hP hD hS hA hm [0, 1] rfl rfl 0 3 rfl rfl rfl hl.1 rfl (Nat.le_of_ble_eq_true rfl) dX5_fitsService_4 ⟨Nat.le_refl _, Nat.le_refl _⟩) hP hD hS hA [0, 1] rfl rfl (fun H locs hP hD hS => ?_)
  have hP : va_P D vwCl [(t, .inr (3, [.int tl, .int tw, .ref tc, .int ts])), (tc, .inl (k 0, tn, .inl tf))] H := hP
  have hD : va_D A [(t, .inr (3, [.int tl, .int tw, .ref tc, .int ts])), (tc, .inl (k 0, tn, .inl tf))] := hD
  refine lv_istore (lv' := [(4, .int r1), (0, .ref t), (1, .int a1), (2, .int a2), (3, .int a3)]) hx hb dX5_fitsService_7 hl (by decide) rfl (fun ls hl => ?_)
  refine lv_iload hx hb dX5_fitsService_9 (lv_at hl 0 rfl) ?_
  refine lv_iconst (v := 2) hx hb dX5_fitsService_11 (by decide) ?_
  refine lv_icmp_eq (tgt := 21) hx hb dX5_fitsService_12 (by decide) (fun c4 => ?_) (fun c4 => ?_)
  · have h := zt h c4
    refine lv_iload_n hx hb dX5_fitsService_21 rfl (lv_at hl 3 rfl) ?_
    refine lv_aload_n hx hb dX5_fitsService_22 rfl (lv_at hl 1 rfl) ?_
    refine lv_iload_n hx hb dX5_fitsService_23 rfl (lv_at hl 2 rfl) ?_
    refine lv_bipush (v := 6) hx hb dX5_fitsService_24 (by decide) ?_
    obtain ⟨r2, h2, h⟩ := zb h
    refine zi (zrV (C := RX3) (T := TX3) (N := 4) (As := [.int a1, .int 6]) (rest := [.int a2]) ⟨hx, hb, hml, hown, ht⟩ (c_X3_get l D k t tc tl tw ts tn tf a1 6 h2 _) (cwV 2 ht (gdV wb343 wb344 wb345 wb74 wb346) rfl rfl rfl (by decide +kernel) ⟨Nat.le_of_ble_eq_true rfl, Nat.le_of_ble_eq_true rfl⟩) hK hP hD hS hA hm [0, 1] rfl rfl 0 3 rfl rfl rfl hl.1 rfl (Nat.le_of_ble_eq_true rfl) dX5_fitsService_26 ⟨Nat.le_refl _, Nat.le_refl _⟩) hP hD hS hA [0, 1] rfl rfl (fun H locs hP hD hS => ?_)
    have hP : va_P D vwCl [(t, .inr (3, [.int tl, .int tw, .ref tc, .int ts])), (tc, .inl (k 0, tn, .inl tf))] H := hP
    have hD : va_D A [(t, .inr (3, [.int tl, .int tw, .ref tc, .int ts])), (tc, .inl (k 0, tn, .inl tf))] := hD
    refine lv_aload_n hx hb dX5_fitsService_29 rfl (lv_at hl 1 rfl) ?_
    refine lv_iload_n hx hb dX5_fitsService_30 rfl (lv_at hl 2 rfl) ?_
    refine lv_bipush (v := 7) hx hb dX5_fitsService_31 (by decide) ?_
    obtain ⟨r3, h3, h⟩ := zb h
    refine zi (zrV (C := RX3) (T := TX3) (N := 4) (As := [.int a1, .int 7]) (rest := [.int r2, .int a2]) ⟨hx, hb, hml, hown, ht⟩ (c_X3_get l D k t tc tl tw ts tn tf a1 7 h3 _) (cwV 2 ht (gdV wb343 wb344 wb345 wb74 wb346) rfl rfl rfl (by decide +kernel) ⟨Nat.le_of_ble_eq_true rfl, Nat.le_of_ble_eq_true rfl⟩) hK hP hD hS hA hm [0, 1] rfl rfl 0 3 rfl rfl rfl hl.1 rfl (Nat.le_of_ble_eq_true rfl) dX5_fitsService_33 ⟨Nat.le_refl _, Nat.le_refl _⟩) hP hD hS hA [0, 1] rfl rfl (fun H locs hP hD hS => ?_)
    have hP : va_P D vwCl [(t, .inr (3, [.int tl, .int tw, .ref tc, .int ts])), (tc, .inl (k 0, tn, .inl tf))] H := hP
    have hD : va_D A [(t, .inr (3, [.int tl, .int tw, .ref tc, .int ts])), (tc, .inl (k 0, tn, .inl tf))] := hD
    obtain ⟨r4, h4, h⟩ := zb h
    refine zi (zrS (As := [.int a2, .int r2, .int r3]) (rest := []) ⟨hx, hb, hml, hown, ht⟩ (c_X5_within l D k   a2 r2 r3 h4 _) (va_cwS 3 ht (gdS wb268 wb269 wb72 wb270) rfl rfl rfl (by decide +kernel) ⟨Nat.le_of_ble_eq_true rfl, Nat.le_of_ble_eq_true rfl⟩) hK hP hD hS hA hm [] rfl rfl rfl hl.1 rfl (Nat.le_of_ble_eq_true rfl) dX5_fitsService_36 ⟨Nat.le_refl _, Nat.le_refl _⟩) hP hD hS hA [] rfl rfl (fun H locs hP hD hS => ?_)
    have hP : va_P D vwCl [(t, .inr (3, [.int tl, .int tw, .ref tc, .int ts])), (tc, .inl (k 0, tn, .inl tf))] H := hP
    have hD : va_D A [(t, .inr (3, [.int tl, .int tw, .ref tc, .int ts])), (tc, .inl (k 0, tn, .inl tf))] := hD
    refine lv_if_eq (tgt := 46) hx hb dX5_fitsService_39 (by decide) (fun c1 => ?_) (fun c1 => ?_)
    · have h := zt h c1
      refine lv_iconst (v := 0) hx hb dX5_fitsService_46 (by decide) ?_
      obtain rfl := Option.some.inj h
      exact W.zret (v := 0) (ty := .boolean) hx hb hr (rfl) (fun t ht9 hW => ⟨⟨_, (), rfl, rfl, zend ht9 hP⟩, hS.F ht9⟩) hS.2.2 dX5_fitsService_47
    · have h := zf h c1
      refine lv_iconst (v := 1) hx hb dX5_fitsService_42 (by decide) ?_
      refine lv_goto (tgt := 47) hx hb dX5_fitsService_43 (by decide) ?_
      obtain rfl := Option.some.inj h
      exact W.zret (v := 1) (ty := .boolean) hx hb hr (rfl) (fun t ht9 hW => ⟨⟨_, (), rfl, rfl, zend ht9 hP⟩, hS.F ht9⟩) hS.2.2 dX5_fitsService_47
  · have h := zf h c4
    refine lv_iload hx hb dX5_fitsService_15 (lv_at hl 0 rfl) ?_
    refine lv_iload_n hx hb dX5_fitsService_17 rfl (lv_at hl 4 rfl) ?_
    refine lv_icmp_ne (tgt := 46) hx hb dX5_fitsService_18 (by decide) (fun c3 => ?_) (fun c3 => ?_)
    · have h := zf h c3
      refine lv_iconst (v := 0) hx hb dX5_fitsService_46 (by decide) ?_
      obtain rfl := Option.some.inj h
      exact W.zret (v := 0) (ty := .boolean) hx hb hr (rfl) (fun t ht9 hW => ⟨⟨_, (), rfl, rfl, zend ht9 hP⟩, hS.F ht9⟩) hS.2.2 dX5_fitsService_47
    · have h := zt h c3
      refine lv_iload_n hx hb dX5_fitsService_21 rfl (lv_at hl 3 rfl) ?_
      refine lv_aload_n hx hb dX5_fitsService_22 rfl (lv_at hl 1 rfl) ?_
      refine lv_iload_n hx hb dX5_fitsService_23 rfl (lv_at hl 2 rfl) ?_
      refine lv_bipush (v := 6) hx hb dX5_fitsService_24 (by decide) ?_
      obtain ⟨r5, h5, h⟩ := zb h
      refine zi (zrV (C := RX3) (T := TX3) (N := 4) (As := [.int a1, .int 6]) (rest := [.int a2]) ⟨hx, hb, hml, hown, ht⟩ (c_X3_get l D k t tc tl tw ts tn tf a1 6 h5 _) (cwV 2 ht (gdV wb343 wb344 wb345 wb74 wb346) rfl rfl rfl (by decide +kernel) ⟨Nat.le_of_ble_eq_true rfl, Nat.le_of_ble_eq_true rfl⟩) hK hP hD hS hA hm [0, 1] rfl rfl 0 3 rfl rfl rfl hl.1 rfl (Nat.le_of_ble_eq_true rfl) dX5_fitsService_26 ⟨Nat.le_refl _, Nat.le_refl _⟩) hP hD hS hA [0, 1] rfl rfl (fun H locs hP hD hS => ?_)
      have hP : va_P D vwCl [(t, .inr (3, [.int tl, .int tw, .ref tc, .int ts])), (tc, .inl (k 0, tn, .inl tf))] H := hP
      have hD : va_D A [(t, .inr (3, [.int tl, .int tw, .ref tc, .int ts])), (tc, .inl (k 0, tn, .inl tf))] := hD
      refine lv_aload_n hx hb dX5_fitsService_29 rfl (lv_at hl 1 rfl) ?_
      refine lv_iload_n hx hb dX5_fitsService_30 rfl (lv_at hl 2 rfl) ?_
      refine lv_bipush (v := 7) hx hb dX5_fitsService_31 (by decide) ?_
      obtain ⟨r6, h6, h⟩ := zb h
      refine zi (zrV (C := RX3) (T := TX3) (N := 4) (As := [.int a1, .int 7]) (rest := [.int r5, .int a2]) ⟨hx, hb, hml, hown, ht⟩ (c_X3_get l D k t tc tl tw ts tn tf a1 7 h6 _) (cwV 2 ht (gdV wb343 wb344 wb345 wb74 wb346) rfl rfl rfl (by decide +kernel) ⟨Nat.le_of_ble_eq_true rfl, Nat.le_of_ble_eq_true rfl⟩) hK hP hD hS hA hm [0, 1] rfl rfl 0 3 rfl rfl rfl hl.1 rfl (Nat.le_of_ble_eq_true rfl) dX5_fitsService_33 ⟨Nat.le_refl _, Nat.le_refl _⟩) hP hD hS hA [0, 1] rfl rfl (fun H locs hP hD hS => ?_)
      have hP : va_P D vwCl [(t, .inr (3, [.int tl, .int tw, .ref tc, .int ts])), (tc, .inl (k 0, tn, .inl tf))] H := hP
      have hD : va_D A [(t, .inr (3, [.int tl, .int tw, .ref tc, .int ts])), (tc, .inl (k 0, tn, .inl tf))] := hD
      obtain ⟨r7, h7, h⟩ := zb h
      refine zi (zrS (As := [.int a2, .int r5, .int r6]) (rest := []) ⟨hx, hb, hml, hown, ht⟩ (c_X5_within l D k   a2 r5 r6 h7 _) (va_cwS 3 ht (gdS wb268 wb269 wb72 wb270) rfl rfl rfl (by decide +kernel) ⟨Nat.le_of_ble_eq_true rfl, Nat.le_of_ble_eq_true rfl⟩) hK hP hD hS hA hm [] rfl rfl rfl hl.1 rfl (Nat.le_of_ble_eq_true rfl) dX5_fitsService_36 ⟨Nat.le_refl _, Nat.le_refl _⟩) hP hD hS hA [] rfl rfl (fun H locs hP hD hS => ?_)
      have hP : va_P D vwCl [(t, .inr (3, [.int tl, .int tw, .ref tc, .int ts])), (tc, .inl (k 0, tn, .inl tf))] H := hP
      have hD : va_D A [(t, .inr (3, [.int tl, .int tw, .ref tc, .int ts])), (tc, .inl (k 0, tn, .inl tf))] := hD
      refine lv_if_eq (tgt := 46) hx hb dX5_fitsService_39 (by decide) (fun c2 => ?_) (fun c2 => ?_)
      · have h := zt h c2
        refine lv_iconst (v := 0) hx hb dX5_fitsService_46 (by decide) ?_
        obtain rfl := Option.some.inj h
        exact W.zret (v := 0) (ty := .boolean) hx hb hr (rfl) (fun t ht9 hW => ⟨⟨_, (), rfl, rfl, zend ht9 hP⟩, hS.F ht9⟩) hS.2.2 dX5_fitsService_47
      · have h := zf h c2
        refine lv_iconst (v := 1) hx hb dX5_fitsService_42 (by decide) ?_
        refine lv_goto (tgt := 47) hx hb dX5_fitsService_43 (by decide) ?_
        obtain rfl := Option.some.inj h
        exact W.zret (v := 1) (ty := .boolean) hx hb hr (rfl) (fun t ht9 hW => ⟨⟨_, (), rfl, rfl, zend ht9 hP⟩, hS.F ht9⟩) hS.2.2 dX5_fitsService_47
def f_X5_insertAnyRule_L7 (fu : Nat) (K : Int32 → (Nat → Int32) → Option (Int32 × (Nat → Int32))) (v1 : Int32) (tw : Int32) (ts : Int32) (tn : Nat) : Nat → Int32 → (Nat → Int32) → Option (Int32 × (Nat → Int32))
  | 0, _, _ => none
  | n + 1, v3, tf =>
  if 11 ≤ v3 then (K v3 tf) else (if zok v3 11 then ((f_X3_put tw ts tn tf v1 v3 (sAny (Int32.toNatClampNeg v3))).bind fun r2 => f_X5_insertAnyRule_L7 fu K v1 tw ts tn n (v3 + 1) r2) else none)
def f_X5_insertAnyRule (fu : Nat) (tl : Int32) (tw : Int32) (ts : Int32) (tn : Nat) (tf : Nat → Int32) (a1 : Int32) (a2 : Int32) : Option (Int32 × (Nat → Int32)) :=
  (f_X3_insert tl tw ts tn tf a1).bind fun r1 => f_X5_insertAnyRule_L7 fu (fun (x1 : Int32) (x2 : Nat → Int32) => (f_X3_put tw r1.1 tn x2 a1 9 a2).bind fun r3 => some (r1.1, r3)) a1 tw r1.1 tn fu 0 r1.2
abbrev wk_X5_insertAnyRule : List Cond := Cond.code yX5_insertAnyRule cX5_insertAnyRule 4 none :: WB
abbrev rm_X5_insertAnyRule : Room := { frames := 2, cells := 0, slots := 0, locals := 69 }
set_option maxHeartbeats 4000000 in
set_option maxRecDepth 100000 in
theorem c_X5_insertAnyRule (l : Launch) (D : va_G) (k : Nat → Nat) (t tc : Nat) (tl : Int32) (tw : Int32) (ts : Int32) (tn : Nat) (tf : Nat → Int32) (a1 : Int32) (a2 : Int32) (fu : Nat) {res : Int32 × (Nat → Int32)} (h : f_X5_insertAnyRule fu tl tw ts tn tf a1 a2 = some res) : Cv l yX5_insertAnyRule wk_X5_insertAnyRule rm_X5_insertAnyRule D k [.ref t, .int a1, .int a2] [(t, .inr (3, [.int tl, .int tw, .ref tc, .int ts])), (tc, .inl (k 0, tn, .inl tf))] [(t, .inr (3, [.int tl, .int tw, .ref tc, .int res.1])), (tc, .inl (k 0, tn, .inl res.2))] := by
  unfold Cv
  intro sz
  refine Met.ofW (cc := cX5_insertAnyRule) (maxL := 4) (ret := none) (by decide) rfl ?_
  intro p e s m args below meth c s₁ B hml hv
  obtain ⟨rfl, hsz, hP, hK, hD0, hm⟩ := hv
  have hx := B.exec
  have hb := B.bytes
  have hr := B.returns
  have ht : ∀ w ∈ WB, w.before _ s = true := fun w hw => atoms_spec (ws := wk_X5_insertAnyRule) B.pre w (List.mem_cons_of_mem _ hw)
  have hown : s.vm.findClass RX5 = some m.cls := findClass_of_methodNamed B.named
  have hlocks := B.notSynchronized
  subst hsz
  have hD := hD0.self (sz := s.heap.size)
  generalize hAe : va_A [(t, .inr (3, [.int tl, .int tw, .ref tc, .int ts])), (tc, .inl (k 0, tn, .inl tf))] s.heap.size = A at hD hm ⊢
  have hA : ∀ q : Nat, s.heap.size ≤ q → A q := fun q h => by rw [← hAe]; exact Or.inr h
  have hS : va_S A s.heap s.heap [] := va_S.rf
  have hl := lv_entry ([.ref t, .int a1, .int a2]) (n := 4) (Nat.le_of_ble_eq_true rfl)
  rw [lg_entry_eq]
  generalize (lg_sl ([.ref t, .int a1, .int a2]) ++ List.replicate (4 - (lg_sl ([.ref t, .int a1, .int a2])).length) Slot.unset).toArray = ls at hl ⊢
  have hl : lv_has ls 4 [(0, .ref t), (1, .int a1), (2, .int a2)] := hl
  obtain ⟨H, hH⟩ : ∃ H, H = s.heap := ⟨_, rfl⟩
  rw [← hH] at hP
  have hS : va_S A s.heap H [] := by rw [hH]; exact hS
  suffices hgo : W p l e _ s m _ below meth c H [] 0 0 _ _ by rw [hH] at hgo; exact hgo
  unfold f_X5_insertAnyRule at h
  refine lv_aload_n hx hb dX5_insertAnyRule_0 rfl (lv_at hl 0 rfl) ?_
  refine lv_iload_n hx hb dX5_insertAnyRule_1 rfl (lv_at hl 1 rfl) ?_
  obtain ⟨r1, h1, h⟩ := zb h
  refine zv (zrV (C := RX3) (T := TX3) (N := 4) (As := [.int a1]) (rest := []) ⟨hx, hb, hml, hown, ht⟩ (c_X3_insert l D k t tc tl tw ts tn tf a1 h1 _) (cwV 1 ht (gdV wb315 wb316 wb317 wb74 wb318) rfl rfl rfl (by decide +kernel) ⟨Nat.le_of_ble_eq_true rfl, Nat.le_of_ble_eq_true rfl⟩) hK hP hD hS hA hm [0, 1] rfl rfl 0 3 rfl rfl rfl hl.1 rfl (Nat.le_of_ble_eq_true rfl) dX5_insertAnyRule_2 ⟨Nat.le_refl _, Nat.le_refl _⟩) hP hD hS hA [0, 1] rfl rfl (fun H locs hP hD hS => ?_)
  have hP : va_P D vwCl [(t, .inr (3, [.int tl, .int tw, .ref tc, .int r1.1])), (tc, .inl (k 0, tn, .inl r1.2))] H := hP
  have hD : va_D A [(t, .inr (3, [.int tl, .int tw, .ref tc, .int r1.1])), (tc, .inl (k 0, tn, .inl r1.2))] := hD
  refine lv_iconst (v := 0) hx hb dX5_insertAnyRule_5 (by decide) ?_
  refine lv_istore_n (lv' := [(3, .int 0), (0, .ref t), (1, .int a1), (2, .int a2)]) hx hb dX5_insertAnyRule_6 rfl hl (by decide) rfl (fun ls hl => ?_)
  have loop7 : ∀ (v1 : Int32) (v2 : Int32) (tl : Int32) (tw : Int32) (ts : Int32) (tn : Nat), ∀ (K : Int32 → (Nat → Int32) → Option (Int32 × (Nat → Int32))), (∀ (v3 : Int32) (tf : Nat → Int32), K v3 tf = some res → ∀ (H : Heap) (locs : List Loc), va_P D vwCl [(t, .inr (3, [.int tl, .int tw, .ref tc, .int ts])), (tc, .inl (k 0, tn, .inl tf))] H → va_D A [(t, .inr (3, [.int tl, .int tw, .ref tc, .int ts])), (tc, .inl (k 0, tn, .inl tf))] → va_S A s.heap H locs → ∀ ls : Array Slot, lv_has ls 4 [(0, .ref t), (1, .int v1), (2, .int v2), (3, .int v3)] → W p l e (headSpec wk_X5_insertAnyRule rm_X5_insertAnyRule).room s m ([.ref t, .int a1, .int a2] : List Value).toArray below meth c H locs 0 0 (MQ below (va_Qv (fun (_ : Unit) => True) (fun _ tq9 => va_P D vwCl [(t, .inr (3, [.int tl, .int tw, .ref tc, .int res.1])), (tc, .inl (k 0, tn, .inl res.2))] tq9.heap) A) ([.ref t, .int a1, .int a2] : List Value).toArray s 0 0 A) (F0 m 32 ls [])) → ∀ (n : Nat) (v3 : Int32) (tf : Nat → Int32), f_X5_insertAnyRule_L7 fu K v1 tw ts tn n v3 tf = some res → ∀ (H : Heap) (locs : List Loc), va_P D vwCl [(t, .inr (3, [.int tl, .int tw, .ref tc, .int ts])), (tc, .inl (k 0, tn, .inl tf))] H → va_D A [(t, .inr (3, [.int tl, .int tw, .ref tc, .int ts])), (tc, .inl (k 0, tn, .inl tf))] → va_S A s.heap H locs → ∀ ls : Array Slot, lv_has ls 4 [(0, .ref t), (1, .int v1), (2, .int v2), (3, .int v3)] → W p l e (headSpec wk_X5_insertAnyRule rm_X5_insertAnyRule).room s m ([.ref t, .int a1, .int a2] : List Value).toArray below meth c H locs 0 0 (MQ below (va_Qv (fun (_ : Unit) => True) (fun _ tq9 => va_P D vwCl [(t, .inr (3, [.int tl, .int tw, .ref tc, .int res.1])), (tc, .inl (k 0, tn, .inl res.2))] tq9.heap) A) ([.ref t, .int a1, .int a2] : List Value).toArray s 0 0 A) (F0 m 7 ls []) := by
    intro v1 v2 tl tw ts tn K hKK n
    induction n with
    | zero =>
      intro v3 tf h
      rw [f_X5_insertAnyRule_L7] at h
      cases h
    | succ n ih =>
      intro v3 tf h H locs hP hD hS ls hl
      rw [f_X5_insertAnyRule_L7] at h
      refine lv_iload_n hx hb dX5_insertAnyRule_7 rfl (lv_at hl 3 rfl) ?_
      refine va_gets hx hb hm.2.1.1 hS hown (ht _ wb320) (fun _ h9 => h9) dX5_insertAnyRule_8 ?_
      refine va_tlen (v := 11) hx hb hm.2.1.2 hS rfl dX5_insertAnyRule_11 ?_
      refine lv_icmp_ge (tgt := 32) hx hb dX5_insertAnyRule_12 (by decide) (fun c1 => ?_) (fun c1 => ?_)
      · have h := zt h c1
        exact hKK _ _ h _ _ hP hD hS _ (lv_sub hl [0, 1, 2, 3] rfl)
      · have h := zf h c1
        refine lv_aload_n hx hb dX5_insertAnyRule_15 rfl (lv_at hl 0 rfl) ?_
        refine lv_iload_n hx hb dX5_insertAnyRule_16 rfl (lv_at hl 1 rfl) ?_
        refine lv_iload_n hx hb dX5_insertAnyRule_17 rfl (lv_at hl 3 rfl) ?_
        refine va_gets hx hb hm.2.1.1 hS hown (ht _ wb320) (fun _ h9 => h9) dX5_insertAnyRule_18 ?_
        refine lv_iload_n hx hb dX5_insertAnyRule_21 rfl (lv_at hl 3 rfl) ?_
        obtain ⟨hi1, h⟩ := zg h
        refine va_ti hx hb hm.2.1.2 hS hi1 rfl dX5_insertAnyRule_22 ?_
        obtain ⟨r2, h2, h⟩ := zb h
        refine zv (zrV (C := RX3) (T := TX3) (N := 4) (As := [.int v1, .int v3, .int (sAny (Int32.toNatClampNeg v3))]) (rest := []) ⟨hx, hb, hml, hown, ht⟩ (c_X3_put l D k t tc tl tw ts tn tf v1 v3 (sAny (Int32.toNatClampNeg v3)) h2 _) (cwV 3 ht (gdV wb322 wb323 wb324 wb74 wb325) rfl rfl rfl (by decide +kernel) ⟨Nat.le_of_ble_eq_true rfl, Nat.le_of_ble_eq_true rfl⟩) hK hP hD hS hA hm [0, 1] rfl rfl 0 3 rfl rfl rfl hl.1 rfl (Nat.le_of_ble_eq_true rfl) dX5_insertAnyRule_23 ⟨Nat.le_refl _, Nat.le_refl _⟩) hP hD hS hA [0, 1] rfl rfl (fun H locs hP hD hS => ?_)
        have hP : va_P D vwCl [(t, .inr (3, [.int tl, .int tw, .ref tc, .int ts])), (tc, .inl (k 0, tn, .inl r2))] H := hP
        have hD : va_D A [(t, .inr (3, [.int tl, .int tw, .ref tc, .int ts])), (tc, .inl (k 0, tn, .inl r2))] := hD
        refine lv_iinc (v := v3 + 1) (lv' := [(3, .int (v3 + 1)), (0, .ref t), (1, .int v1), (2, .int v2)]) hx hb dX5_insertAnyRule_26 hl (k := 3) rfl rfl (by decide) rfl (fun ls hl => ?_)
        refine lv_goto (tgt := 7) hx hb dX5_insertAnyRule_29 (by decide) ?_
        exact ih _ _ h _ _ hP hD hS _ (lv_sub hl [1, 2, 3, 0] rfl)
  refine loop7 _ _ _ _ _ _ _ ?_ fu _ _ h _ _ hP hD hS _ (lv_sub hl [1, 2, 3, 0] rfl)
  intro x1 x2 h H locs hP hD hS ls hl
  try dsimp only at h
  have hP : va_P D vwCl [(t, .inr (3, [.int tl, .int tw, .ref tc, .int r1.1])), (tc, .inl (k 0, tn, .inl x2))] H := hP
  have hD : va_D A [(t, .inr (3, [.int tl, .int tw, .ref tc, .int r1.1])), (tc, .inl (k 0, tn, .inl x2))] := hD
  have hl : lv_has ls 4 [(0, .ref t), (1, .int a1), (2, .int a2), (3, .int x1)] := hl
  refine lv_aload_n hx hb dX5_insertAnyRule_32 rfl (lv_at hl 0 rfl) ?_
  refine lv_iload_n hx hb dX5_insertAnyRule_33 rfl (lv_at hl 1 rfl) ?_
  refine lv_bipush (v := 9) hx hb dX5_insertAnyRule_34 (by decide) ?_
  refine lv_iload_n hx hb dX5_insertAnyRule_36 rfl (lv_at hl 2 rfl) ?_
  obtain ⟨r3, h3, h⟩ := zb h
  refine zv (zrV (C := RX3) (T := TX3) (N := 4) (As := [.int a1, .int 9, .int a2]) (rest := []) ⟨hx, hb, hml, hown, ht⟩ (c_X3_put l D k t tc tl tw r1.1 tn x2 a1 9 a2 h3 _) (cwV 3 ht (gdV wb322 wb323 wb324 wb74 wb325) rfl rfl rfl (by decide +kernel) ⟨Nat.le_of_ble_eq_true rfl, Nat.le_of_ble_eq_true rfl⟩) hK hP hD hS hA hm [0, 1] rfl rfl 0 3 rfl rfl rfl hl.1 rfl (Nat.le_of_ble_eq_true rfl) dX5_insertAnyRule_37 ⟨Nat.le_refl _, Nat.le_refl _⟩) hP hD hS hA [0, 1] rfl rfl (fun H locs hP hD hS => ?_)
  have hP : va_P D vwCl [(t, .inr (3, [.int tl, .int tw, .ref tc, .int r1.1])), (tc, .inl (k 0, tn, .inl r3))] H := hP
  have hD : va_D A [(t, .inr (3, [.int tl, .int tw, .ref tc, .int r1.1])), (tc, .inl (k 0, tn, .inl r3))] := hD
  obtain rfl := Option.some.inj h
  exact W.vret hx hb hr (fun t ht9 hW => ⟨⟨(), rfl, trivial, zend ht9 hP⟩, hS.F ht9⟩) hS.2.2 dX5_insertAnyRule_40
def f_X5_copyRules_L7 (fu : Nat) (K : Int32 → (Nat → Int32) → Option (Int32 × (Nat → Int32))) (uw : Int32) (us : Int32) (un : Nat) : Nat → Int32 → (Nat → Int32) → Option (Int32 × (Nat → Int32))
  | 0, _, _ => none
  | n + 1, v2, uf =>
  (f_X3_size us ).bind fun r2 => if r2 ≤ v2 then (K v2 uf) else ((f_X3_put uw us un uf v2 10 0).bind fun r3 => f_X5_copyRules_L7 fu K uw us un n (v2 + 1) r3)
def f_X5_copyRules (fu : Nat) (ts : Int32) (tn : Nat) (tf : Nat → Int32) (uw : Int32) (us : Int32) (un : Nat) (uf : Nat → Int32)  : Option (Int32 × (Nat → Int32)) :=
  (f_X3_copyFrom us un uf ts tn tf ).bind fun r1 => f_X5_copyRules_L7 fu (fun (x1 : Int32) (x2 : Nat → Int32) => some (r1.1, x2)) uw r1.1 un fu 0 r1.2
abbrev wk_X5_copyRules : List Cond := Cond.code yX5_copyRules cX5_copyRules 3 none :: WB
abbrev rm_X5_copyRules : Room := { frames := 2, cells := 0, slots := 0, locals := 69 }
set_option maxHeartbeats 4000000 in
set_option maxRecDepth 100000 in
theorem c_X5_copyRules (l : Launch) (D : va_G) (k : Nat → Nat) (t tc u uc : Nat) (tl : Int32) (tw : Int32) (ts : Int32) (tn : Nat) (tf : Nat → Int32) (ul : Int32) (uw : Int32) (us : Int32) (un : Nat) (uf : Nat → Int32)  (fu : Nat) {res : Int32 × (Nat → Int32)} (h : f_X5_copyRules fu ts tn tf uw us un uf  = some res) : Cv l yX5_copyRules wk_X5_copyRules rm_X5_copyRules D k [.ref t, .ref u] [(t, .inr (3, [.int tl, .int tw, .ref tc, .int ts])), (tc, .inl (k 0, tn, .inl tf)), (u, .inr (3, [.int ul, .int uw, .ref uc, .int us])), (uc, .inl (k 0, un, .inl uf))] [(t, .inr (3, [.int tl, .int tw, .ref tc, .int ts])), (tc, .inl (k 0, tn, .inl tf)), (u, .inr (3, [.int ul, .int uw, .ref uc, .int res.1])), (uc, .inl (k 0, un, .inl res.2))] := by
  unfold Cv
  intro sz
  refine Met.ofW (cc := cX5_copyRules) (maxL := 3) (ret := none) (by decide) rfl ?_
  intro p e s m args below meth c s₁ B hml hv
  obtain ⟨rfl, hsz, hP, hK, hD0, hm⟩ := hv
  have hx := B.exec
  have hb := B.bytes
  have hr := B.returns
  have ht : ∀ w ∈ WB, w.before _ s = true := fun w hw => atoms_spec (ws := wk_X5_copyRules) B.pre w (List.mem_cons_of_mem _ hw)
  have hown : s.vm.findClass RX5 = some m.cls := findClass_of_methodNamed B.named
  have hlocks := B.notSynchronized
  subst hsz
  have hD := hD0.self (sz := s.heap.size)
  generalize hAe : va_A [(t, .inr (3, [.int tl, .int tw, .ref tc, .int ts])), (tc, .inl (k 0, tn, .inl tf)), (u, .inr (3, [.int ul, .int uw, .ref uc, .int us])), (uc, .inl (k 0, un, .inl uf))] s.heap.size = A at hD hm ⊢
  have hA : ∀ q : Nat, s.heap.size ≤ q → A q := fun q h => by rw [← hAe]; exact Or.inr h
  have hS : va_S A s.heap s.heap [] := va_S.rf
  have hl := lv_entry ([.ref t, .ref u]) (n := 3) (Nat.le_of_ble_eq_true rfl)
  rw [lg_entry_eq]
  generalize (lg_sl ([.ref t, .ref u]) ++ List.replicate (3 - (lg_sl ([.ref t, .ref u])).length) Slot.unset).toArray = ls at hl ⊢
  have hl : lv_has ls 3 [(0, .ref t), (1, .ref u)] := hl
  obtain ⟨H, hH⟩ : ∃ H, H = s.heap := ⟨_, rfl⟩
  rw [← hH] at hP
  have hS : va_S A s.heap H [] := by rw [hH]; exact hS
  suffices hgo : W p l e _ s m _ below meth c H [] 0 0 _ _ by rw [hH] at hgo; exact hgo
  unfold f_X5_copyRules at h
  refine lv_aload_n hx hb dX5_copyRules_0 rfl (lv_at hl 1 rfl) ?_
  refine lv_aload_n hx hb dX5_copyRules_1 rfl (lv_at hl 0 rfl) ?_
  obtain ⟨r1, h1, h⟩ := zb h
  refine zv (zrV (C := RX3) (T := TX3) (N := 4) (As := [.ref t]) (rest := []) ⟨hx, hb, hml, hown, ht⟩ (c_X3_copyFrom l D k u uc t tc ul uw us un uf tl tw ts tn tf  h1 _) (cwV 1 ht (gdV wb376 wb289 wb290 wb74 wb291) rfl rfl rfl (by decide +kernel) ⟨Nat.le_of_ble_eq_true rfl, Nat.le_of_ble_eq_true rfl⟩) hK hP hD hS hA hm [2, 3, 0, 1] rfl rfl 2 3 rfl rfl rfl hl.1 rfl (Nat.le_of_ble_eq_true rfl) dX5_copyRules_2 ⟨Nat.le_refl _, Nat.le_refl _⟩) hP hD hS hA [2, 3, 0, 1] rfl rfl (fun H locs hP hD hS => ?_)
  have hP : va_P D vwCl [(t, .inr (3, [.int tl, .int tw, .ref tc, .int ts])), (tc, .inl (k 0, tn, .inl tf)), (u, .inr (3, [.int ul, .int uw, .ref uc, .int r1.1])), (uc, .inl (k 0, un, .inl r1.2))] H := hP
  have hD : va_D A [(t, .inr (3, [.int tl, .int tw, .ref tc, .int ts])), (tc, .inl (k 0, tn, .inl tf)), (u, .inr (3, [.int ul, .int uw, .ref uc, .int r1.1])), (uc, .inl (k 0, un, .inl r1.2))] := hD
  refine lv_iconst (v := 0) hx hb dX5_copyRules_5 (by decide) ?_
  refine lv_istore_n (lv' := [(2, .int 0), (0, .ref t), (1, .ref u)]) hx hb dX5_copyRules_6 rfl hl (by decide) rfl (fun ls hl => ?_)
  have loop7 : ∀ (tl : Int32) (tw : Int32) (ts : Int32) (tn : Nat) (tf : Nat → Int32) (ul : Int32) (uw : Int32) (us : Int32) (un : Nat), ∀ (K : Int32 → (Nat → Int32) → Option (Int32 × (Nat → Int32))), (∀ (v2 : Int32) (uf : Nat → Int32), K v2 uf = some res → ∀ (H : Heap) (locs : List Loc), va_P D vwCl [(t, .inr (3, [.int tl, .int tw, .ref tc, .int ts])), (tc, .inl (k 0, tn, .inl tf)), (u, .inr (3, [.int ul, .int uw, .ref uc, .int us])), (uc, .inl (k 0, un, .inl uf))] H → va_D A [(t, .inr (3, [.int tl, .int tw, .ref tc, .int ts])), (tc, .inl (k 0, tn, .inl tf)), (u, .inr (3, [.int ul, .int uw, .ref uc, .int us])), (uc, .inl (k 0, un, .inl uf))] → va_S A s.heap H locs → ∀ ls : Array Slot, lv_has ls 3 [(0, .ref t), (1, .ref u), (2, .int v2)] → W p l e (headSpec wk_X5_copyRules rm_X5_copyRules).room s m ([.ref t, .ref u] : List Value).toArray below meth c H locs 0 0 (MQ below (va_Qv (fun (_ : Unit) => True) (fun _ tq9 => va_P D vwCl [(t, .inr (3, [.int tl, .int tw, .ref tc, .int ts])), (tc, .inl (k 0, tn, .inl tf)), (u, .inr (3, [.int ul, .int uw, .ref uc, .int res.1])), (uc, .inl (k 0, un, .inl res.2))] tq9.heap) A) ([.ref t, .ref u] : List Value).toArray s 0 0 A) (F0 m 29 ls [])) → ∀ (n : Nat) (v2 : Int32) (uf : Nat → Int32), f_X5_copyRules_L7 fu K uw us un n v2 uf = some res → ∀ (H : Heap) (locs : List Loc), va_P D vwCl [(t, .inr (3, [.int tl, .int tw, .ref tc, .int ts])), (tc, .inl (k 0, tn, .inl tf)), (u, .inr (3, [.int ul, .int uw, .ref uc, .int us])), (uc, .inl (k 0, un, .inl uf))] H → va_D A [(t, .inr (3, [.int tl, .int tw, .ref tc, .int ts])), (tc, .inl (k 0, tn, .inl tf)), (u, .inr (3, [.int ul, .int uw, .ref uc, .int us])), (uc, .inl (k 0, un, .inl uf))] → va_S A s.heap H locs → ∀ ls : Array Slot, lv_has ls 3 [(0, .ref t), (1, .ref u), (2, .int v2)] → W p l e (headSpec wk_X5_copyRules rm_X5_copyRules).room s m ([.ref t, .ref u] : List Value).toArray below meth c H locs 0 0 (MQ below (va_Qv (fun (_ : Unit) => True) (fun _ tq9 => va_P D vwCl [(t, .inr (3, [.int tl, .int tw, .ref tc, .int ts])), (tc, .inl (k 0, tn, .inl tf)), (u, .inr (3, [.int ul, .int uw, .ref uc, .int res.1])), (uc, .inl (k 0, un, .inl res.2))] tq9.heap) A) ([.ref t, .ref u] : List Value).toArray s 0 0 A) (F0 m 7 ls []) := by
    intro tl tw ts tn tf ul uw us un K hKK n
    induction n with
    | zero =>
      intro v2 uf h
      rw [f_X5_copyRules_L7] at h
      cases h
    | succ n ih =>
      intro v2 uf h H locs hP hD hS ls hl
      rw [f_X5_copyRules_L7] at h
      refine lv_iload_n hx hb dX5_copyRules_7 rfl (lv_at hl 2 rfl) ?_
      refine lv_aload_n hx hb dX5_copyRules_8 rfl (lv_at hl 1 rfl) ?_
      obtain ⟨r2, h2, h⟩ := zb h
      refine zi (zrV (C := RX3) (T := TX3) (N := 4) (As := []) (rest := [.int v2]) ⟨hx, hb, hml, hown, ht⟩ (c_X3_size l D k u uc ul uw us un uf  h2 _) (cwV 0 ht (gdV wb304 wb305 wb306 wb74 wb307) rfl rfl rfl (by decide +kernel) ⟨Nat.le_of_ble_eq_true rfl, Nat.le_of_ble_eq_true rfl⟩) hK hP hD hS hA hm [2, 3] rfl rfl 2 3 rfl rfl rfl hl.1 rfl (Nat.le_of_ble_eq_true rfl) dX5_copyRules_9 ⟨Nat.le_refl _, Nat.le_refl _⟩) hP hD hS hA [2, 3] rfl rfl (fun H locs hP hD hS => ?_)
      have hP : va_P D vwCl [(t, .inr (3, [.int tl, .int tw, .ref tc, .int ts])), (tc, .inl (k 0, tn, .inl tf)), (u, .inr (3, [.int ul, .int uw, .ref uc, .int us])), (uc, .inl (k 0, un, .inl uf))] H := hP
      have hD : va_D A [(t, .inr (3, [.int tl, .int tw, .ref tc, .int ts])), (tc, .inl (k 0, tn, .inl tf)), (u, .inr (3, [.int ul, .int uw, .ref uc, .int us])), (uc, .inl (k 0, un, .inl uf))] := hD
      refine lv_icmp_ge (tgt := 29) hx hb dX5_copyRules_12 (by decide) (fun c1 => ?_) (fun c1 => ?_)
      · have h := zt h c1
        exact hKK _ _ h _ _ hP hD hS _ (lv_sub hl [0, 1, 2] rfl)
      · have h := zf h c1
        refine lv_aload_n hx hb dX5_copyRules_15 rfl (lv_at hl 1 rfl) ?_
        refine lv_iload_n hx hb dX5_copyRules_16 rfl (lv_at hl 2 rfl) ?_
        refine lv_bipush (v := 10) hx hb dX5_copyRules_17 (by decide) ?_
        refine lv_iconst (v := 0) hx hb dX5_copyRules_19 (by decide) ?_
        obtain ⟨r3, h3, h⟩ := zb h
        refine zv (zrV (C := RX3) (T := TX3) (N := 4) (As := [.int v2, .int 10, .int 0]) (rest := []) ⟨hx, hb, hml, hown, ht⟩ (c_X3_put l D k u uc ul uw us un uf v2 10 0 h3 _) (cwV 3 ht (gdV wb322 wb323 wb324 wb74 wb325) rfl rfl rfl (by decide +kernel) ⟨Nat.le_of_ble_eq_true rfl, Nat.le_of_ble_eq_true rfl⟩) hK hP hD hS hA hm [2, 3] rfl rfl 2 3 rfl rfl rfl hl.1 rfl (Nat.le_of_ble_eq_true rfl) dX5_copyRules_20 ⟨Nat.le_refl _, Nat.le_refl _⟩) hP hD hS hA [2, 3] rfl rfl (fun H locs hP hD hS => ?_)
        have hP : va_P D vwCl [(t, .inr (3, [.int tl, .int tw, .ref tc, .int ts])), (tc, .inl (k 0, tn, .inl tf)), (u, .inr (3, [.int ul, .int uw, .ref uc, .int us])), (uc, .inl (k 0, un, .inl r3))] H := hP
        have hD : va_D A [(t, .inr (3, [.int tl, .int tw, .ref tc, .int ts])), (tc, .inl (k 0, tn, .inl tf)), (u, .inr (3, [.int ul, .int uw, .ref uc, .int us])), (uc, .inl (k 0, un, .inl r3))] := hD
        refine lv_iinc (v := v2 + 1) (lv' := [(2, .int (v2 + 1)), (0, .ref t), (1, .ref u)]) hx hb dX5_copyRules_23 hl (k := 2) rfl rfl (by decide) rfl (fun ls hl => ?_)
        refine lv_goto (tgt := 7) hx hb dX5_copyRules_26 (by decide) ?_
        exact ih _ _ h _ _ hP hD hS _ (lv_sub hl [1, 2, 0] rfl)
  refine loop7 _ _ _ _ _ _ _ _ _ _ ?_ fu _ _ h _ _ hP hD hS _ (lv_sub hl [1, 2, 0] rfl)
  intro x1 x2 h H locs hP hD hS ls hl
  try dsimp only at h
  have hP : va_P D vwCl [(t, .inr (3, [.int tl, .int tw, .ref tc, .int ts])), (tc, .inl (k 0, tn, .inl tf)), (u, .inr (3, [.int ul, .int uw, .ref uc, .int r1.1])), (uc, .inl (k 0, un, .inl x2))] H := hP
  have hD : va_D A [(t, .inr (3, [.int tl, .int tw, .ref tc, .int ts])), (tc, .inl (k 0, tn, .inl tf)), (u, .inr (3, [.int ul, .int uw, .ref uc, .int r1.1])), (uc, .inl (k 0, un, .inl x2))] := hD
  have hl : lv_has ls 3 [(0, .ref t), (1, .ref u), (2, .int x1)] := hl
  obtain rfl := Option.some.inj h
  exact W.vret hx hb hr (fun t ht9 hW => ⟨⟨(), rfl, trivial, zend ht9 hP⟩, hS.F ht9⟩) hS.2.2 dX5_copyRules_29
def f_X5_appendCase (tl : Int32) (tw : Int32) (ts : Int32) (tn : Nat) (tf : Nat → Int32) (a1 : Int32) (a2 : Int32) (a3 : Int32) (a4 : Int32) : Option (Int32 × (Nat → Int32)) :=
  (f_X3_size ts ).bind fun r1 => (f_X3_insert tl tw ts tn tf r1).bind fun r2 => (f_X3_put tw r2.1 tn r2.2 r1 0 a1).bind fun r3 => (f_X3_put tw r2.1 tn r3 r1 1 a2).bind fun r4 => (f_X3_put tw r2.1 tn r4 r1 2 a3).bind fun r5 => (f_X3_put tw r2.1 tn r5 r1 3 a4).bind fun r6 => some (r2.1, r6)
abbrev wk_X5_appendCase : List Cond := Cond.code yX5_appendCase cX5_appendCase 6 none :: WB
abbrev rm_X5_appendCase : Room := { frames := 2, cells := 0, slots := 0, locals := 69 }
set_option maxHeartbeats 4000000 in
set_option maxRecDepth 100000 in
theorem c_X5_appendCase (l : Launch) (D : va_G) (k : Nat → Nat) (t tc : Nat) (tl : Int32) (tw : Int32) (ts : Int32) (tn : Nat) (tf : Nat → Int32) (a1 : Int32) (a2 : Int32) (a3 : Int32) (a4 : Int32) {res : Int32 × (Nat → Int32)} (h : f_X5_appendCase tl tw ts tn tf a1 a2 a3 a4 = some res) : Cv l yX5_appendCase wk_X5_appendCase rm_X5_appendCase D k [.ref t, .int a1, .int a2, .int a3, .int a4] [(t, .inr (3, [.int tl, .int tw, .ref tc, .int ts])), (tc, .inl (k 0, tn, .inl tf))] [(t, .inr (3, [.int tl, .int tw, .ref tc, .int res.1])), (tc, .inl (k 0, tn, .inl res.2))] := by
  unfold Cv
  intro sz
  refine Met.ofW (cc := cX5_appendCase) (maxL := 6) (ret := none) (by decide) rfl ?_
  intro p e s m args below meth c s₁ B hml hv
  obtain ⟨rfl, hsz, hP, hK, hD0, hm⟩ := hv
  have hx := B.exec
  have hb := B.bytes
  have hr := B.returns
  have ht : ∀ w ∈ WB, w.before _ s = true := fun w hw => atoms_spec (ws := wk_X5_appendCase) B.pre w (List.mem_cons_of_mem _ hw)
  have hown : s.vm.findClass RX5 = some m.cls := findClass_of_methodNamed B.named
  have hlocks := B.notSynchronized
  subst hsz
  have hD := hD0.self (sz := s.heap.size)
  generalize hAe : va_A [(t, .inr (3, [.int tl, .int tw, .ref tc, .int ts])), (tc, .inl (k 0, tn, .inl tf))] s.heap.size = A at hD hm ⊢
  have hA : ∀ q : Nat, s.heap.size ≤ q → A q := fun q h => by rw [← hAe]; exact Or.inr h
  have hS : va_S A s.heap s.heap [] := va_S.rf
  have hl := lv_entry ([.ref t, .int a1, .int a2, .int a3, .int a4]) (n := 6) (Nat.le_of_ble_eq_true rfl)
  rw [lg_entry_eq]
  generalize (lg_sl ([.ref t, .int a1, .int a2, .int a3, .int a4]) ++ List.replicate (6 - (lg_sl ([.ref t, .int a1, .int a2, .int a3, .int a4])).length) Slot.unset).toArray = ls at hl ⊢
  have hl : lv_has ls 6 [(0, .ref t), (1, .int a1), (2, .int a2), (3, .int a3), (4, .int a4)] := hl
  obtain ⟨H, hH⟩ : ∃ H, H = s.heap := ⟨_, rfl⟩
  rw [← hH] at hP
  have hS : va_S A s.heap H [] := by rw [hH]; exact hS
  suffices hgo : W p l e _ s m _ below meth c H [] 0 0 _ _ by rw [hH] at hgo; exact hgo
  unfold f_X5_appendCase at h
  refine lv_aload_n hx hb dX5_appendCase_0 rfl (lv_at hl 0 rfl) ?_
  obtain ⟨r1, h1, h⟩ := zb h
  refine zi (zrV (C := RX3) (T := TX3) (N := 4) (As := []) (rest := []) ⟨hx, hb, hml, hown, ht⟩ (c_X3_size l D k t tc tl tw ts tn tf  h1 _) (cwV 0 ht (gdV wb304 wb305 wb306 wb74 wb307) rfl rfl rfl (by decide +kernel) ⟨Nat.le_of_ble_eq_true rfl, Nat.le_of_ble_eq_true rfl⟩) hK hP hD hS hA hm [0, 1] rfl rfl 0 3 rfl rfl rfl hl.1 rfl (Nat.le_of_ble_eq_true rfl) dX5_appendCase_1 ⟨Nat.le_refl _, Nat.le_refl _⟩) hP hD hS hA [0, 1] rfl rfl (fun H locs hP hD hS => ?_)
  have hP : va_P D vwCl [(t, .inr (3, [.int tl, .int tw, .ref tc, .int ts])), (tc, .inl (k 0, tn, .inl tf))] H := hP
  have hD : va_D A [(t, .inr (3, [.int tl, .int tw, .ref tc, .int ts])), (tc, .inl (k 0, tn, .inl tf))] := hD
  refine lv_istore (lv' := [(5, .int r1), (0, .ref t), (1, .int a1), (2, .int a2), (3, .int a3), (4, .int a4)]) hx hb dX5_appendCase_4 hl (by decide) rfl (fun ls hl => ?_)
  refine lv_aload_n hx hb dX5_appendCase_6 rfl (lv_at hl 1 rfl) ?_
  refine lv_iload hx hb dX5_appendCase_7 (lv_at hl 0 rfl) ?_
  obtain ⟨r2, h2, h⟩ := zb h
  refine zv (zrV (C := RX3) (T := TX3) (N := 4) (As := [.int r1]) (rest := []) ⟨hx, hb, hml, hown, ht⟩ (c_X3_insert l D k t tc tl tw ts tn tf r1 h2 _) (cwV 1 ht (gdV wb315 wb316 wb317 wb74 wb318) rfl rfl rfl (by decide +kernel) ⟨Nat.le_of_ble_eq_true rfl, Nat.le_of_ble_eq_true rfl⟩) hK hP hD hS hA hm [0, 1] rfl rfl 0 3 rfl rfl rfl hl.1 rfl (Nat.le_of_ble_eq_true rfl) dX5_appendCase_9 ⟨Nat.le_refl _, Nat.le_refl _⟩) hP hD hS hA [0, 1] rfl rfl (fun H locs hP hD hS => ?_)
  have hP : va_P D vwCl [(t, .inr (3, [.int tl, .int tw, .ref tc, .int r2.1])), (tc, .inl (k 0, tn, .inl r2.2))] H := hP
  have hD : va_D A [(t, .inr (3, [.int tl, .int tw, .ref tc, .int r2.1])), (tc, .inl (k 0, tn, .inl r2.2))] := hD
  refine lv_aload_n hx hb dX5_appendCase_12 rfl (lv_at hl 1 rfl) ?_
  refine lv_iload hx hb dX5_appendCase_13 (lv_at hl 0 rfl) ?_
  refine lv_iconst (v := 0) hx hb dX5_appendCase_15 (by decide) ?_
  refine lv_iload_n hx hb dX5_appendCase_16 rfl (lv_at hl 2 rfl) ?_
  obtain ⟨r3, h3, h⟩ := zb h
  refine zv (zrV (C := RX3) (T := TX3) (N := 4) (As := [.int r1, .int 0, .int a1]) (rest := []) ⟨hx, hb, hml, hown, ht⟩ (c_X3_put l D k t tc tl tw r2.1 tn r2.2 r1 0 a1 h3 _) (cwV 3 ht (gdV wb322 wb323 wb324 wb74 wb325) rfl rfl rfl (by decide +kernel) ⟨Nat.le_of_ble_eq_true rfl, Nat.le_of_ble_eq_true rfl⟩) hK hP hD hS hA hm [0, 1] rfl rfl 0 3 rfl rfl rfl hl.1 rfl (Nat.le_of_ble_eq_true rfl) dX5_appendCase_17 ⟨Nat.le_refl _, Nat.le_refl _⟩) hP hD hS hA [0, 1] rfl rfl (fun H locs hP hD hS => ?_)
  have hP : va_P D vwCl [(t, .inr (3, [.int tl, .int tw, .ref tc, .int r2.1])), (tc, .inl (k 0, tn, .inl r3))] H := hP
  have hD : va_D A [(t, .inr (3, [.int tl, .int tw, .ref tc, .int r2.1])), (tc, .inl (k 0, tn, .inl r3))] := hD
  refine lv_aload_n hx hb dX5_appendCase_20 rfl (lv_at hl 1 rfl) ?_
  refine lv_iload hx hb dX5_appendCase_21 (lv_at hl 0 rfl) ?_
  refine lv_iconst (v := 1) hx hb dX5_appendCase_23 (by decide) ?_
  refine lv_iload_n hx hb dX5_appendCase_24 rfl (lv_at hl 3 rfl) ?_
  obtain ⟨r4, h4, h⟩ := zb h
  refine zv (zrV (C := RX3) (T := TX3) (N := 4) (As := [.int r1, .int 1, .int a2]) (rest := []) ⟨hx, hb, hml, hown, ht⟩ (c_X3_put l D k t tc tl tw r2.1 tn r3 r1 1 a2 h4 _) (cwV 3 ht (gdV wb322 wb323 wb324 wb74 wb325) rfl rfl rfl (by decide +kernel) ⟨Nat.le_of_ble_eq_true rfl, Nat.le_of_ble_eq_true rfl⟩) hK hP hD hS hA hm [0, 1] rfl rfl 0 3 rfl rfl rfl hl.1 rfl (Nat.le_of_ble_eq_true rfl) dX5_appendCase_25 ⟨Nat.le_refl _, Nat.le_refl _⟩) hP hD hS hA [0, 1] rfl rfl (fun H locs hP hD hS => ?_)
  have hP : va_P D vwCl [(t, .inr (3, [.int tl, .int tw, .ref tc, .int r2.1])), (tc, .inl (k 0, tn, .inl r4))] H := hP
  have hD : va_D A [(t, .inr (3, [.int tl, .int tw, .ref tc, .int r2.1])), (tc, .inl (k 0, tn, .inl r4))] := hD
  refine lv_aload_n hx hb dX5_appendCase_28 rfl (lv_at hl 1 rfl) ?_
  refine lv_iload hx hb dX5_appendCase_29 (lv_at hl 0 rfl) ?_
  refine lv_iconst (v := 2) hx hb dX5_appendCase_31 (by decide) ?_
  refine lv_iload_n hx hb dX5_appendCase_32 rfl (lv_at hl 4 rfl) ?_
  obtain ⟨r5, h5, h⟩ := zb h
  refine zv (zrV (C := RX3) (T := TX3) (N := 4) (As := [.int r1, .int 2, .int a3]) (rest := []) ⟨hx, hb, hml, hown, ht⟩ (c_X3_put l D k t tc tl tw r2.1 tn r4 r1 2 a3 h5 _) (cwV 3 ht (gdV wb322 wb323 wb324 wb74 wb325) rfl rfl rfl (by decide +kernel) ⟨Nat.le_of_ble_eq_true rfl, Nat.le_of_ble_eq_true rfl⟩) hK hP hD hS hA hm [0, 1] rfl rfl 0 3 rfl rfl rfl hl.1 rfl (Nat.le_of_ble_eq_true rfl) dX5_appendCase_33 ⟨Nat.le_refl _, Nat.le_refl _⟩) hP hD hS hA [0, 1] rfl rfl (fun H locs hP hD hS => ?_)
  have hP : va_P D vwCl [(t, .inr (3, [.int tl, .int tw, .ref tc, .int r2.1])), (tc, .inl (k 0, tn, .inl r5))] H := hP
  have hD : va_D A [(t, .inr (3, [.int tl, .int tw, .ref tc, .int r2.1])), (tc, .inl (k 0, tn, .inl r5))] := hD
  refine lv_aload_n hx hb dX5_appendCase_36 rfl (lv_at hl 1 rfl) ?_
  refine lv_iload hx hb dX5_appendCase_37 (lv_at hl 0 rfl) ?_
  refine lv_iconst (v := 3) hx hb dX5_appendCase_39 (by decide) ?_
  refine lv_iload hx hb dX5_appendCase_40 (lv_at hl 5 rfl) ?_
  obtain ⟨r6, h6, h⟩ := zb h
  refine zv (zrV (C := RX3) (T := TX3) (N := 4) (As := [.int r1, .int 3, .int a4]) (rest := []) ⟨hx, hb, hml, hown, ht⟩ (c_X3_put l D k t tc tl tw r2.1 tn r5 r1 3 a4 h6 _) (cwV 3 ht (gdV wb322 wb323 wb324 wb74 wb325) rfl rfl rfl (by decide +kernel) ⟨Nat.le_of_ble_eq_true rfl, Nat.le_of_ble_eq_true rfl⟩) hK hP hD hS hA hm [0, 1] rfl rfl 0 3 rfl rfl rfl hl.1 rfl (Nat.le_of_ble_eq_true rfl) dX5_appendCase_42 ⟨Nat.le_refl _, Nat.le_refl _⟩) hP hD hS hA [0, 1] rfl rfl (fun H locs hP hD hS => ?_)
  have hP : va_P D vwCl [(t, .inr (3, [.int tl, .int tw, .ref tc, .int r2.1])), (tc, .inl (k 0, tn, .inl r6))] H := hP
  have hD : va_D A [(t, .inr (3, [.int tl, .int tw, .ref tc, .int r2.1])), (tc, .inl (k 0, tn, .inl r6))] := hD
  obtain rfl := Option.some.inj h
  exact W.vret hx hb hr (fun t ht9 hW => ⟨⟨(), rfl, trivial, zend ht9 hP⟩, hS.F ht9⟩) hS.2.2 dX5_appendCase_45
def f_X2_zoneAt (eszo : Nat → Int32) (a1 : Int32) : Option (Int32) :=
  (f_X5_within  a1 0 31).bind fun r1 => if (zB r1) = 0 then (some ((-1))) else (if zok a1 32 then (some (eszo (Int32.toNatClampNeg a1))) else none)
abbrev wk_X2_zoneAt : List Cond := Cond.code yX2_zoneAt cX2_zoneAt 2 (some .int) :: WB
abbrev rm_X2_zoneAt : Room := { frames := 1, cells := 0, slots := 0, locals := 22 }
set_option maxHeartbeats 4000000 in
set_option maxRecDepth 100000 in
theorem c_X2_zoneAt (l : Launch) (D : va_G) (k : Nat → Nat) (es esz esr esk esf esa esp est : Nat) (estm : Int32) (eszo : Nat → Int32) (a1 : Int32) {res : Int32} (h : f_X2_zoneAt eszo a1 = some res) : Ci l yX2_zoneAt wk_X2_zoneAt rm_X2_zoneAt D k [.ref es, .int a1] [(es, .inr (2, [.ref esz, .ref esr, .ref esk, .ref esf, .ref esa, .ref esp, .ref est, .int estm])), (esz, .inl (k 0, 32, .inl eszo))] [(es, .inr (2, [.ref esz, .ref esr, .ref esk, .ref esf, .ref esa, .ref esp, .ref est, .int estm])), (esz, .inl (k 0, 32, .inl eszo))] res := by
  unfold Ci
  intro sz
  refine Met.ofW (cc := cX2_zoneAt) (maxL := 2) (ret := (some .int)) (by decide) rfl ?_
  intro p e s m args below meth c s₁ B hml hv
  obtain ⟨rfl, hsz, hP, hK, hD0, hm⟩ := hv
  have hx := B.exec
  have hb := B.bytes
  have hr := B.returns
  have ht : ∀ w ∈ WB, w.before _ s = true := fun w hw => atoms_spec (ws := wk_X2_zoneAt) B.pre w (List.mem_cons_of_mem _ hw)
  have hown : s.vm.findClass RX2 = some m.cls := findClass_of_methodNamed B.named
  have hlocks := B.notSynchronized
  subst hsz
  have hD := hD0.self (sz := s.heap.size)
  generalize hAe : va_A [(es, .inr (2, [.ref esz, .ref esr, .ref esk, .ref esf, .ref esa, .ref esp, .ref est, .int estm])), (esz, .inl (k 0, 32, .inl eszo))] s.heap.size = A at hD hm ⊢
  have hA : ∀ q : Nat, s.heap.size ≤ q → A q := fun q h => by rw [← hAe]; exact Or.inr h
  have hS : va_S A s.heap s.heap [] := va_S.rf
  have hl := lv_entry ([.ref es, .int a1]) (n := 2) (Nat.le_of_ble_eq_true rfl)
  rw [lg_entry_eq]
  generalize (lg_sl ([.ref es, .int a1]) ++ List.replicate (2 - (lg_sl ([.ref es, .int a1])).length) Slot.unset).toArray = ls at hl ⊢
  have hl : lv_has ls 2 [(0, .ref es), (1, .int a1)] := hl
  obtain ⟨H, hH⟩ : ∃ H, H = s.heap := ⟨_, rfl⟩
  rw [← hH] at hP
  have hS : va_S A s.heap H [] := by rw [hH]; exact hS
  suffices hgo : W p l e _ s m _ below meth c H [] 0 0 _ _ by rw [hH] at hgo; exact hgo
  unfold f_X2_zoneAt at h
  refine lv_iload_n hx hb dX2_zoneAt_0 rfl (lv_at hl 1 rfl) ?_
  refine lv_iconst (v := 0) hx hb dX2_zoneAt_1 (by decide) ?_
  refine lv_bipush (v := 31) hx hb dX2_zoneAt_2 (by decide) ?_
  obtain ⟨r1, h1, h⟩ := zb h
  refine zi (zrN (As := [.int a1, .int 0, .int 31]) (rest := []) ⟨hx, hb, hml, hown, ht⟩ (c_X5_within l D k   a1 0 31 h1 _) ⟨va_cnB 3 ht (gdN wb270) rfl rfl rfl (hm.1 _ (List.mem_of_getElem? (i := 13) rfl)) (ht _ wb72) (by decide +kernel) ⟨Nat.le_of_ble_eq_true rfl, Nat.le_of_ble_eq_true rfl⟩, ht _ wb269, trivial⟩ hK hP hD hS hA hm [] rfl rfl rfl hl.1 rfl (Nat.le_of_ble_eq_true rfl) dX2_zoneAt_4 ⟨Nat.le_refl _, Nat.le_refl _⟩) hP hD hS hA [] rfl rfl (fun H locs hP hD hS => ?_)
  have hP : va_P D vwCl [(es, .inr (2, [.ref esz, .ref esr, .ref esk, .ref esf, .ref esa, .ref esp, .ref est, .int estm])), (esz, .inl (k 0, 32, .inl eszo))] H := hP
  have hD : va_D A [(es, .inr (2, [.ref esz, .ref esr, .ref esk, .ref esf, .ref esa, .ref esp, .ref est, .int estm])), (esz, .inl (k 0, 32, .inl eszo))] := hD
  refine lv_if_eq (tgt := 19) hx hb dX2_zoneAt_7 (by decide) (fun c1 => ?_) (fun c1 => ?_)
  · have h := zt h c1
    refine lv_iconst (v := (-1)) hx hb dX2_zoneAt_19 (by decide) ?_
    obtain rfl := Option.some.inj h
    exact W.iret (v := (-1)) hx hb hr (fun t ht9 hW => ⟨⟨_, (), rfl, rfl, zend ht9 hP⟩, hS.F ht9⟩) hS.2.2 dX2_zoneAt_20
  · have h := zf h c1
    refine lv_aload_n hx hb dX2_zoneAt_10 rfl (lv_at hl 0 rfl) ?_
    refine va_get (D := D) (ci := 2) (v := .ref esz) (C := RX2) (T := TX2) (N := 8) hx hb ht hiX2 hown hK hP 0 rfl rfl 0 (by decide) (ht _ wb128) (fun _ h9 => h9) rfl dX2_zoneAt_11 ?_
    refine lv_iload_n hx hb dX2_zoneAt_14 rfl (lv_at hl 1 rfl) ?_
    obtain ⟨hi1, h⟩ := zg h
    refine va_iald hx hb hK hP 1 0 rfl rfl hi1 dX2_zoneAt_15 ?_
    refine lv_goto (tgt := 20) hx hb dX2_zoneAt_16 (by decide) ?_
    obtain rfl := Option.some.inj h
    exact W.iret (v := eszo (Int32.toNatClampNeg a1)) hx hb hr (fun t ht9 hW => ⟨⟨_, (), rfl, rfl, zend ht9 hP⟩, hS.F ht9⟩) hS.2.2 dX2_zoneAt_20
def f_X2_ruleFor_L17 (fu : Nat) (K : Int32 → Option (Int32)) (v2 : Int32) (v3 : Int32) (v4 : Int32) (v5 : Int32) (v6 : Int32) (v7 : Int32) (tw : Int32) (ts : Int32) (tn : Nat) (tf : Nat → Int32) : Nat → Int32 → Option (Int32)
  | 0, _ => none
  | n + 1, v8 =>
  (f_X3_size ts ).bind fun r3 => if r3 ≤ v8 then (K v8) else ((f_X5_fitsEnd tw ts tn tf v8 0 v2 v6).bind fun r4 => if (zB r4) = 0 then (f_X2_ruleFor_L17 fu K v2 v3 v4 v5 v6 v7 tw ts tn tf n (v8 + 1)) else ((f_X5_fitsEnd tw ts tn tf v8 1 v3 v7).bind fun r5 => if (zB r5) = 0 then (f_X2_ruleFor_L17 fu K v2 v3 v4 v5 v6 v7 tw ts tn tf n (v8 + 1)) else ((f_X5_fitsService tw ts tn tf v8 v4 v5).bind fun r6 => if (zB r6) = 0 then (f_X2_ruleFor_L17 fu K v2 v3 v4 v5 v6 v7 tw ts tn tf n (v8 + 1)) else (some (v8)))))
def f_X2_ruleFor (fu : Nat) (eszo : Nat → Int32) (tw : Int32) (ts : Int32) (tn : Nat) (tf : Nat → Int32) (a1 : Int32) (a2 : Int32) (a3 : Int32) (a4 : Int32) : Option (Int32) :=
  (f_X2_zoneAt eszo a1).bind fun r1 => (f_X2_zoneAt eszo a2).bind fun r2 => f_X2_ruleFor_L17 fu (fun (x1 : Int32) => some ((-1))) a1 a2 a3 a4 r1 r2 tw ts tn tf fu 0
abbrev wk_X2_ruleFor : List Cond := Cond.code yX2_ruleFor cX2_ruleFor 9 (some .int) :: WB
abbrev rm_X2_ruleFor : Room := { frames := 3, cells := 0, slots := 0, locals := 71 }
set_option maxHeartbeats 4000000 in
set_option maxRecDepth 100000 in
theorem c_X2_ruleFor (l : Launch) (D : va_G) (k : Nat → Nat) (es esz esr esk esf esa esp est t tc : Nat) (estm : Int32) (eszo : Nat → Int32) (tl : Int32) (tw : Int32) (ts : Int32) (tn : Nat) (tf : Nat → Int32) (a1 : Int32) (a2 : Int32) (a3 : Int32) (a4 : Int32) (fu : Nat) {res : Int32} (h : f_X2_ruleFor fu eszo tw ts tn tf a1 a2 a3 a4 = some res) : Ci l yX2_ruleFor wk_X2_ruleFor rm_X2_ruleFor D k [.ref es, .ref t, .int a1, .int a2, .int a3, .int a4] [(es, .inr (2, [.ref esz, .ref esr, .ref esk, .ref esf, .ref esa, .ref esp, .ref est, .int estm])), (esz, .inl (k 0, 32, .inl eszo)), (t, .inr (3, [.int tl, .int tw, .ref tc, .int ts])), (tc, .inl (k 0, tn, .inl tf))] [(es, .inr (2, [.ref esz, .ref esr, .ref esk, .ref esf, .ref esa, .ref esp, .ref est, .int estm])), (esz, .inl (k 0, 32, .inl eszo)), (t, .inr (3, [.int tl, .int tw, .ref tc, .int ts])), (tc, .inl (k 0, tn, .inl tf))] res := by
  unfold Ci
  intro sz
  refine Met.ofW (cc := cX2_ruleFor) (maxL := 9) (ret := (some .int)) (by decide) rfl ?_
  intro p e s m args below meth c s₁ B hml hv
  obtain ⟨rfl, hsz, hP, hK, hD0, hm⟩ := hv
  have hx := B.exec
  have hb := B.bytes
  have hr := B.returns
  have ht : ∀ w ∈ WB, w.before _ s = true := fun w hw => atoms_spec (ws := wk_X2_ruleFor) B.pre w (List.mem_cons_of_mem _ hw)
  have hown : s.vm.findClass RX2 = some m.cls := findClass_of_methodNamed B.named
  have hlocks := B.notSynchronized
  subst hsz
  have hD := hD0.self (sz := s.heap.size)
  generalize hAe : va_A [(es, .inr (2, [.ref esz, .ref esr, .ref esk, .ref esf, .ref esa, .ref esp, .ref est, .int estm])), (esz, .inl (k 0, 32, .inl eszo)), (t, .inr (3, [.int tl, .int tw, .ref tc, .int ts])), (tc, .inl (k 0, tn, .inl tf))] s.heap.size = A at hD hm ⊢
  have hA : ∀ q : Nat, s.heap.size ≤ q → A q := fun q h => by rw [← hAe]; exact Or.inr h
  have hS : va_S A s.heap s.heap [] := va_S.rf
  have hl := lv_entry ([.ref es, .ref t, .int a1, .int a2, .int a3, .int a4]) (n := 9) (Nat.le_of_ble_eq_true rfl)
  rw [lg_entry_eq]
  generalize (lg_sl ([.ref es, .ref t, .int a1, .int a2, .int a3, .int a4]) ++ List.replicate (9 - (lg_sl ([.ref es, .ref t, .int a1, .int a2, .int a3, .int a4])).length) Slot.unset).toArray = ls at hl ⊢
  have hl : lv_has ls 9 [(0, .ref es), (1, .ref t), (2, .int a1), (3, .int a2), (4, .int a3), (5, .int a4)] := hl
  obtain ⟨H, hH⟩ : ∃ H, H = s.heap := ⟨_, rfl⟩
  rw [← hH] at hP
  have hS : va_S A s.heap H [] := by rw [hH]; exact hS
  suffices hgo : W p l e _ s m _ below meth c H [] 0 0 _ _ by rw [hH] at hgo; exact hgo
  unfold f_X2_ruleFor at h
  refine lv_aload_n hx hb dX2_ruleFor_0 rfl (lv_at hl 0 rfl) ?_
  refine lv_iload_n hx hb dX2_ruleFor_1 rfl (lv_at hl 2 rfl) ?_
  obtain ⟨r1, h1, h⟩ := zb h
  refine zi (zrV (C := RX2) (T := TX2) (N := 8) (As := [.int a1]) (rest := []) ⟨hx, hb, hml, hown, ht⟩ (c_X2_zoneAt l D k es esz esr esk esf esa esp est estm eszo a1 h1 _) (cwV 1 ht (gdV wb392 wb394 wb4 wb73 wb395) rfl rfl rfl (by decide +kernel) ⟨Nat.le_of_ble_eq_true rfl, Nat.le_of_ble_eq_true rfl⟩) hK hP hD hS hA hm [0, 1] rfl rfl 0 2 rfl rfl rfl hl.1 rfl (Nat.le_of_ble_eq_true rfl) dX2_ruleFor_2 ⟨Nat.le_refl _, Nat.le_refl _⟩) hP hD hS hA [0, 1] rfl rfl (fun H locs hP hD hS => ?_)
  have hP : va_P D vwCl [(es, .inr (2, [.ref esz, .ref esr, .ref esk, .ref esf, .ref esa, .ref esp, .ref est, .int estm])), (esz, .inl (k 0, 32, .inl eszo)), (t, .inr (3, [.int tl, .int tw, .ref tc, .int ts])), (tc, .inl (k 0, tn, .inl tf))] H := hP
  have hD : va_D A [(es, .inr (2, [.ref esz, .ref esr, .ref esk, .ref esf, .ref esa, .ref esp, .ref est, .int estm])), (esz, .inl (k 0, 32, .inl eszo)), (t, .inr (3, [.int tl, .int tw, .ref tc, .int ts])), (tc, .inl (k 0, tn, .inl tf))] := hD
  refine lv_istore (lv' := [(6, .int r1), (0, .ref es), (1, .ref t), (2, .int a1), (3, .int a2), (4, .int a3), (5, .int a4)]) hx hb dX2_ruleFor_5 hl (by decide) rfl (fun ls hl => ?_)
  refine lv_aload_n hx hb dX2_ruleFor_7 rfl (lv_at hl 1 rfl) ?_
  refine lv_iload_n hx hb dX2_ruleFor_8 rfl (lv_at hl 4 rfl) ?_
  obtain ⟨r2, h2, h⟩ := zb h
  refine zi (zrV (C := RX2) (T := TX2) (N := 8) (As := [.int a2]) (rest := []) ⟨hx, hb, hml, hown, ht⟩ (c_X2_zoneAt l D k es esz esr esk esf esa esp est estm eszo a2 h2 _) (cwV 1 ht (gdV wb392 wb394 wb4 wb73 wb395) rfl rfl rfl (by decide +kernel) ⟨Nat.le_of_ble_eq_true rfl, Nat.le_of_ble_eq_true rfl⟩) hK hP hD hS hA hm [0, 1] rfl rfl 0 2 rfl rfl rfl hl.1 rfl (Nat.le_of_ble_eq_true rfl) dX2_ruleFor_9 ⟨Nat.le_refl _, Nat.le_refl _⟩) hP hD hS hA [0, 1] rfl rfl (fun H locs hP hD hS => ?_)
  have hP : va_P D vwCl [(es, .inr (2, [.ref esz, .ref esr, .ref esk, .ref esf, .ref esa, .ref esp, .ref est, .int estm])), (esz, .inl (k 0, 32, .inl eszo)), (t, .inr (3, [.int tl, .int tw, .ref tc, .int ts])), (tc, .inl (k 0, tn, .inl tf))] H := hP
  have hD : va_D A [(es, .inr (2, [.ref esz, .ref esr, .ref esk, .ref esf, .ref esa, .ref esp, .ref est, .int estm])), (esz, .inl (k 0, 32, .inl eszo)), (t, .inr (3, [.int tl, .int tw, .ref tc, .int ts])), (tc, .inl (k 0, tn, .inl tf))] := hD
  refine lv_istore (lv' := [(7, .int r2), (6, .int r1), (0, .ref es), (1, .ref t), (2, .int a1), (3, .int a2), (4, .int a3), (5, .int a4)]) hx hb dX2_ruleFor_12 hl (by decide) rfl (fun ls hl => ?_)
  refine lv_iconst (v := 0) hx hb dX2_ruleFor_14 (by decide) ?_
  refine lv_istore (lv' := [(8, .int 0), (7, .int r2), (6, .int r1), (0, .ref es), (1, .ref t), (2, .int a1), (3, .int a2), (4, .int a3), (5, .int a4)]) hx hb dX2_ruleFor_15 hl (by decide) rfl (fun ls hl => ?_)
  have loop17 : ∀ (v2 : Int32) (v3 : Int32) (v4 : Int32) (v5 : Int32) (v6 : Int32) (v7 : Int32) (estm : Int32) (eszo : Nat → Int32) (tl : Int32) (tw : Int32) (ts : Int32) (tn : Nat) (tf : Nat → Int32), ∀ (K : Int32 → Option (Int32)), (∀ (v8 : Int32), K v8 = some res → ∀ (H : Heap) (locs : List Loc), va_P D vwCl [(es, .inr (2, [.ref esz, .ref esr, .ref esk, .ref esf, .ref esa, .ref esp, .ref est, .int estm])), (esz, .inl (k 0, 32, .inl eszo)), (t, .inr (3, [.int tl, .int tw, .ref tc, .int ts])), (tc, .inl (k 0, tn, .inl tf))] H → va_D A [(es, .inr (2, [.ref esz, .ref esr, .ref esk, .ref esf, .ref esa, .ref esp, .ref est, .int estm])), (esz, .inl (k 0, 32, .inl eszo)), (t, .inr (3, [.int tl, .int tw, .ref tc, .int ts])), (tc, .inl (k 0, tn, .inl tf))] → va_S A s.heap H locs → ∀ ls : Array Slot, lv_has ls 9 [(0, .ref es), (1, .ref t), (2, .int v2), (3, .int v3), (4, .int v4), (5, .int v5), (6, .int v6), (7, .int v7), (8, .int v8)] → W p l e (headSpec wk_X2_ruleFor rm_X2_ruleFor).room s m ([.ref es, .ref t, .int a1, .int a2, .int a3, .int a4] : List Value).toArray below meth c H locs 0 0 (MQ below (va_Qi (fun xq9 (_ : Unit) => xq9 = res) (fun _ tq9 => va_P D vwCl [(es, .inr (2, [.ref esz, .ref esr, .ref esk, .ref esf, .ref esa, .ref esp, .ref est, .int estm])), (esz, .inl (k 0, 32, .inl eszo)), (t, .inr (3, [.int tl, .int tw, .ref tc, .int ts])), (tc, .inl (k 0, tn, .inl tf))] tq9.heap) A) ([.ref es, .ref t, .int a1, .int a2, .int a3, .int a4] : List Value).toArray s 0 0 A) (F0 m 74 ls [])) → ∀ (n : Nat) (v8 : Int32), f_X2_ruleFor_L17 fu K v2 v3 v4 v5 v6 v7 tw ts tn tf n v8 = some res → ∀ (H : Heap) (locs : List Loc), va_P D vwCl [(es, .inr (2, [.ref esz, .ref esr, .ref esk, .ref esf, .ref esa, .ref esp, .ref est, .int estm])), (esz, .inl (k 0, 32, .inl eszo)), (t, .inr (3, [.int tl, .int tw, .ref tc, .int ts])), (tc, .inl (k 0, tn, .inl tf))] H → va_D A [(es, .inr (2, [.ref esz, .ref esr, .ref esk, .ref esf, .ref esa, .ref esp, .ref est, .int estm])), (esz, .inl (k 0, 32, .inl eszo)), (t, .inr (3, [.int tl, .int tw, .ref tc, .int ts])), (tc, .inl (k 0, tn, .inl tf))] → va_S A s.heap H locs → ∀ ls : Array Slot, lv_has ls 9 [(0, .ref es), (1, .ref t), (2, .int v2), (3, .int v3), (4, .int v4), (5, .int v5), (6, .int v6), (7, .int v7), (8, .int v8)] → W p l e (headSpec wk_X2_ruleFor rm_X2_ruleFor).room s m ([.ref es, .ref t, .int a1, .int a2, .int a3, .int a4] : List Value).toArray below meth c H locs 0 0 (MQ below (va_Qi (fun xq9 (_ : Unit) => xq9 = res) (fun _ tq9 => va_P D vwCl [(es, .inr (2, [.ref esz, .ref esr, .ref esk, .ref esf, .ref esa, .ref esp, .ref est, .int estm])), (esz, .inl (k 0, 32, .inl eszo)), (t, .inr (3, [.int tl, .int tw, .ref tc, .int ts])), (tc, .inl (k 0, tn, .inl tf))] tq9.heap) A) ([.ref es, .ref t, .int a1, .int a2, .int a3, .int a4] : List Value).toArray s 0 0 A) (F0 m 17 ls []) := by
    intro v2 v3 v4 v5 v6 v7 estm eszo tl tw ts tn tf K hKK n
    induction n with
    | zero =>
      intro v8 h
      rw [f_X2_ruleFor_L17] at h
      cases h
    | succ n ih =>
      intro v8 h H locs hP hD hS ls hl
      rw [f_X2_ruleFor_L17] at h
      refine lv_iload hx hb dX2_ruleFor_17 (lv_at hl 8 rfl) ?_
      refine lv_aload_n hx hb dX2_ruleFor_19 rfl (lv_at hl 1 rfl) ?_
      obtain ⟨r3, h3, h⟩ := zb h
      refine zi (zrV (C := RX3) (T := TX3) (N := 4) (As := []) (rest := [.int v8]) ⟨hx, hb, hml, hown, ht⟩ (c_X3_size l D k t tc tl tw ts tn tf  h3 _) (cwV 0 ht (gdV wb397 wb305 wb306 wb74 wb307) rfl rfl rfl (by decide +kernel) ⟨Nat.le_of_ble_eq_true rfl, Nat.le_of_ble_eq_true rfl⟩) hK hP hD hS hA hm [2, 3] rfl rfl 2 3 rfl rfl rfl hl.1 rfl (Nat.le_of_ble_eq_true rfl) dX2_ruleFor_20 ⟨Nat.le_refl _, Nat.le_refl _⟩) hP hD hS hA [2, 3] rfl rfl (fun H locs hP hD hS => ?_)
      have hP : va_P D vwCl [(es, .inr (2, [.ref esz, .ref esr, .ref esk, .ref esf, .ref esa, .ref esp, .ref est, .int estm])), (esz, .inl (k 0, 32, .inl eszo)), (t, .inr (3, [.int tl, .int tw, .ref tc, .int ts])), (tc, .inl (k 0, tn, .inl tf))] H := hP
      have hD : va_D A [(es, .inr (2, [.ref esz, .ref esr, .ref esk, .ref esf, .ref esa, .ref esp, .ref est, .int estm])), (esz, .inl (k 0, 32, .inl eszo)), (t, .inr (3, [.int tl, .int tw, .ref tc, .int ts])), (tc, .inl (k 0, tn, .inl tf))] := hD
      refine lv_icmp_ge (tgt := 74) hx hb dX2_ruleFor_23 (by decide) (fun c4 => ?_) (fun c4 => ?_)
      · have h := zt h c4
        exact hKK _ h _ _ hP hD hS _ (lv_sub hl [0, 1, 2, 3, 4, 5, 6, 7, 8] rfl)
      · have h := zf h c4
        refine lv_aload_n hx hb dX2_ruleFor_26 rfl (lv_at hl 1 rfl) ?_
        refine lv_iload hx hb dX2_ruleFor_27 (lv_at hl 8 rfl) ?_
        refine lv_iconst (v := 0) hx hb dX2_ruleFor_29 (by decide) ?_
        refine lv_iload_n hx hb dX2_ruleFor_30 rfl (lv_at hl 2 rfl) ?_
        refine lv_iload hx hb dX2_ruleFor_31 (lv_at hl 6 rfl) ?_
        obtain ⟨r4, h4, h⟩ := zb h
        refine zi (zrN (As := [.ref t, .int v8, .int 0, .int v2, .int v6]) (rest := []) ⟨hx, hb, hml, hown, ht⟩ (c_X5_fitsEnd l D k t tc tl tw ts tn tf v8 0 v2 v6 h4 _) ⟨va_cnB 5 ht (gdN wb400) rfl rfl rfl (hm.1 _ (List.mem_of_getElem? (i := 14) rfl)) (ht _ wb72) (by decide +kernel) ⟨Nat.le_of_ble_eq_true rfl, Nat.le_of_ble_eq_true rfl⟩, ht _ wb399, trivial⟩ hK hP hD hS hA hm [2, 3] rfl rfl rfl hl.1 rfl (Nat.le_of_ble_eq_true rfl) dX2_ruleFor_33 ⟨Nat.le_refl _, Nat.le_refl _⟩) hP hD hS hA [2, 3] rfl rfl (fun H locs hP hD hS => ?_)
        have hP : va_P D vwCl [(es, .inr (2, [.ref esz, .ref esr, .ref esk, .ref esf, .ref esa, .ref esp, .ref est, .int estm])), (esz, .inl (k 0, 32, .inl eszo)), (t, .inr (3, [.int tl, .int tw, .ref tc, .int ts])), (tc, .inl (k 0, tn, .inl tf))] H := hP
        have hD : va_D A [(es, .inr (2, [.ref esz, .ref esr, .ref esk, .ref esf, .ref esa, .ref esp, .ref est, .int estm])), (esz, .inl (k 0, 32, .inl eszo)), (t, .inr (3, [.int tl, .int tw, .ref tc, .int ts])), (tc, .inl (k 0, tn, .inl tf))] := hD
        refine lv_if_eq (tgt := 68) hx hb dX2_ruleFor_36 (by decide) (fun c3 => ?_) (fun c3 => ?_)
        · have h := zt h c3
          refine lv_iinc (v := v8 + 1) (lv' := [(8, .int (v8 + 1)), (0, .ref es), (1, .ref t), (2, .int v2), (3, .int v3), (4, .int v4), (5, .int v5), (6, .int v6), (7, .int v7)]) hx hb dX2_ruleFor_68 hl (k := 8) rfl rfl (by decide) rfl (fun ls hl => ?_)
          refine lv_goto (tgt := 17) hx hb dX2_ruleFor_71 (by decide) ?_
          exact ih _ h _ _ hP hD hS _ (lv_sub hl [1, 2, 3, 4, 5, 6, 7, 8, 0] rfl)
        · have h := zf h c3
          refine lv_aload_n hx hb dX2_ruleFor_39 rfl (lv_at hl 1 rfl) ?_
          refine lv_iload hx hb dX2_ruleFor_40 (lv_at hl 8 rfl) ?_
          refine lv_iconst (v := 1) hx hb dX2_ruleFor_42 (by decide) ?_
          refine lv_iload_n hx hb dX2_ruleFor_43 rfl (lv_at hl 3 rfl) ?_
          refine lv_iload hx hb dX2_ruleFor_44 (lv_at hl 7 rfl) ?_
          obtain ⟨r5, h5, h⟩ := zb h
          refine zi (zrN (As := [.ref t, .int v8, .int 1, .int v3, .int v7]) (rest := []) ⟨hx, hb, hml, hown, ht⟩ (c_X5_fitsEnd l D k t tc tl tw ts tn tf v8 1 v3 v7 h5 _) ⟨va_cnB 5 ht (gdN wb400) rfl rfl rfl (hm.1 _ (List.mem_of_getElem? (i := 14) rfl)) (ht _ wb72) (by decide +kernel) ⟨Nat.le_of_ble_eq_true rfl, Nat.le_of_ble_eq_true rfl⟩, ht _ wb399, trivial⟩ hK hP hD hS hA hm [2, 3] rfl rfl rfl hl.1 rfl (Nat.le_of_ble_eq_true rfl) dX2_ruleFor_46 ⟨Nat.le_refl _, Nat.le_refl _⟩) hP hD hS hA [2, 3] rfl rfl (fun H locs hP hD hS => ?_)
          have hP : va_P D vwCl [(es, .inr (2, [.ref esz, .ref esr, .ref esk, .ref esf, .ref esa, .ref esp, .ref est, .int estm])), (esz, .inl (k 0, 32, .inl eszo)), (t, .inr (3, [.int tl, .int tw, .ref tc, .int ts])), (tc, .inl (k 0, tn, .inl tf))] H := hP
          have hD : va_D A [(es, .inr (2, [.ref esz, .ref esr, .ref esk, .ref esf, .ref esa, .ref esp, .ref est, .int estm])), (esz, .inl (k 0, 32, .inl eszo)), (t, .inr (3, [.int tl, .int tw, .ref tc, .int ts])), (tc, .inl (k 0, tn, .inl tf))] := hD
          refine lv_if_eq (tgt := 68) hx hb dX2_ruleFor_49 (by decide) (fun c2 => ?_) (fun c2 => ?_)
          · have h := zt h c2
            refine lv_iinc (v := v8 + 1) (lv' := [(8, .int (v8 + 1)), (0, .ref es), (1, .ref t), (2, .int v2), (3, .int v3), (4, .int v4), (5, .int v5), (6, .int v6), (7, .int v7)]) hx hb dX2_ruleFor_68 hl (k := 8) rfl rfl (by decide) rfl (fun ls hl => ?_)
            refine lv_goto (tgt := 17) hx hb dX2_ruleFor_71 (by decide) ?_
            exact ih _ h _ _ hP hD hS _ (lv_sub hl [1, 2, 3, 4, 5, 6, 7, 8, 0] rfl)
          · have h := zf h c2
            refine lv_aload_n hx hb dX2_ruleFor_52 rfl (lv_at hl 1 rfl) ?_
            refine lv_iload hx hb dX2_ruleFor_53 (lv_at hl 8 rfl) ?_
            refine lv_iload hx hb dX2_ruleFor_55 (lv_at hl 4 rfl) ?_
            refine lv_iload hx hb dX2_ruleFor_57 (lv_at hl 5 rfl) ?_
            obtain ⟨r6, h6, h⟩ := zb h
            refine zi (zrN (As := [.ref t, .int v8, .int v4, .int v5]) (rest := []) ⟨hx, hb, hml, hown, ht⟩ (c_X5_fitsService l D k t tc tl tw ts tn tf v8 v4 v5 h6 _) ⟨va_cnB 4 ht (gdN wb403) rfl rfl rfl (hm.1 _ (List.mem_of_getElem? (i := 15) rfl)) (ht _ wb72) (by decide +kernel) ⟨Nat.le_of_ble_eq_true rfl, Nat.le_of_ble_eq_true rfl⟩, ht _ wb402, trivial⟩ hK hP hD hS hA hm [2, 3] rfl rfl rfl hl.1 rfl (Nat.le_of_ble_eq_true rfl) dX2_ruleFor_59 ⟨Nat.le_refl _, Nat.le_refl _⟩) hP hD hS hA [2, 3] rfl rfl (fun H locs hP hD hS => ?_)
            have hP : va_P D vwCl [(es, .inr (2, [.ref esz, .ref esr, .ref esk, .ref esf, .ref esa, .ref esp, .ref est, .int estm])), (esz, .inl (k 0, 32, .inl eszo)), (t, .inr (3, [.int tl, .int tw, .ref tc, .int ts])), (tc, .inl (k 0, tn, .inl tf))] H := hP
            have hD : va_D A [(es, .inr (2, [.ref esz, .ref esr, .ref esk, .ref esf, .ref esa, .ref esp, .ref est, .int estm])), (esz, .inl (k 0, 32, .inl eszo)), (t, .inr (3, [.int tl, .int tw, .ref tc, .int ts])), (tc, .inl (k 0, tn, .inl tf))] := hD
            refine lv_if_eq (tgt := 68) hx hb dX2_ruleFor_62 (by decide) (fun c1 => ?_) (fun c1 => ?_)
            · have h := zt h c1
              refine lv_iinc (v := v8 + 1) (lv' := [(8, .int (v8 + 1)), (0, .ref es), (1, .ref t), (2, .int v2), (3, .int v3), (4, .int v4), (5, .int v5), (6, .int v6), (7, .int v7)]) hx hb dX2_ruleFor_68 hl (k := 8) rfl rfl (by decide) rfl (fun ls hl => ?_)
              refine lv_goto (tgt := 17) hx hb dX2_ruleFor_71 (by decide) ?_
              exact ih _ h _ _ hP hD hS _ (lv_sub hl [1, 2, 3, 4, 5, 6, 7, 8, 0] rfl)
            · have h := zf h c1
              refine lv_iload hx hb dX2_ruleFor_65 (lv_at hl 8 rfl) ?_
              obtain rfl := Option.some.inj h
              exact W.iret (v := v8) hx hb hr (fun t ht9 hW => ⟨⟨_, (), rfl, rfl, zend ht9 hP⟩, hS.F ht9⟩) hS.2.2 dX2_ruleFor_67
  refine loop17 _ _ _ _ _ _ _ _ _ _ _ _ _ _ ?_ fu _ h _ _ hP hD hS _ (lv_sub hl [3, 4, 5, 6, 7, 8, 2, 1, 0] rfl)
  intro x1 h H locs hP hD hS ls hl
  try dsimp only at h
  have hP : va_P D vwCl [(es, .inr (2, [.ref esz, .ref esr, .ref esk, .ref esf, .ref esa, .ref esp, .ref est, .int estm])), (esz, .inl (k 0, 32, .inl eszo)), (t, .inr (3, [.int tl, .int tw, .ref tc, .int ts])), (tc, .inl (k 0, tn, .inl tf))] H := hP
  have hD : va_D A [(es, .inr (2, [.ref esz, .ref esr, .ref esk, .ref esf, .ref esa, .ref esp, .ref est, .int estm])), (esz, .inl (k 0, 32, .inl eszo)), (t, .inr (3, [.int tl, .int tw, .ref tc, .int ts])), (tc, .inl (k 0, tn, .inl tf))] := hD
  have hl : lv_has ls 9 [(0, .ref es), (1, .ref t), (2, .int a1), (3, .int a2), (4, .int a3), (5, .int a4), (6, .int r1), (7, .int r2), (8, .int x1)] := hl
  refine lv_iconst (v := (-1)) hx hb dX2_ruleFor_74 (by decide) ?_
  obtain rfl := Option.some.inj h
  exact W.iret (v := (-1)) hx hb hr (fun t ht9 hW => ⟨⟨_, (), rfl, rfl, zend ht9 hP⟩, hS.F ht9⟩) hS.2.2 dX2_ruleFor_75
def f_X2_actionFor (fu : Nat) (eszo : Nat → Int32) (tw : Int32) (ts : Int32) (tn : Nat) (tf : Nat → Int32) (a1 : Int32) (a2 : Int32) (a3 : Int32) (a4 : Int32) : Option (Int32) :=
  (f_X2_ruleFor fu eszo tw ts tn tf a1 a2 a3 a4).bind fun r1 => if r1 = (-1) then (some (0)) else ((f_X3_get tw ts tn tf r1 9).bind fun r2 => some (r2))
abbrev wk_X2_actionFor : List Cond := Cond.code yX2_actionFor cX2_actionFor 7 (some .int) :: WB
abbrev rm_X2_actionFor : Room := { frames := 4, cells := 0, slots := 0, locals := 99 }
set_option maxHeartbeats 4000000 in
set_option maxRecDepth 100000 in
theorem c_X2_actionFor (l : Launch) (D : va_G) (k : Nat → Nat) (es esz esr esk esf esa esp est t tc : Nat) (estm : Int32) (eszo : Nat → Int32) (tl : Int32) (tw : Int32) (ts : Int32) (tn : Nat) (tf : Nat → Int32) (a1 : Int32) (a2 : Int32) (a3 : Int32) (a4 : Int32) (fu : Nat) {res : Int32} (h : f_X2_actionFor fu eszo tw ts tn tf a1 a2 a3 a4 = some res) : Ci l yX2_actionFor wk_X2_actionFor rm_X2_actionFor D k [.ref es, .ref t, .int a1, .int a2, .int a3, .int a4] [(es, .inr (2, [.ref esz, .ref esr, .ref esk, .ref esf, .ref esa, .ref esp, .ref est, .int estm])), (esz, .inl (k 0, 32, .inl eszo)), (t, .inr (3, [.int tl, .int tw, .ref tc, .int ts])), (tc, .inl (k 0, tn, .inl tf))] [(es, .inr (2, [.ref esz, .ref esr, .ref esk, .ref esf, .ref esa, .ref esp, .ref est, .int estm])), (esz, .inl (k 0, 32, .inl eszo)), (t, .inr (3, [.int tl, .int tw, .ref tc, .int ts])), (tc, .inl (k 0, tn, .inl tf))] res := by
  unfold Ci
  intro sz
  refine Met.ofW (cc := cX2_actionFor) (maxL := 7) (ret := (some .int)) (by decide) rfl ?_
  intro p e s m args below meth c s₁ B hml hv
  obtain ⟨rfl, hsz, hP, hK, hD0, hm⟩ := hv
  have hx := B.exec
  have hb := B.bytes
  have hr := B.returns
  have ht : ∀ w ∈ WB, w.before _ s = true := fun w hw => atoms_spec (ws := wk_X2_actionFor) B.pre w (List.mem_cons_of_mem _ hw)
  have hown : s.vm.findClass RX2 = some m.cls := findClass_of_methodNamed B.named
  have hlocks := B.notSynchronized
  subst hsz
  have hD := hD0.self (sz := s.heap.size)
  generalize hAe : va_A [(es, .inr (2, [.ref esz, .ref esr, .ref esk, .ref esf, .ref esa, .ref esp, .ref est, .int estm])), (esz, .inl (k 0, 32, .inl eszo)), (t, .inr (3, [.int tl, .int tw, .ref tc, .int ts])), (tc, .inl (k 0, tn, .inl tf))] s.heap.size = A at hD hm ⊢
  have hA : ∀ q : Nat, s.heap.size ≤ q → A q := fun q h => by rw [← hAe]; exact Or.inr h
  have hS : va_S A s.heap s.heap [] := va_S.rf
  have hl := lv_entry ([.ref es, .ref t, .int a1, .int a2, .int a3, .int a4]) (n := 7) (Nat.le_of_ble_eq_true rfl)
  rw [lg_entry_eq]
  generalize (lg_sl ([.ref es, .ref t, .int a1, .int a2, .int a3, .int a4]) ++ List.replicate (7 - (lg_sl ([.ref es, .ref t, .int a1, .int a2, .int a3, .int a4])).length) Slot.unset).toArray = ls at hl ⊢
  have hl : lv_has ls 7 [(0, .ref es), (1, .ref t), (2, .int a1), (3, .int a2), (4, .int a3), (5, .int a4)] := hl
  obtain ⟨H, hH⟩ : ∃ H, H = s.heap := ⟨_, rfl⟩
  rw [← hH] at hP
  have hS : va_S A s.heap H [] := by rw [hH]; exact hS
  suffices hgo : W p l e _ s m _ below meth c H [] 0 0 _ _ by rw [hH] at hgo; exact hgo
  unfold f_X2_actionFor at h
  refine lv_aload_n hx hb dX2_actionFor_0 rfl (lv_at hl 0 rfl) ?_
  refine lv_aload_n hx hb dX2_actionFor_1 rfl (lv_at hl 1 rfl) ?_
  refine lv_iload_n hx hb dX2_actionFor_2 rfl (lv_at hl 2 rfl) ?_
  refine lv_iload_n hx hb dX2_actionFor_3 rfl (lv_at hl 3 rfl) ?_
  refine lv_iload hx hb dX2_actionFor_4 (lv_at hl 4 rfl) ?_
  refine lv_iload hx hb dX2_actionFor_6 (lv_at hl 5 rfl) ?_
  obtain ⟨r1, h1, h⟩ := zb h
  refine zi (zrV (C := RX2) (T := TX2) (N := 8) (As := [.ref t, .int a1, .int a2, .int a3, .int a4]) (rest := []) ⟨hx, hb, hml, hown, ht⟩ (c_X2_ruleFor l D k es esz esr esk esf esa esp est t tc estm eszo tl tw ts tn tf a1 a2 a3 a4 fu h1 _) (cwV 5 ht (gdV wb496 wb389 wb390 wb73 wb391) rfl rfl rfl (by decide +kernel) ⟨Nat.le_of_ble_eq_true rfl, Nat.le_of_ble_eq_true rfl⟩) hK hP hD hS hA hm [0, 1, 2, 3] rfl rfl 0 2 rfl rfl rfl hl.1 rfl (Nat.le_of_ble_eq_true rfl) dX2_actionFor_8 ⟨Nat.le_refl _, Nat.le_refl _⟩) hP hD hS hA [0, 1, 2, 3] rfl rfl (fun H locs hP hD hS => ?_)
  have hP : va_P D vwCl [(es, .inr (2, [.ref esz, .ref esr, .ref esk, .ref esf, .ref esa, .ref esp, .ref est, .int estm])), (esz, .inl (k 0, 32, .inl eszo)), (t, .inr (3, [.int tl, .int tw, .ref tc, .int ts])), (tc, .inl (k 0, tn, .inl tf))] H := hP
  have hD : va_D A [(es, .inr (2, [.ref esz, .ref esr, .ref esk, .ref esf, .ref esa, .ref esp, .ref est, .int estm])), (esz, .inl (k 0, 32, .inl eszo)), (t, .inr (3, [.int tl, .int tw, .ref tc, .int ts])), (tc, .inl (k 0, tn, .inl tf))] := hD
  refine lv_istore (lv' := [(6, .int r1), (0, .ref es), (1, .ref t), (2, .int a1), (3, .int a2), (4, .int a3), (5, .int a4)]) hx hb dX2_actionFor_11 hl (by decide) rfl (fun ls hl => ?_)
  refine lv_iload hx hb dX2_actionFor_13 (lv_at hl 0 rfl) ?_
  refine lv_iconst (v := (-1)) hx hb dX2_actionFor_15 (by decide) ?_
  refine lv_icmp_ne (tgt := 23) hx hb dX2_actionFor_16 (by decide) (fun c1 => ?_) (fun c1 => ?_)
  · have h := zf h c1
    refine lv_aload_n hx hb dX2_actionFor_23 rfl (lv_at hl 2 rfl) ?_
    refine lv_iload hx hb dX2_actionFor_24 (lv_at hl 0 rfl) ?_
    refine lv_bipush (v := 9) hx hb dX2_actionFor_26 (by decide) ?_
    obtain ⟨r2, h2, h⟩ := zb h
    refine zi (zrV (C := RX3) (T := TX3) (N := 4) (As := [.int r1, .int 9]) (rest := []) ⟨hx, hb, hml, hown, ht⟩ (c_X3_get l D k t tc tl tw ts tn tf r1 9 h2 _) (cwV 2 ht (gdV wb497 wb344 wb345 wb74 wb346) rfl rfl rfl (by decide +kernel) ⟨Nat.le_of_ble_eq_true rfl, Nat.le_of_ble_eq_true rfl⟩) hK hP hD hS hA hm [2, 3] rfl rfl 2 3 rfl rfl rfl hl.1 rfl (Nat.le_of_ble_eq_true rfl) dX2_actionFor_28 ⟨Nat.le_refl _, Nat.le_refl _⟩) hP hD hS hA [2, 3] rfl rfl (fun H locs hP hD hS => ?_)
    have hP : va_P D vwCl [(es, .inr (2, [.ref esz, .ref esr, .ref esk, .ref esf, .ref esa, .ref esp, .ref est, .int estm])), (esz, .inl (k 0, 32, .inl eszo)), (t, .inr (3, [.int tl, .int tw, .ref tc, .int ts])), (tc, .inl (k 0, tn, .inl tf))] H := hP
    have hD : va_D A [(es, .inr (2, [.ref esz, .ref esr, .ref esk, .ref esf, .ref esa, .ref esp, .ref est, .int estm])), (esz, .inl (k 0, 32, .inl eszo)), (t, .inr (3, [.int tl, .int tw, .ref tc, .int ts])), (tc, .inl (k 0, tn, .inl tf))] := hD
    obtain rfl := Option.some.inj h
    exact W.iret (v := r2) hx hb hr (fun t ht9 hW => ⟨⟨_, (), rfl, rfl, zend ht9 hP⟩, hS.F ht9⟩) hS.2.2 dX2_actionFor_31
  · have h := zt h c1
    refine lv_iconst (v := 0) hx hb dX2_actionFor_19 (by decide) ?_
    refine lv_goto (tgt := 31) hx hb dX2_actionFor_20 (by decide) ?_
    obtain rfl := Option.some.inj h
    exact W.iret (v := 0) hx hb hr (fun t ht9 hW => ⟨⟨_, (), rfl, rfl, zend ht9 hP⟩, hS.F ht9⟩) hS.2.2 dX2_actionFor_31
def f_X2_enterStage (estm : Int32) (esfs : Int32) (esff : Nat → Int32) (espf : Nat → Int32) (a1 : Int32) (a2 : Int32) : Option ((Nat → Int32)) :=
  (f_X5_within  a2 1 7).bind fun r1 => if (zB r1) = 0 then (some (esff)) else ((f_X3_put 7 esfs 56 esff a1 4 a2).bind fun r2 => if zok (a2 - 1) 7 then ((f_X3_put 7 esfs 56 r2 a1 5 (estm + (espf (Int32.toNatClampNeg (a2 - 1))))).bind fun r3 => some (r3)) else none)
abbrev wk_X2_enterStage : List Cond := Cond.code yX2_enterStage cX2_enterStage 3 none :: WB
abbrev rm_X2_enterStage : Room := { frames := 2, cells := 0, slots := 0, locals := 45 }
set_option maxHeartbeats 4000000 in
set_option maxRecDepth 100000 in
theorem c_X2_enterStage (l : Launch) (D : va_G) (k : Nat → Nat) (es esz esr esk esf esa esp est esfc : Nat) (estm : Int32) (esfs : Int32) (esff : Nat → Int32) (espf : Nat → Int32) (a1 : Int32) (a2 : Int32) {res : (Nat → Int32)} (h : f_X2_enterStage estm esfs esff espf a1 a2 = some res) : Cv l yX2_enterStage wk_X2_enterStage rm_X2_enterStage D k [.ref es, .int a1, .int a2] [(es, .inr (2, [.ref esz, .ref esr, .ref esk, .ref esf, .ref esa, .ref esp, .ref est, .int estm])), (esf, .inr (3, [.int 8, .int 7, .ref esfc, .int esfs])), (esfc, .inl (k 0, 56, .inl esff)), (esp, .inl (k 0, 7, .inl espf))] [(es, .inr (2, [.ref esz, .ref esr, .ref esk, .ref esf, .ref esa, .ref esp, .ref est, .int estm])), (esf, .inr (3, [.int 8, .int 7, .ref esfc, .int esfs])), (esfc, .inl (k 0, 56, .inl res)), (esp, .inl (k 0, 7, .inl espf))] := by
  unfold Cv
  intro sz
  refine Met.ofW (cc := cX2_enterStage) (maxL := 3) (ret := none) (by decide) rfl ?_
  intro p e s m args below meth c s₁ B hml hv
  obtain ⟨rfl, hsz, hP, hK, hD0, hm⟩ := hv
  have hx := B.exec
  have hb := B.bytes
  have hr := B.returns
  have ht : ∀ w ∈ WB, w.before _ s = true := fun w hw => atoms_spec (ws := wk_X2_enterStage) B.pre w (List.mem_cons_of_mem _ hw)
  have hown : s.vm.findClass RX2 = some m.cls := findClass_of_methodNamed B.named
  have hlocks := B.notSynchronized
  subst hsz
  have hD := hD0.self (sz := s.heap.size)
  generalize hAe : va_A [(es, .inr (2, [.ref esz, .ref esr, .ref esk, .ref esf, .ref esa, .ref esp, .ref est, .int estm])), (esf, .inr (3, [.int 8, .int 7, .ref esfc, .int esfs])), (esfc, .inl (k 0, 56, .inl esff)), (esp, .inl (k 0, 7, .inl espf))] s.heap.size = A at hD hm ⊢
  have hA : ∀ q : Nat, s.heap.size ≤ q → A q := fun q h => by rw [← hAe]; exact Or.inr h
  have hS : va_S A s.heap s.heap [] := va_S.rf
  have hl := lv_entry ([.ref es, .int a1, .int a2]) (n := 3) (Nat.le_of_ble_eq_true rfl)
  rw [lg_entry_eq]
  generalize (lg_sl ([.ref es, .int a1, .int a2]) ++ List.replicate (3 - (lg_sl ([.ref es, .int a1, .int a2])).length) Slot.unset).toArray = ls at hl ⊢
  have hl : lv_has ls 3 [(0, .ref es), (1, .int a1), (2, .int a2)] := hl
  obtain ⟨H, hH⟩ : ∃ H, H = s.heap := ⟨_, rfl⟩
  rw [← hH] at hP
  have hS : va_S A s.heap H [] := by rw [hH]; exact hS
  suffices hgo : W p l e _ s m _ below meth c H [] 0 0 _ _ by rw [hH] at hgo; exact hgo
  unfold f_X2_enterStage at h
  refine lv_iload_n hx hb dX2_enterStage_0 rfl (lv_at hl 2 rfl) ?_
  refine lv_iconst (v := 1) hx hb dX2_enterStage_1 (by decide) ?_
  refine lv_bipush (v := 7) hx hb dX2_enterStage_2 (by decide) ?_
  obtain ⟨r1, h1, h⟩ := zb h
  refine zi (zrN (As := [.int a2, .int 1, .int 7]) (rest := []) ⟨hx, hb, hml, hown, ht⟩ (c_X5_within l D k   a2 1 7 h1 _) ⟨va_cnB 3 ht (gdN wb270) rfl rfl rfl (hm.1 _ (List.mem_of_getElem? (i := 13) rfl)) (ht _ wb72) (by decide +kernel) ⟨Nat.le_of_ble_eq_true rfl, Nat.le_of_ble_eq_true rfl⟩, ht _ wb269, trivial⟩ hK hP hD hS hA hm [] rfl rfl rfl hl.1 rfl (Nat.le_of_ble_eq_true rfl) dX2_enterStage_4 ⟨Nat.le_refl _, Nat.le_refl _⟩) hP hD hS hA [] rfl rfl (fun H locs hP hD hS => ?_)
  have hP : va_P D vwCl [(es, .inr (2, [.ref esz, .ref esr, .ref esk, .ref esf, .ref esa, .ref esp, .ref est, .int estm])), (esf, .inr (3, [.int 8, .int 7, .ref esfc, .int esfs])), (esfc, .inl (k 0, 56, .inl esff)), (esp, .inl (k 0, 7, .inl espf))] H := hP
  have hD : va_D A [(es, .inr (2, [.ref esz, .ref esr, .ref esk, .ref esf, .ref esa, .ref esp, .ref est, .int estm])), (esf, .inr (3, [.int 8, .int 7, .ref esfc, .int esfs])), (esfc, .inl (k 0, 56, .inl esff)), (esp, .inl (k 0, 7, .inl espf))] := hD
  refine lv_if_ne (tgt := 11) hx hb dX2_enterStage_7 (by decide) (fun c1 => ?_) (fun c1 => ?_)
  · have h := zf h c1
    refine lv_aload_n hx hb dX2_enterStage_11 rfl (lv_at hl 0 rfl) ?_
    refine va_get (D := D) (ci := 2) (v := .ref esf) (C := RX2) (T := TX2) (N := 8) hx hb ht hiX2 hown hK hP 0 rfl rfl 3 (by decide) (ht _ wb134) (fun _ h9 => h9) rfl dX2_enterStage_12 ?_
    refine lv_iload_n hx hb dX2_enterStage_15 rfl (lv_at hl 1 rfl) ?_
    refine lv_iconst (v := 4) hx hb dX2_enterStage_16 (by decide) ?_
    refine lv_iload_n hx hb dX2_enterStage_17 rfl (lv_at hl 2 rfl) ?_
    obtain ⟨r2, h2, h⟩ := zb h
    refine zv (zrV (C := RX3) (T := TX3) (N := 4) (As := [.int a1, .int 4, .int a2]) (rest := []) ⟨hx, hb, hml, hown, ht⟩ (c_X3_put l D k esf esfc 8 7 esfs 56 esff a1 4 a2 h2 _) (cwV 3 ht (gdV wb533 wb323 wb324 wb74 wb325) rfl rfl rfl (by decide +kernel) ⟨Nat.le_of_ble_eq_true rfl, Nat.le_of_ble_eq_true rfl⟩) hK hP hD hS hA hm [1, 2] rfl rfl 1 3 rfl rfl rfl hl.1 rfl (Nat.le_of_ble_eq_true rfl) dX2_enterStage_18 ⟨Nat.le_refl _, Nat.le_refl _⟩) hP hD hS hA [1, 2] rfl rfl (fun H locs hP hD hS => ?_)
    have hP : va_P D vwCl [(es, .inr (2, [.ref esz, .ref esr, .ref esk, .ref esf, .ref esa, .ref esp, .ref est, .int estm])), (esf, .inr (3, [.int 8, .int 7, .ref esfc, .int esfs])), (esfc, .inl (k 0, 56, .inl r2)), (esp, .inl (k 0, 7, .inl espf))] H := hP
    have hD : va_D A [(es, .inr (2, [.ref esz, .ref esr, .ref esk, .ref esf, .ref esa, .ref esp, .ref est, .int estm])), (esf, .inr (3, [.int 8, .int 7, .ref esfc, .int esfs])), (esfc, .inl (k 0, 56, .inl r2)), (esp, .inl (k 0, 7, .inl espf))] := hD
    refine lv_aload_n hx hb dX2_enterStage_21 rfl (lv_at hl 0 rfl) ?_
    refine va_get (D := D) (ci := 2) (v := .ref esf) (C := RX2) (T := TX2) (N := 8) hx hb ht hiX2 hown hK hP 0 rfl rfl 3 (by decide) (ht _ wb134) (fun _ h9 => h9) rfl dX2_enterStage_22 ?_
    refine lv_iload_n hx hb dX2_enterStage_25 rfl (lv_at hl 1 rfl) ?_
    refine lv_iconst (v := 5) hx hb dX2_enterStage_26 (by decide) ?_
    refine lv_aload_n hx hb dX2_enterStage_27 rfl (lv_at hl 0 rfl) ?_
    refine va_get (D := D) (ci := 2) (v := .int estm) (C := RX2) (T := TX2) (N := 8) hx hb ht hiX2 hown hK hP 0 rfl rfl 7 (by decide) (ht _ wb142) (fun _ h9 => h9) rfl dX2_enterStage_28 ?_
    refine lv_aload_n hx hb dX2_enterStage_31 rfl (lv_at hl 0 rfl) ?_
    refine va_get (D := D) (ci := 2) (v := .ref esp) (C := RX2) (T := TX2) (N := 8) hx hb ht hiX2 hown hK hP 0 rfl rfl 5 (by decide) (ht _ wb138) (fun _ h9 => h9) rfl dX2_enterStage_32 ?_
    refine lv_iload_n hx hb dX2_enterStage_35 rfl (lv_at hl 2 rfl) ?_
    refine lv_iconst (v := 1) hx hb dX2_enterStage_36 (by decide) ?_
    refine lv_isub hx hb dX2_enterStage_37 ?_
    obtain ⟨hi1, h⟩ := zg h
    refine va_iald hx hb hK hP 3 0 rfl rfl hi1 dX2_enterStage_38 ?_
    refine lv_iadd hx hb dX2_enterStage_39 ?_
    obtain ⟨r3, h3, h⟩ := zb h
    refine zv (zrV (C := RX3) (T := TX3) (N := 4) (As := [.int a1, .int 5, .int (estm + (espf (Int32.toNatClampNeg (a2 - 1))))]) (rest := []) ⟨hx, hb, hml, hown, ht⟩ (c_X3_put l D k esf esfc 8 7 esfs 56 r2 a1 5 (estm + (espf (Int32.toNatClampNeg (a2 - 1)))) h3 _) (cwV 3 ht (gdV wb533 wb323 wb324 wb74 wb325) rfl rfl rfl (by decide +kernel) ⟨Nat.le_of_ble_eq_true rfl, Nat.le_of_ble_eq_true rfl⟩) hK hP hD hS hA hm [1, 2] rfl rfl 1 3 rfl rfl rfl hl.1 rfl (Nat.le_of_ble_eq_true rfl) dX2_enterStage_40 ⟨Nat.le_refl _, Nat.le_refl _⟩) hP hD hS hA [1, 2] rfl rfl (fun H locs hP hD hS => ?_)
    have hP : va_P D vwCl [(es, .inr (2, [.ref esz, .ref esr, .ref esk, .ref esf, .ref esa, .ref esp, .ref est, .int estm])), (esf, .inr (3, [.int 8, .int 7, .ref esfc, .int esfs])), (esfc, .inl (k 0, 56, .inl r3)), (esp, .inl (k 0, 7, .inl espf))] H := hP
    have hD : va_D A [(es, .inr (2, [.ref esz, .ref esr, .ref esk, .ref esf, .ref esa, .ref esp, .ref est, .int estm])), (esf, .inr (3, [.int 8, .int 7, .ref esfc, .int esfs])), (esfc, .inl (k 0, 56, .inl r3)), (esp, .inl (k 0, 7, .inl espf))] := hD
    obtain rfl := Option.some.inj h
    exact W.vret hx hb hr (fun t ht9 hW => ⟨⟨(), rfl, trivial, zend ht9 hP⟩, hS.F ht9⟩) hS.2.2 dX2_enterStage_43
  · have h := zt h c1
    obtain rfl := Option.some.inj h
    exact W.vret hx hb hr (fun t ht9 hW => ⟨⟨(), rfl, trivial, zend ht9 hP⟩, hS.F ht9⟩) hS.2.2 dX2_enterStage_10
def f_X2_raise (estf : Nat → Int32) (a1 : Int32) (a2 : Int32) : Option ((Nat → Int32)) :=
  (f_X5_within  a1 0 5).bind fun r1 => if (zB r1) = 0 then (some (estf)) else (if zok a1 6 then (if zok a1 6 then (some (upd estf (Int32.toNatClampNeg a1) ((estf (Int32.toNatClampNeg a1)) + a2))) else none) else none)
abbrev wk_X2_raise : List Cond := Cond.code yX2_raise cX2_raise 3 none :: WB
abbrev rm_X2_raise : Room := { frames := 1, cells := 0, slots := 0, locals := 22 }
set_option maxHeartbeats 4000000 in
set_option maxRecDepth 100000 in
theorem c_X2_raise (l : Launch) (D : va_G) (k : Nat → Nat) (es esz esr esk esf esa esp est : Nat) (estm : Int32) (estf : Nat → Int32) (a1 : Int32) (a2 : Int32) {res : (Nat → Int32)} (h : f_X2_raise estf a1 a2 = some res) : Cv l yX2_raise wk_X2_raise rm_X2_raise D k [.ref es, .int a1, .int a2] [(es, .inr (2, [.ref esz, .ref esr, .ref esk, .ref esf, .ref esa, .ref esp, .ref est, .int estm])), (est, .inl (k 0, 6, .inl estf))] [(es, .inr (2, [.ref esz, .ref esr, .ref esk, .ref esf, .ref esa, .ref esp, .ref est, .int estm])), (est, .inl (k 0, 6, .inl res))] := by
  unfold Cv
  intro sz
  refine Met.ofW (cc := cX2_raise) (maxL := 3) (ret := none) (by decide) rfl ?_
  intro p e s m args below meth c s₁ B hml hv
  obtain ⟨rfl, hsz, hP, hK, hD0, hm⟩ := hv
  have hx := B.exec
  have hb := B.bytes
  have hr := B.returns
  have ht : ∀ w ∈ WB, w.before _ s = true := fun w hw => atoms_spec (ws := wk_X2_raise) B.pre w (List.mem_cons_of_mem _ hw)
  have hown : s.vm.findClass RX2 = some m.cls := findClass_of_methodNamed B.named
  have hlocks := B.notSynchronized
  subst hsz
  have hD := hD0.self (sz := s.heap.size)
  generalize hAe : va_A [(es, .inr (2, [.ref esz, .ref esr, .ref esk, .ref esf, .ref esa, .ref esp, .ref est, .int estm])), (est, .inl (k 0, 6, .inl estf))] s.heap.size = A at hD hm ⊢
  have hA : ∀ q : Nat, s.heap.size ≤ q → A q := fun q h => by rw [← hAe]; exact Or.inr h
  have hS : va_S A s.heap s.heap [] := va_S.rf
  have hl := lv_entry ([.ref es, .int a1, .int a2]) (n := 3) (Nat.le_of_ble_eq_true rfl)
  rw [lg_entry_eq]
  generalize (lg_sl ([.ref es, .int a1, .int a2]) ++ List.replicate (3 - (lg_sl ([.ref es, .int a1, .int a2])).length) Slot.unset).toArray = ls at hl ⊢
  have hl : lv_has ls 3 [(0, .ref es), (1, .int a1), (2, .int a2)] := hl
  obtain ⟨H, hH⟩ : ∃ H, H = s.heap := ⟨_, rfl⟩
  rw [← hH] at hP
  have hS : va_S A s.heap H [] := by rw [hH]; exact hS
  suffices hgo : W p l e _ s m _ below meth c H [] 0 0 _ _ by rw [hH] at hgo; exact hgo
  unfold f_X2_raise at h
  refine lv_iload_n hx hb dX2_raise_0 rfl (lv_at hl 1 rfl) ?_
  refine lv_iconst (v := 0) hx hb dX2_raise_1 (by decide) ?_
  refine lv_iconst (v := 5) hx hb dX2_raise_2 (by decide) ?_
  obtain ⟨r1, h1, h⟩ := zb h
  refine zi (zrN (As := [.int a1, .int 0, .int 5]) (rest := []) ⟨hx, hb, hml, hown, ht⟩ (c_X5_within l D k   a1 0 5 h1 _) ⟨va_cnB 3 ht (gdN wb270) rfl rfl rfl (hm.1 _ (List.mem_of_getElem? (i := 13) rfl)) (ht _ wb72) (by decide +kernel) ⟨Nat.le_of_ble_eq_true rfl, Nat.le_of_ble_eq_true rfl⟩, ht _ wb269, trivial⟩ hK hP hD hS hA hm [] rfl rfl rfl hl.1 rfl (Nat.le_of_ble_eq_true rfl) dX2_raise_3 ⟨Nat.le_refl _, Nat.le_refl _⟩) hP hD hS hA [] rfl rfl (fun H locs hP hD hS => ?_)
  have hP : va_P D vwCl [(es, .inr (2, [.ref esz, .ref esr, .ref esk, .ref esf, .ref esa, .ref esp, .ref est, .int estm])), (est, .inl (k 0, 6, .inl estf))] H := hP
  have hD : va_D A [(es, .inr (2, [.ref esz, .ref esr, .ref esk, .ref esf, .ref esa, .ref esp, .ref est, .int estm])), (est, .inl (k 0, 6, .inl estf))] := hD
  refine lv_if_eq (tgt := 19) hx hb dX2_raise_6 (by decide) (fun c1 => ?_) (fun c1 => ?_)
  · have h := zt h c1
    obtain rfl := Option.some.inj h
    exact W.vret hx hb hr (fun t ht9 hW => ⟨⟨(), rfl, trivial, zend ht9 hP⟩, hS.F ht9⟩) hS.2.2 dX2_raise_19
  · have h := zf h c1
    refine lv_aload_n hx hb dX2_raise_9 rfl (lv_at hl 0 rfl) ?_
    refine va_get (D := D) (ci := 2) (v := .ref est) (C := RX2) (T := TX2) (N := 8) hx hb ht hiX2 hown hK hP 0 rfl rfl 6 (by decide) (ht _ wb140) (fun _ h9 => h9) rfl dX2_raise_10 ?_
    refine lv_iload_n hx hb dX2_raise_13 rfl (lv_at hl 1 rfl) ?_
    refine lv_dup2_11 hx hb dX2_raise_14 rfl rfl ?_
    obtain ⟨hi1, h⟩ := zg h
    refine va_iald hx hb hK hP 1 0 rfl rfl hi1 dX2_raise_15 ?_
    refine lv_iload_n hx hb dX2_raise_16 rfl (lv_at hl 2 rfl) ?_
    refine lv_iadd hx hb dX2_raise_17 ?_
    obtain ⟨hi2, h⟩ := zg h
    refine va_iast hx hb hK hP hD hS 1 0 rfl rfl hi2 dX2_raise_18 (fun H locs hP hD hS => ?_)
    have hP : va_P D vwCl [(es, .inr (2, [.ref esz, .ref esr, .ref esk, .ref esf, .ref esa, .ref esp, .ref est, .int estm])), (est, .inl (k 0, 6, .inl (upd estf (Int32.toNatClampNeg a1) ((estf (Int32.toNatClampNeg a1)) + a2))))] H := hP
    have hD : va_D A [(es, .inr (2, [.ref esz, .ref esr, .ref esk, .ref esf, .ref esa, .ref esp, .ref est, .int estm])), (est, .inl (k 0, 6, .inl (upd estf (Int32.toNatClampNeg a1) ((estf (Int32.toNatClampNeg a1)) + a2))))] := hD
    obtain rfl := Option.some.inj h
    exact W.vret hx hb hr (fun t ht9 hW => ⟨⟨(), rfl, trivial, zend ht9 hP⟩, hS.F ht9⟩) hS.2.2 dX2_raise_19
def f_X2_copyFrom (eszo : Nat → Int32) (esrs : Int32) (esrf : Nat → Int32) (esks : Int32) (eskf : Nat → Int32) (esfs : Int32) (esff : Nat → Int32) (esas : Int32) (esaf : Nat → Int32) (espf : Nat → Int32) (estf : Nat → Int32) (ewtm : Int32) (ewzo : Nat → Int32) (ewrs : Int32) (ewrf : Nat → Int32) (ewks : Int32) (ewkf : Nat → Int32) (ewfs : Int32) (ewff : Nat → Int32) (ewas : Int32) (ewaf : Nat → Int32) (ewpf : Nat → Int32) (ewtf : Nat → Int32)  : Option (Int32 × (Nat → Int32) × Int32 × (Nat → Int32) × Int32 × (Nat → Int32) × Int32 × (Nat → Int32) × Int32 × (Nat → Int32) × (Nat → Int32) × (Nat → Int32)) :=
  if zcp 0 0 32 32 32 then ((f_X3_copyFrom esrs 132 esrf ewrs 132 ewrf ).bind fun r1 => (f_X3_copyFrom esks 132 eskf ewks 132 ewkf ).bind fun r2 => (f_X3_copyFrom esfs 56 esff ewfs 56 ewff ).bind fun r3 => (f_X3_copyFrom esas 30 esaf ewas 30 ewaf ).bind fun r4 => if zcp 0 0 7 7 7 then (if zcp 0 0 6 6 6 then (some (ewtm, va_cpy ewzo eszo (Int32.toNatClampNeg 0) (Int32.toNatClampNeg 0) (Int32.toNatClampNeg 32), r1.1, r1.2, r2.1, r2.2, r3.1, r3.2, r4.1, r4.2, va_cpy ewpf espf (Int32.toNatClampNeg 0) (Int32.toNatClampNeg 0) (Int32.toNatClampNeg 7), va_cpy ewtf estf (Int32.toNatClampNeg 0) (Int32.toNatClampNeg 0) (Int32.toNatClampNeg 6))) else none) else none) else none
abbrev wk_X2_copyFrom : List Cond := Cond.code yX2_copyFrom cX2_copyFrom 2 none :: WB
abbrev rm_X2_copyFrom : Room := { frames := 2, cells := 0, slots := 0, locals := 69 }
set_option maxHeartbeats 4000000 in
set_option maxRecDepth 100000 in
theorem c_X2_copyFrom (l : Launch) (D : va_G) (k : Nat → Nat) (es esz esr esk esf esa esp est esrc eskc esfc esac ew ewz ewr ewk ewf ewa ewp ewt ewrc ewkc ewfc ewac : Nat) (estm : Int32) (eszo : Nat → Int32) (esrs : Int32) (esrf : Nat → Int32) (esks : Int32) (eskf : Nat → Int32) (esfs : Int32) (esff : Nat → Int32) (esas : Int32) (esaf : Nat → Int32) (espf : Nat → Int32) (estf : Nat → Int32) (ewtm : Int32) (ewzo : Nat → Int32) (ewrs : Int32) (ewrf : Nat → Int32) (ewks : Int32) (ewkf : Nat → Int32) (ewfs : Int32) (ewff : Nat → Int32) (ewas : Int32) (ewaf : Nat → Int32) (ewpf : Nat → Int32) (ewtf : Nat → Int32)  {res : Int32 × (Nat → Int32) × Int32 × (Nat → Int32) × Int32 × (Nat → Int32) × Int32 × (Nat → Int32) × Int32 × (Nat → Int32) × (Nat → Int32) × (Nat → Int32)} (h : f_X2_copyFrom eszo esrs esrf esks eskf esfs esff esas esaf espf estf ewtm ewzo ewrs ewrf ewks ewkf ewfs ewff ewas ewaf ewpf ewtf  = some res) : Cv l yX2_copyFrom wk_X2_copyFrom rm_X2_copyFrom D k [.ref es, .ref ew] [(es, .inr (2, [.ref esz, .ref esr, .ref esk, .ref esf, .ref esa, .ref esp, .ref est, .int estm])), (esz, .inl (k 0, 32, .inl eszo)), (esr, .inr (3, [.int 12, .int 11, .ref esrc, .int esrs])), (esrc, .inl (k 0, 132, .inl esrf)), (esk, .inr (3, [.int 12, .int 11, .ref eskc, .int esks])), (eskc, .inl (k 0, 132, .inl eskf)), (esf, .inr (3, [.int 8, .int 7, .ref esfc, .int esfs])), (esfc, .inl (k 0, 56, .inl esff)), (esa, .inr (3, [.int 6, .int 5, .ref esac, .int esas])), (esac, .inl (k 0, 30, .inl esaf)), (esp, .inl (k 0, 7, .inl espf)), (est, .inl (k 0, 6, .inl estf)), (ew, .inr (2, [.ref ewz, .ref ewr, .ref ewk, .ref ewf, .ref ewa, .ref ewp, .ref ewt, .int ewtm])), (ewz, .inl (k 0, 32, .inl ewzo)), (ewr, .inr (3, [.int 12, .int 11, .ref ewrc, .int ewrs])), (ewrc, .inl (k 0, 132, .inl ewrf)), (ewk, .inr (3, [.int 12, .int 11, .ref ewkc, .int ewks])), (ewkc, .inl (k 0, 132, .inl ewkf)), (ewf, .inr (3, [.int 8, .int 7, .ref ewfc, .int ewfs])), (ewfc, .inl (k 0, 56, .inl ewff)), (ewa, .inr (3, [.int 6, .int 5, .ref ewac, .int ewas])), (ewac, .inl (k 0, 30, .inl ewaf)), (ewp, .inl (k 0, 7, .inl ewpf)), (ewt, .inl (k 0, 6, .inl ewtf))] [(es, .inr (2, [.ref esz, .ref esr, .ref esk, .ref esf, .ref esa, .ref esp, .ref est, .int res.1])), (esz, .inl (k 0, 32, .inl res.2.1)), (esr, .inr (3, [.int 12, .int 11, .ref esrc, .int res.2.2.1])), (esrc, .inl (k 0, 132, .inl res.2.2.2.1)), (esk, .inr (3, [.int 12, .int 11, .ref eskc, .int res.2.2.2.2.1])), (eskc, .inl (k 0, 132, .inl res.2.2.2.2.2.1)), (esf, .inr (3, [.int 8, .int 7, .ref esfc, .int res.2.2.2.2.2.2.1])), (esfc, .inl (k 0, 56, .inl res.2.2.2.2.2.2.2.1)), (esa, .inr (3, [.int 6, .int 5, .ref esac, .int res.2.2.2.2.2.2.2.2.1])), (esac, .inl (k 0, 30, .inl res.2.2.2.2.2.2.2.2.2.1)), (esp, .inl (k 0, 7, .inl res.2.2.2.2.2.2.2.2.2.2.1)), (est, .inl (k 0, 6, .inl res.2.2.2.2.2.2.2.2.2.2.2)), (ew, .inr (2, [.ref ewz, .ref ewr, .ref ewk, .ref ewf, .ref ewa, .ref ewp, .ref ewt, .int ewtm])), (ewz, .inl (k 0, 32, .inl ewzo)), (ewr, .inr (3, [.int 12, .int 11, .ref ewrc, .int ewrs])), (ewrc, .inl (k 0, 132, .inl ewrf)), (ewk, .inr (3, [.int 12, .int 11, .ref ewkc, .int ewks])), (ewkc, .inl (k 0, 132, .inl ewkf)), (ewf, .inr (3, [.int 8, .int 7, .ref ewfc, .int ewfs])), (ewfc, .inl (k 0, 56, .inl ewff)), (ewa, .inr (3, [.int 6, .int 5, .ref ewac, .int ewas])), (ewac, .inl (k 0, 30, .inl ewaf)), (ewp, .inl (k 0, 7, .inl ewpf)), (ewt, .inl (k 0, 6, .inl ewtf))] := by
  unfold Cv
  intro sz
  refine Met.ofW (cc := cX2_copyFrom) (maxL := 2) (ret := none) (by decide) rfl ?_
  intro p e s m args below meth c s₁ B hml hv
  obtain ⟨rfl, hsz, hP, hK, hD0, hm⟩ := hv
  have hx := B.exec
  have hb := B.bytes
  have hr := B.returns
  have ht : ∀ w ∈ WB, w.before _ s = true := fun w hw => atoms_spec (ws := wk_X2_copyFrom) B.pre w (List.mem_cons_of_mem _ hw)
  have hown : s.vm.findClass RX2 = some m.cls := findClass_of_methodNamed B.named
  have hlocks := B.notSynchronized
  subst hsz
  have hD := hD0.self (sz := s.heap.size)
  generalize hAe : va_A [(es, .inr (2, [.ref esz, .ref esr, .ref esk, .ref esf, .ref esa, .ref esp, .ref est, .int estm])), (esz, .inl (k 0, 32, .inl eszo)), (esr, .inr (3, [.int 12, .int 11, .ref esrc, .int esrs])), (esrc, .inl (k 0, 132, .inl esrf)), (esk, .inr (3, [.int 12, .int 11, .ref eskc, .int esks])), (eskc, .inl (k 0, 132, .inl eskf)), (esf, .inr (3, [.int 8, .int 7, .ref esfc, .int esfs])), (esfc, .inl (k 0, 56, .inl esff)), (esa, .inr (3, [.int 6, .int 5, .ref esac, .int esas])), (esac, .inl (k 0, 30, .inl esaf)), (esp, .inl (k 0, 7, .inl espf)), (est, .inl (k 0, 6, .inl estf)), (ew, .inr (2, [.ref ewz, .ref ewr, .ref ewk, .ref ewf, .ref ewa, .ref ewp, .ref ewt, .int ewtm])), (ewz, .inl (k 0, 32, .inl ewzo)), (ewr, .inr (3, [.int 12, .int 11, .ref ewrc, .int ewrs])), (ewrc, .inl (k 0, 132, .inl ewrf)), (ewk, .inr (3, [.int 12, .int 11, .ref ewkc, .int ewks])), (ewkc, .inl (k 0, 132, .inl ewkf)), (ewf, .inr (3, [.int 8, .int 7, .ref ewfc, .int ewfs])), (ewfc, .inl (k 0, 56, .inl ewff)), (ewa, .inr (3, [.int 6, .int 5, .ref ewac, .int ewas])), (ewac, .inl (k 0, 30, .inl ewaf)), (ewp, .inl (k 0, 7, .inl ewpf)), (ewt, .inl (k 0, 6, .inl ewtf))] s.heap.size = A at hD hm ⊢
  have hA : ∀ q : Nat, s.heap.size ≤ q → A q := fun q h => by rw [← hAe]; exact Or.inr h
  have hS : va_S A s.heap s.heap [] := va_S.rf
  have hl := lv_entry ([.ref es, .ref ew]) (n := 2) (Nat.le_of_ble_eq_true rfl)
  rw [lg_entry_eq]
  generalize (lg_sl ([.ref es, .ref ew]) ++ List.replicate (2 - (lg_sl ([.ref es, .ref ew])).length) Slot.unset).toArray = ls at hl ⊢
  have hl : lv_has ls 2 [(0, .ref es), (1, .ref ew)] := hl
  obtain ⟨H, hH⟩ : ∃ H, H = s.heap := ⟨_, rfl⟩
  rw [← hH] at hP
  have hS : va_S A s.heap H [] := by rw [hH]; exact hS
  suffices hgo : W p l e _ s m _ below meth c H [] 0 0 _ _ by rw [hH] at hgo; exact hgo
  unfold f_X2_copyFrom at h
  refine lv_aload_n hx hb dX2_copyFrom_0 rfl (lv_at hl 1 rfl) ?_
  refine va_get (D := D) (ci := 2) (v := .ref ewz) (C := RX2) (T := TX2) (N := 8) hx hb ht hiX2 hown hK hP 12 rfl rfl 0 (by decide) (ht _ wb128) (fun _ h9 => h9) rfl dX2_copyFrom_1 ?_
  refine lv_iconst (v := 0) hx hb dX2_copyFrom_4 (by decide) ?_
  refine lv_aload_n hx hb dX2_copyFrom_5 rfl (lv_at hl 0 rfl) ?_
  refine va_get (D := D) (ci := 2) (v := .ref esz) (C := RX2) (T := TX2) (N := 8) hx hb ht hiX2 hown hK hP 0 rfl rfl 0 (by decide) (ht _ wb128) (fun _ h9 => h9) rfl dX2_copyFrom_6 ?_
  refine lv_iconst (v := 0) hx hb dX2_copyFrom_9 (by decide) ?_
  refine lv_bipush (v := 32) hx hb dX2_copyFrom_10 (by decide) ?_
  obtain ⟨ha1, h⟩ := zcp_in h
  refine va_copyi hx hb (hml.trans hl.1.symm) hown (ht _ wb125) (ht _ wb127) (ht _ wb126) (ht _ wb76) hK hP hD hS 13 1 0 0 rfl rfl rfl rfl rfl ha1.1 ha1.2.1 ha1.2.2.1 ha1.2.2.2.1 ha1.2.2.2.2 (fun _ _ => rfl) (Nat.le_of_ble_eq_true rfl) (by decide) dX2_copyFrom_12 (fun H locs hP hD hS => ?_)
  have hP : va_P D vwCl [(es, .inr (2, [.ref esz, .ref esr, .ref esk, .ref esf, .ref esa, .ref esp, .ref est, .int estm])), (esz, .inl (k 0, 32, .inl (va_cpy ewzo eszo (Int32.toNatClampNeg 0) (Int32.toNatClampNeg 0) (Int32.toNatClampNeg 32)))), (esr, .inr (3, [.int 12, .int 11, .ref esrc, .int esrs])), (esrc, .inl (k 0, 132, .inl esrf)), (esk, .inr (3, [.int 12, .int 11, .ref eskc, .int esks])), (eskc, .inl (k 0, 132, .inl eskf)), (esf, .inr (3, [.int 8, .int 7, .ref esfc, .int esfs])), (esfc, .inl (k 0, 56, .inl esff)), (esa, .inr (3, [.int 6, .int 5, .ref esac, .int esas])), (esac, .inl (k 0, 30, .inl esaf)), (esp, .inl (k 0, 7, .inl espf)), (est, .inl (k 0, 6, .inl estf)), (ew, .inr (2, [.ref ewz, .ref ewr, .ref ewk, .ref ewf, .ref ewa, .ref ewp, .ref ewt, .int ewtm])), (ewz, .inl (k 0, 32, .inl ewzo)), (ewr, .inr (3, [.int 12, .int 11, .ref ewrc, .int ewrs])), (ewrc, .inl (k 0, 132, .inl ewrf)), (ewk, .inr (3, [.int 12, .int 11, .ref ewkc, .int ewks])), (ewkc, .inl (k 0, 132, .inl ewkf)), (ewf, .inr (3, [.int 8, .int 7, .ref ewfc, .int ewfs])), (ewfc, .inl (k 0, 56, .inl ewff)), (ewa, .inr (3, [.int 6, .int 5, .ref ewac, .int ewas])), (ewac, .inl (k 0, 30, .inl ewaf)), (ewp, .inl (k 0, 7, .inl ewpf)), (ewt, .inl (k 0, 6, .inl ewtf))] H := hP
  have hD : va_D A [(es, .inr (2, [.ref esz, .ref esr, .ref esk, .ref esf, .ref esa, .ref esp, .ref est, .int estm])), (esz, .inl (k 0, 32, .inl (va_cpy ewzo eszo (Int32.toNatClampNeg 0) (Int32.toNatClampNeg 0) (Int32.toNatClampNeg 32)))), (esr, .inr (3, [.int 12, .int 11, .ref esrc, .int esrs])), (esrc, .inl (k 0, 132, .inl esrf)), (esk, .inr (3, [.int 12, .int 11, .ref eskc, .int esks])), (eskc, .inl (k 0, 132, .inl eskf)), (esf, .inr (3, [.int 8, .int 7, .ref esfc, .int esfs])), (esfc, .inl (k 0, 56, .inl esff)), (esa, .inr (3, [.int 6, .int 5, .ref esac, .int esas])), (esac, .inl (k 0, 30, .inl esaf)), (esp, .inl (k 0, 7, .inl espf)), (est, .inl (k 0, 6, .inl estf)), (ew, .inr (2, [.ref ewz, .ref ewr, .ref ewk, .ref ewf, .ref ewa, .ref ewp, .ref ewt, .int ewtm])), (ewz, .inl (k 0, 32, .inl ewzo)), (ewr, .inr (3, [.int 12, .int 11, .ref ewrc, .int ewrs])), (ewrc, .inl (k 0, 132, .inl ewrf)), (ewk, .inr (3, [.int 12, .int 11, .ref ewkc, .int ewks])), (ewkc, .inl (k 0, 132, .inl ewkf)), (ewf, .inr (3, [.int 8, .int 7, .ref ewfc, .int ewfs])), (ewfc, .inl (k 0, 56, .inl ewff)), (ewa, .inr (3, [.int 6, .int 5, .ref ewac, .int ewas])), (ewac, .inl (k 0, 30, .inl ewaf)), (ewp, .inl (k 0, 7, .inl ewpf)), (ewt, .inl (k 0, 6, .inl ewtf))] := hD
  refine lv_aload_n hx hb dX2_copyFrom_15 rfl (lv_at hl 0 rfl) ?_
  refine va_get (D := D) (ci := 2) (v := .ref esr) (C := RX2) (T := TX2) (N := 8) hx hb ht hiX2 hown hK hP 0 rfl rfl 1 (by decide) (ht _ wb130) (fun _ h9 => h9) rfl dX2_copyFrom_16 ?_
  refine lv_aload_n hx hb dX2_copyFrom_19 rfl (lv_at hl 1 rfl) ?_
  refine va_get (D := D) (ci := 2) (v := .ref ewr) (C := RX2) (T := TX2) (N := 8) hx hb ht hiX2 hown hK hP 12 rfl rfl 1 (by decide) (ht _ wb130) (fun _ h9 => h9) rfl dX2_copyFrom_20 ?_
  obtain ⟨r1, h1, h⟩ := zb h
  refine zv (zrV (C := RX3) (T := TX3) (N := 4) (As := [.ref ewr]) (rest := []) ⟨hx, hb, hml, hown, ht⟩ (c_X3_copyFrom l D k esr esrc ewr ewrc 12 11 esrs 132 esrf 12 11 ewrs 132 ewrf  h1 _) (cwV 1 ht (gdV wb288 wb289 wb290 wb74 wb291) rfl rfl rfl (by decide +kernel) ⟨Nat.le_of_ble_eq_true rfl, Nat.le_of_ble_eq_true rfl⟩) hK hP hD hS hA hm [2, 3, 14, 15] rfl rfl 2 3 rfl rfl rfl hl.1 rfl (Nat.le_of_ble_eq_true rfl) dX2_copyFrom_23 ⟨Nat.le_refl _, Nat.le_refl _⟩) hP hD hS hA [2, 3, 14, 15] rfl rfl (fun H locs hP hD hS => ?_)
  have hP : va_P D vwCl [(es, .inr (2, [.ref esz, .ref esr, .ref esk, .ref esf, .ref esa, .ref esp, .ref est, .int estm])), (esz, .inl (k 0, 32, .inl (va_cpy ewzo eszo (Int32.toNatClampNeg 0) (Int32.toNatClampNeg 0) (Int32.toNatClampNeg 32)))), (esr, .inr (3, [.int 12, .int 11, .ref esrc, .int r1.1])), (esrc, .inl (k 0, 132, .inl r1.2)), (esk, .inr (3, [.int 12, .int 11, .ref eskc, .int esks])), (eskc, .inl (k 0, 132, .inl eskf)), (esf, .inr (3, [.int 8, .int 7, .ref esfc, .int esfs])), (esfc, .inl (k 0, 56, .inl esff)), (esa, .inr (3, [.int 6, .int 5, .ref esac, .int esas])), (esac, .inl (k 0, 30, .inl esaf)), (esp, .inl (k 0, 7, .inl espf)), (est, .inl (k 0, 6, .inl estf)), (ew, .inr (2, [.ref ewz, .ref ewr, .ref ewk, .ref ewf, .ref ewa, .ref ewp, .ref ewt, .int ewtm])), (ewz, .inl (k 0, 32, .inl ewzo)), (ewr, .inr (3, [.int 12, .int 11, .ref ewrc, .int ewrs])), (ewrc, .inl (k 0, 132, .inl ewrf)), (ewk, .inr (3, [.int 12, .int 11, .ref ewkc, .int ewks])), (ewkc, .inl (k 0, 132, .inl ewkf)), (ewf, .inr (3, [.int 8, .int 7, .ref ewfc, .int ewfs])), (ewfc, .inl (k 0, 56, .inl ewff)), (ewa, .inr (3, [.int 6, .int 5, .ref ewac, .int ewas])), (ewac, .inl (k 0, 30, .inl ewaf)), (ewp, .inl (k 0, 7, .inl ewpf)), (ewt, .inl (k 0, 6, .inl ewtf))] H := hP
  have hD : va_D A [(es, .inr (2, [.ref esz, .ref esr, .ref esk, .ref esf, .ref esa, .ref esp, .ref est, .int estm])), (esz, .inl (k 0, 32, .inl (va_cpy ewzo eszo (Int32.toNatClampNeg 0) (Int32.toNatClampNeg 0) (Int32.toNatClampNeg 32)))), (esr, .inr (3, [.int 12, .int 11, .ref esrc, .int r1.1])), (esrc, .inl (k 0, 132, .inl r1.2)), (esk, .inr (3, [.int 12, .int 11, .ref eskc, .int esks])), (eskc, .inl (k 0, 132, .inl eskf)), (esf, .inr (3, [.int 8, .int 7, .ref esfc, .int esfs])), (esfc, .inl (k 0, 56, .inl esff)), (esa, .inr (3, [.int 6, .int 5, .ref esac, .int esas])), (esac, .inl (k 0, 30, .inl esaf)), (esp, .inl (k 0, 7, .inl espf)), (est, .inl (k 0, 6, .inl estf)), (ew, .inr (2, [.ref ewz, .ref ewr, .ref ewk, .ref ewf, .ref ewa, .ref ewp, .ref ewt, .int ewtm])), (ewz, .inl (k 0, 32, .inl ewzo)), (ewr, .inr (3, [.int 12, .int 11, .ref ewrc, .int ewrs])), (ewrc, .inl (k 0, 132, .inl ewrf)), (ewk, .inr (3, [.int 12, .int 11, .ref ewkc, .int ewks])), (ewkc, .inl (k 0, 132, .inl ewkf)), (ewf, .inr (3, [.int 8, .int 7, .ref ewfc, .int ewfs])), (ewfc, .inl (k 0, 56, .inl ewff)), (ewa, .inr (3, [.int 6, .int 5, .ref ewac, .int ewas])), (ewac, .inl (k 0, 30, .inl ewaf)), (ewp, .inl (k 0, 7, .inl ewpf)), (ewt, .inl (k 0, 6, .inl ewtf))] := hD
  refine lv_aload_n hx hb dX2_copyFrom_26 rfl (lv_at hl 0 rfl) ?_
  refine va_get (D := D) (ci := 2) (v := .ref esk) (C := RX2) (T := TX2) (N := 8) hx hb ht hiX2 hown hK hP 0 rfl rfl 2 (by decide) (ht _ wb132) (fun _ h9 => h9) rfl dX2_copyFrom_27 ?_
  refine lv_aload_n hx hb dX2_copyFrom_30 rfl (lv_at hl 1 rfl) ?_
  refine va_get (D := D) (ci := 2) (v := .ref ewk) (C := RX2) (T := TX2) (N := 8) hx hb ht hiX2 hown hK hP 12 rfl rfl 2 (by decide) (ht _ wb132) (fun _ h9 => h9) rfl dX2_copyFrom_31 ?_
  obtain ⟨r2, h2, h⟩ := zb h
  refine zv (zrV (C := RX3) (T := TX3) (N := 4) (As := [.ref ewk]) (rest := []) ⟨hx, hb, hml, hown, ht⟩ (c_X3_copyFrom l D k esk eskc ewk ewkc 12 11 esks 132 eskf 12 11 ewks 132 ewkf  h2 _) (cwV 1 ht (gdV wb288 wb289 wb290 wb74 wb291) rfl rfl rfl (by decide +kernel) ⟨Nat.le_of_ble_eq_true rfl, Nat.le_of_ble_eq_true rfl⟩) hK hP hD hS hA hm [4, 5, 16, 17] rfl rfl 4 3 rfl rfl rfl hl.1 rfl (Nat.le_of_ble_eq_true rfl) dX2_copyFrom_34 ⟨Nat.le_refl _, Nat.le_refl _⟩) hP hD hS hA [4, 5, 16, 17] rfl rfl (fun H locs hP hD hS => ?_)
  have hP : va_P D vwCl [(es, .inr (2, [.ref esz, .ref esr, .ref esk, .ref esf, .ref esa, .ref esp, .ref est, .int estm])), (esz, .inl (k 0, 32, .inl (va_cpy ewzo eszo (Int32.toNatClampNeg 0) (Int32.toNatClampNeg 0) (Int32.toNatClampNeg 32)))), (esr, .inr (3, [.int 12, .int 11, .ref esrc, .int r1.1])), (esrc, .inl (k 0, 132, .inl r1.2)), (esk, .inr (3, [.int 12, .int 11, .ref eskc, .int r2.1])), (eskc, .inl (k 0, 132, .inl r2.2)), (esf, .inr (3, [.int 8, .int 7, .ref esfc, .int esfs])), (esfc, .inl (k 0, 56, .inl esff)), (esa, .inr (3, [.int 6, .int 5, .ref esac, .int esas])), (esac, .inl (k 0, 30, .inl esaf)), (esp, .inl (k 0, 7, .inl espf)), (est, .inl (k 0, 6, .inl estf)), (ew, .inr (2, [.ref ewz, .ref ewr, .ref ewk, .ref ewf, .ref ewa, .ref ewp, .ref ewt, .int ewtm])), (ewz, .inl (k 0, 32, .inl ewzo)), (ewr, .inr (3, [.int 12, .int 11, .ref ewrc, .int ewrs])), (ewrc, .inl (k 0, 132, .inl ewrf)), (ewk, .inr (3, [.int 12, .int 11, .ref ewkc, .int ewks])), (ewkc, .inl (k 0, 132, .inl ewkf)), (ewf, .inr (3, [.int 8, .int 7, .ref ewfc, .int ewfs])), (ewfc, .inl (k 0, 56, .inl ewff)), (ewa, .inr (3, [.int 6, .int 5, .ref ewac, .int ewas])), (ewac, .inl (k 0, 30, .inl ewaf)), (ewp, .inl (k 0, 7, .inl ewpf)), (ewt, .inl (k 0, 6, .inl ewtf))] H := hP
  have hD : va_D A [(es, .inr (2, [.ref esz, .ref esr, .ref esk, .ref esf, .ref esa, .ref esp, .ref est, .int estm])), (esz, .inl (k 0, 32, .inl (va_cpy ewzo eszo (Int32.toNatClampNeg 0) (Int32.toNatClampNeg 0) (Int32.toNatClampNeg 32)))), (esr, .inr (3, [.int 12, .int 11, .ref esrc, .int r1.1])), (esrc, .inl (k 0, 132, .inl r1.2)), (esk, .inr (3, [.int 12, .int 11, .ref eskc, .int r2.1])), (eskc, .inl (k 0, 132, .inl r2.2)), (esf, .inr (3, [.int 8, .int 7, .ref esfc, .int esfs])), (esfc, .inl (k 0, 56, .inl esff)), (esa, .inr (3, [.int 6, .int 5, .ref esac, .int esas])), (esac, .inl (k 0, 30, .inl esaf)), (esp, .inl (k 0, 7, .inl espf)), (est, .inl (k 0, 6, .inl estf)), (ew, .inr (2, [.ref ewz, .ref ewr, .ref ewk, .ref ewf, .ref ewa, .ref ewp, .ref ewt, .int ewtm])), (ewz, .inl (k 0, 32, .inl ewzo)), (ewr, .inr (3, [.int 12, .int 11, .ref ewrc, .int ewrs])), (ewrc, .inl (k 0, 132, .inl ewrf)), (ewk, .inr (3, [.int 12, .int 11, .ref ewkc, .int ewks])), (ewkc, .inl (k 0, 132, .inl ewkf)), (ewf, .inr (3, [.int 8, .int 7, .ref ewfc, .int ewfs])), (ewfc, .inl (k 0, 56, .inl ewff)), (ewa, .inr (3, [.int 6, .int 5, .ref ewac, .int ewas])), (ewac, .inl (k 0, 30, .inl ewaf)), (ewp, .inl (k 0, 7, .inl ewpf)), (ewt, .inl (k 0, 6, .inl ewtf))] := hD
  refine lv_aload_n hx hb dX2_copyFrom_37 rfl (lv_at hl 0 rfl) ?_
  refine va_get (D := D) (ci := 2) (v := .ref esf) (C := RX2) (T := TX2) (N := 8) hx hb ht hiX2 hown hK hP 0 rfl rfl 3 (by decide) (ht _ wb134) (fun _ h9 => h9) rfl dX2_copyFrom_38 ?_
  refine lv_aload_n hx hb dX2_copyFrom_41 rfl (lv_at hl 1 rfl) ?_
  refine va_get (D := D) (ci := 2) (v := .ref ewf) (C := RX2) (T := TX2) (N := 8) hx hb ht hiX2 hown hK hP 12 rfl rfl 3 (by decide) (ht _ wb134) (fun _ h9 => h9) rfl dX2_copyFrom_42 ?_
  obtain ⟨r3, h3, h⟩ := zb h
  refine zv (zrV (C := RX3) (T := TX3) (N := 4) (As := [.ref ewf]) (rest := []) ⟨hx, hb, hml, hown, ht⟩ (c_X3_copyFrom l D k esf esfc ewf ewfc 8 7 esfs 56 esff 8 7 ewfs 56 ewff  h3 _) (cwV 1 ht (gdV wb288 wb289 wb290 wb74 wb291) rfl rfl rfl (by decide +kernel) ⟨Nat.le_of_ble_eq_true rfl, Nat.le_of_ble_eq_true rfl⟩) hK hP hD hS hA hm [6, 7, 18, 19] rfl rfl 6 3 rfl rfl rfl hl.1 rfl (Nat.le_of_ble_eq_true rfl) dX2_copyFrom_45 ⟨Nat.le_refl _, Nat.le_refl _⟩) hP hD hS hA [6, 7, 18, 19] rfl rfl (fun H locs hP hD hS => ?_)
  have hP : va_P D vwCl [(es, .inr (2, [.ref esz, .ref esr, .ref esk, .ref esf, .ref esa, .ref esp, .ref est, .int estm])), (esz, .inl (k 0, 32, .inl (va_cpy ewzo eszo (Int32.toNatClampNeg 0) (Int32.toNatClampNeg 0) (Int32.toNatClampNeg 32)))), (esr, .inr (3, [.int 12, .int 11, .ref esrc, .int r1.1])), (esrc, .inl (k 0, 132, .inl r1.2)), (esk, .inr (3, [.int 12, .int 11, .ref eskc, .int r2.1])), (eskc, .inl (k 0, 132, .inl r2.2)), (esf, .inr (3, [.int 8, .int 7, .ref esfc, .int r3.1])), (esfc, .inl (k 0, 56, .inl r3.2)), (esa, .inr (3, [.int 6, .int 5, .ref esac, .int esas])), (esac, .inl (k 0, 30, .inl esaf)), (esp, .inl (k 0, 7, .inl espf)), (est, .inl (k 0, 6, .inl estf)), (ew, .inr (2, [.ref ewz, .ref ewr, .ref ewk, .ref ewf, .ref ewa, .ref ewp, .ref ewt, .int ewtm])), (ewz, .inl (k 0, 32, .inl ewzo)), (ewr, .inr (3, [.int 12, .int 11, .ref ewrc, .int ewrs])), (ewrc, .inl (k 0, 132, .inl ewrf)), (ewk, .inr (3, [.int 12, .int 11, .ref ewkc, .int ewks])), (ewkc, .inl (k 0, 132, .inl ewkf)), (ewf, .inr (3, [.int 8, .int 7, .ref ewfc, .int ewfs])), (ewfc, .inl (k 0, 56, .inl ewff)), (ewa, .inr (3, [.int 6, .int 5, .ref ewac, .int ewas])), (ewac, .inl (k 0, 30, .inl ewaf)), (ewp, .inl (k 0, 7, .inl ewpf)), (ewt, .inl (k 0, 6, .inl ewtf))] H := hP
  have hD : va_D A [(es, .inr (2, [.ref esz, .ref esr, .ref esk, .ref esf, .ref esa, .ref esp, .ref est, .int estm])), (esz, .inl (k 0, 32, .inl (va_cpy ewzo eszo (Int32.toNatClampNeg 0) (Int32.toNatClampNeg 0) (Int32.toNatClampNeg 32)))), (esr, .inr (3, [.int 12, .int 11, .ref esrc, .int r1.1])), (esrc, .inl (k 0, 132, .inl r1.2)), (esk, .inr (3, [.int 12, .int 11, .ref eskc, .int r2.1])), (eskc, .inl (k 0, 132, .inl r2.2)), (esf, .inr (3, [.int 8, .int 7, .ref esfc, .int r3.1])), (esfc, .inl (k 0, 56, .inl r3.2)), (esa, .inr (3, [.int 6, .int 5, .ref esac, .int esas])), (esac, .inl (k 0, 30, .inl esaf)), (esp, .inl (k 0, 7, .inl espf)), (est, .inl (k 0, 6, .inl estf)), (ew, .inr (2, [.ref ewz, .ref ewr, .ref ewk, .ref ewf, .ref ewa, .ref ewp, .ref ewt, .int ewtm])), (ewz, .inl (k 0, 32, .inl ewzo)), (ewr, .inr (3, [.int 12, .int 11, .ref ewrc, .int ewrs])), (ewrc, .inl (k 0, 132, .inl ewrf)), (ewk, .inr (3, [.int 12, .int 11, .ref ewkc, .int ewks])), (ewkc, .inl (k 0, 132, .inl ewkf)), (ewf, .inr (3, [.int 8, .int 7, .ref ewfc, .int ewfs])), (ewfc, .inl (k 0, 56, .inl ewff)), (ewa, .inr (3, [.int 6, .int 5, .ref ewac, .int ewas])), (ewac, .inl (k 0, 30, .inl ewaf)), (ewp, .inl (k 0, 7, .inl ewpf)), (ewt, .inl (k 0, 6, .inl ewtf))] := hD
  refine lv_aload_n hx hb dX2_copyFrom_48 rfl (lv_at hl 0 rfl) ?_
  refine va_get (D := D) (ci := 2) (v := .ref esa) (C := RX2) (T := TX2) (N := 8) hx hb ht hiX2 hown hK hP 0 rfl rfl 4 (by decide) (ht _ wb136) (fun _ h9 => h9) rfl dX2_copyFrom_49 ?_
  refine lv_aload_n hx hb dX2_copyFrom_52 rfl (lv_at hl 1 rfl) ?_
  refine va_get (D := D) (ci := 2) (v := .ref ewa) (C := RX2) (T := TX2) (N := 8) hx hb ht hiX2 hown hK hP 12 rfl rfl 4 (by decide) (ht _ wb136) (fun _ h9 => h9) rfl dX2_copyFrom_53 ?_
  obtain ⟨r4, h4, h⟩ := zb h
  refine zv (zrV (C := RX3) (T := TX3) (N := 4) (As := [.ref ewa]) (rest := []) ⟨hx, hb, hml, hown, ht⟩ (c_X3_copyFrom l D k esa esac ewa ewac 6 5 esas 30 esaf 6 5 ewas 30 ewaf  h4 _) (cwV 1 ht (gdV wb288 wb289 wb290 wb74 wb291) rfl rfl rfl (by decide +kernel) ⟨Nat.le_of_ble_eq_true rfl, Nat.le_of_ble_eq_true rfl⟩) hK hP hD hS hA hm [8, 9, 20, 21] rfl rfl 8 3 rfl rfl rfl hl.1 rfl (Nat.le_of_ble_eq_true rfl) dX2_copyFrom_56 ⟨Nat.le_refl _, Nat.le_refl _⟩) hP hD hS hA [8, 9, 20, 21] rfl rfl (fun H locs hP hD hS => ?_)
  have hP : va_P D vwCl [(es, .inr (2, [.ref esz, .ref esr, .ref esk, .ref esf, .ref esa, .ref esp, .ref est, .int estm])), (esz, .inl (k 0, 32, .inl (va_cpy ewzo eszo (Int32.toNatClampNeg 0) (Int32.toNatClampNeg 0) (Int32.toNatClampNeg 32)))), (esr, .inr (3, [.int 12, .int 11, .ref esrc, .int r1.1])), (esrc, .inl (k 0, 132, .inl r1.2)), (esk, .inr (3, [.int 12, .int 11, .ref eskc, .int r2.1])), (eskc, .inl (k 0, 132, .inl r2.2)), (esf, .inr (3, [.int 8, .int 7, .ref esfc, .int r3.1])), (esfc, .inl (k 0, 56, .inl r3.2)), (esa, .inr (3, [.int 6, .int 5, .ref esac, .int r4.1])), (esac, .inl (k 0, 30, .inl r4.2)), (esp, .inl (k 0, 7, .inl espf)), (est, .inl (k 0, 6, .inl estf)), (ew, .inr (2, [.ref ewz, .ref ewr, .ref ewk, .ref ewf, .ref ewa, .ref ewp, .ref ewt, .int ewtm])), (ewz, .inl (k 0, 32, .inl ewzo)), (ewr, .inr (3, [.int 12, .int 11, .ref ewrc, .int ewrs])), (ewrc, .inl (k 0, 132, .inl ewrf)), (ewk, .inr (3, [.int 12, .int 11, .ref ewkc, .int ewks])), (ewkc, .inl (k 0, 132, .inl ewkf)), (ewf, .inr (3, [.int 8, .int 7, .ref ewfc, .int ewfs])), (ewfc, .inl (k 0, 56, .inl ewff)), (ewa, .inr (3, [.int 6, .int 5, .ref ewac, .int ewas])), (ewac, .inl (k 0, 30, .inl ewaf)), (ewp, .inl (k 0, 7, .inl ewpf)), (ewt, .inl (k 0, 6, .inl ewtf))] H := hP
  have hD : va_D A [(es, .inr (2, [.ref esz, .ref esr, .ref esk, .ref esf, .ref esa, .ref esp, .ref est, .int estm])), (esz, .inl (k 0, 32, .inl (va_cpy ewzo eszo (Int32.toNatClampNeg 0) (Int32.toNatClampNeg 0) (Int32.toNatClampNeg 32)))), (esr, .inr (3, [.int 12, .int 11, .ref esrc, .int r1.1])), (esrc, .inl (k 0, 132, .inl r1.2)), (esk, .inr (3, [.int 12, .int 11, .ref eskc, .int r2.1])), (eskc, .inl (k 0, 132, .inl r2.2)), (esf, .inr (3, [.int 8, .int 7, .ref esfc, .int r3.1])), (esfc, .inl (k 0, 56, .inl r3.2)), (esa, .inr (3, [.int 6, .int 5, .ref esac, .int r4.1])), (esac, .inl (k 0, 30, .inl r4.2)), (esp, .inl (k 0, 7, .inl espf)), (est, .inl (k 0, 6, .inl estf)), (ew, .inr (2, [.ref ewz, .ref ewr, .ref ewk, .ref ewf, .ref ewa, .ref ewp, .ref ewt, .int ewtm])), (ewz, .inl (k 0, 32, .inl ewzo)), (ewr, .inr (3, [.int 12, .int 11, .ref ewrc, .int ewrs])), (ewrc, .inl (k 0, 132, .inl ewrf)), (ewk, .inr (3, [.int 12, .int 11, .ref ewkc, .int ewks])), (ewkc, .inl (k 0, 132, .inl ewkf)), (ewf, .inr (3, [.int 8, .int 7, .ref ewfc, .int ewfs])), (ewfc, .inl (k 0, 56, .inl ewff)), (ewa, .inr (3, [.int 6, .int 5, .ref ewac, .int ewas])), (ewac, .inl (k 0, 30, .inl ewaf)), (ewp, .inl (k 0, 7, .inl ewpf)), (ewt, .inl (k 0, 6, .inl ewtf))] := hD
  refine lv_aload_n hx hb dX2_copyFrom_59 rfl (lv_at hl 1 rfl) ?_
  refine va_get (D := D) (ci := 2) (v := .ref ewp) (C := RX2) (T := TX2) (N := 8) hx hb ht hiX2 hown hK hP 12 rfl rfl 5 (by decide) (ht _ wb138) (fun _ h9 => h9) rfl dX2_copyFrom_60 ?_
  refine lv_iconst (v := 0) hx hb dX2_copyFrom_63 (by decide) ?_
  refine lv_aload_n hx hb dX2_copyFrom_64 rfl (lv_at hl 0 rfl) ?_
  refine va_get (D := D) (ci := 2) (v := .ref esp) (C := RX2) (T := TX2) (N := 8) hx hb ht hiX2 hown hK hP 0 rfl rfl 5 (by decide) (ht _ wb138) (fun _ h9 => h9) rfl dX2_copyFrom_65 ?_
  refine lv_iconst (v := 0) hx hb dX2_copyFrom_68 (by decide) ?_
  refine lv_bipush (v := 7) hx hb dX2_copyFrom_69 (by decide) ?_
  obtain ⟨ha2, h⟩ := zcp_in h
  refine va_copyi hx hb (hml.trans hl.1.symm) hown (ht _ wb125) (ht _ wb127) (ht _ wb126) (ht _ wb76) hK hP hD hS 22 10 0 0 rfl rfl rfl rfl rfl ha2.1 ha2.2.1 ha2.2.2.1 ha2.2.2.2.1 ha2.2.2.2.2 (fun _ _ => rfl) (Nat.le_of_ble_eq_true rfl) (by decide) dX2_copyFrom_71 (fun H locs hP hD hS => ?_)
  have hP : va_P D vwCl [(es, .inr (2, [.ref esz, .ref esr, .ref esk, .ref esf, .ref esa, .ref esp, .ref est, .int estm])), (esz, .inl (k 0, 32, .inl (va_cpy ewzo eszo (Int32.toNatClampNeg 0) (Int32.toNatClampNeg 0) (Int32.toNatClampNeg 32)))), (esr, .inr (3, [.int 12, .int 11, .ref esrc, .int r1.1])), (esrc, .inl (k 0, 132, .inl r1.2)), (esk, .inr (3, [.int 12, .int 11, .ref eskc, .int r2.1])), (eskc, .inl (k 0, 132, .inl r2.2)), (esf, .inr (3, [.int 8, .int 7, .ref esfc, .int r3.1])), (esfc, .inl (k 0, 56, .inl r3.2)), (esa, .inr (3, [.int 6, .int 5, .ref esac, .int r4.1])), (esac, .inl (k 0, 30, .inl r4.2)), (esp, .inl (k 0, 7, .inl (va_cpy ewpf espf (Int32.toNatClampNeg 0) (Int32.toNatClampNeg 0) (Int32.toNatClampNeg 7)))), (est, .inl (k 0, 6, .inl estf)), (ew, .inr (2, [.ref ewz, .ref ewr, .ref ewk, .ref ewf, .ref ewa, .ref ewp, .ref ewt, .int ewtm])), (ewz, .inl (k 0, 32, .inl ewzo)), (ewr, .inr (3, [.int 12, .int 11, .ref ewrc, .int ewrs])), (ewrc, .inl (k 0, 132, .inl ewrf)), (ewk, .inr (3, [.int 12, .int 11, .ref ewkc, .int ewks])), (ewkc, .inl (k 0, 132, .inl ewkf)), (ewf, .inr (3, [.int 8, .int 7, .ref ewfc, .int ewfs])), (ewfc, .inl (k 0, 56, .inl ewff)), (ewa, .inr (3, [.int 6, .int 5, .ref ewac, .int ewas])), (ewac, .inl (k 0, 30, .inl ewaf)), (ewp, .inl (k 0, 7, .inl ewpf)), (ewt, .inl (k 0, 6, .inl ewtf))] H := hP
  have hD : va_D A [(es, .inr (2, [.ref esz, .ref esr, .ref esk, .ref esf, .ref esa, .ref esp, .ref est, .int estm])), (esz, .inl (k 0, 32, .inl (va_cpy ewzo eszo (Int32.toNatClampNeg 0) (Int32.toNatClampNeg 0) (Int32.toNatClampNeg 32)))), (esr, .inr (3, [.int 12, .int 11, .ref esrc, .int r1.1])), (esrc, .inl (k 0, 132, .inl r1.2)), (esk, .inr (3, [.int 12, .int 11, .ref eskc, .int r2.1])), (eskc, .inl (k 0, 132, .inl r2.2)), (esf, .inr (3, [.int 8, .int 7, .ref esfc, .int r3.1])), (esfc, .inl (k 0, 56, .inl r3.2)), (esa, .inr (3, [.int 6, .int 5, .ref esac, .int r4.1])), (esac, .inl (k 0, 30, .inl r4.2)), (esp, .inl (k 0, 7, .inl (va_cpy ewpf espf (Int32.toNatClampNeg 0) (Int32.toNatClampNeg 0) (Int32.toNatClampNeg 7)))), (est, .inl (k 0, 6, .inl estf)), (ew, .inr (2, [.ref ewz, .ref ewr, .ref ewk, .ref ewf, .ref ewa, .ref ewp, .ref ewt, .int ewtm])), (ewz, .inl (k 0, 32, .inl ewzo)), (ewr, .inr (3, [.int 12, .int 11, .ref ewrc, .int ewrs])), (ewrc, .inl (k 0, 132, .inl ewrf)), (ewk, .inr (3, [.int 12, .int 11, .ref ewkc, .int ewks])), (ewkc, .inl (k 0, 132, .inl ewkf)), (ewf, .inr (3, [.int 8, .int 7, .ref ewfc, .int ewfs])), (ewfc, .inl (k 0, 56, .inl ewff)), (ewa, .inr (3, [.int 6, .int 5, .ref ewac, .int ewas])), (ewac, .inl (k 0, 30, .inl ewaf)), (ewp, .inl (k 0, 7, .inl ewpf)), (ewt, .inl (k 0, 6, .inl ewtf))] := hD
  refine lv_aload_n hx hb dX2_copyFrom_74 rfl (lv_at hl 1 rfl) ?_
  refine va_get (D := D) (ci := 2) (v := .ref ewt) (C := RX2) (T := TX2) (N := 8) hx hb ht hiX2 hown hK hP 12 rfl rfl 6 (by decide) (ht _ wb140) (fun _ h9 => h9) rfl dX2_copyFrom_75 ?_
  refine lv_iconst (v := 0) hx hb dX2_copyFrom_78 (by decide) ?_
  refine lv_aload_n hx hb dX2_copyFrom_79 rfl (lv_at hl 0 rfl) ?_
  refine va_get (D := D) (ci := 2) (v := .ref est) (C := RX2) (T := TX2) (N := 8) hx hb ht hiX2 hown hK hP 0 rfl rfl 6 (by decide) (ht _ wb140) (fun _ h9 => h9) rfl dX2_copyFrom_80 ?_
  refine lv_iconst (v := 0) hx hb dX2_copyFrom_83 (by decide) ?_
  refine lv_bipush (v := 6) hx hb dX2_copyFrom_84 (by decide) ?_
  obtain ⟨ha3, h⟩ := zcp_in h
  refine va_copyi hx hb (hml.trans hl.1.symm) hown (ht _ wb125) (ht _ wb127) (ht _ wb126) (ht _ wb76) hK hP hD hS 23 11 0 0 rfl rfl rfl rfl rfl ha3.1 ha3.2.1 ha3.2.2.1 ha3.2.2.2.1 ha3.2.2.2.2 (fun _ _ => rfl) (Nat.le_of_ble_eq_true rfl) (by decide) dX2_copyFrom_86 (fun H locs hP hD hS => ?_)
  have hP : va_P D vwCl [(es, .inr (2, [.ref esz, .ref esr, .ref esk, .ref esf, .ref esa, .ref esp, .ref est, .int estm])), (esz, .inl (k 0, 32, .inl (va_cpy ewzo eszo (Int32.toNatClampNeg 0) (Int32.toNatClampNeg 0) (Int32.toNatClampNeg 32)))), (esr, .inr (3, [.int 12, .int 11, .ref esrc, .int r1.1])), (esrc, .inl (k 0, 132, .inl r1.2)), (esk, .inr (3, [.int 12, .int 11, .ref eskc, .int r2.1])), (eskc, .inl (k 0, 132, .inl r2.2)), (esf, .inr (3, [.int 8, .int 7, .ref esfc, .int r3.1])), (esfc, .inl (k 0, 56, .inl r3.2)), (esa, .inr (3, [.int 6, .int 5, .ref esac, .int r4.1])), (esac, .inl (k 0, 30, .inl r4.2)), (esp, .inl (k 0, 7, .inl (va_cpy ewpf espf (Int32.toNatClampNeg 0) (Int32.toNatClampNeg 0) (Int32.toNatClampNeg 7)))), (est, .inl (k 0, 6, .inl (va_cpy ewtf estf (Int32.toNatClampNeg 0) (Int32.toNatClampNeg 0) (Int32.toNatClampNeg 6)))), (ew, .inr (2, [.ref ewz, .ref ewr, .ref ewk, .ref ewf, .ref ewa, .ref ewp, .ref ewt, .int ewtm])), (ewz, .inl (k 0, 32, .inl ewzo)), (ewr, .inr (3, [.int 12, .int 11, .ref ewrc, .int ewrs])), (ewrc, .inl (k 0, 132, .inl ewrf)), (ewk, .inr (3, [.int 12, .int 11, .ref ewkc, .int ewks])), (ewkc, .inl (k 0, 132, .inl ewkf)), (ewf, .inr (3, [.int 8, .int 7, .ref ewfc, .int ewfs])), (ewfc, .inl (k 0, 56, .inl ewff)), (ewa, .inr (3, [.int 6, .int 5, .ref ewac, .int ewas])), (ewac, .inl (k 0, 30, .inl ewaf)), (ewp, .inl (k 0, 7, .inl ewpf)), (ewt, .inl (k 0, 6, .inl ewtf))] H := hP
  have hD : va_D A [(es, .inr (2, [.ref esz, .ref esr, .ref esk, .ref esf, .ref esa, .ref esp, .ref est, .int estm])), (esz, .inl (k 0, 32, .inl (va_cpy ewzo eszo (Int32.toNatClampNeg 0) (Int32.toNatClampNeg 0) (Int32.toNatClampNeg 32)))), (esr, .inr (3, [.int 12, .int 11, .ref esrc, .int r1.1])), (esrc, .inl (k 0, 132, .inl r1.2)), (esk, .inr (3, [.int 12, .int 11, .ref eskc, .int r2.1])), (eskc, .inl (k 0, 132, .inl r2.2)), (esf, .inr (3, [.int 8, .int 7, .ref esfc, .int r3.1])), (esfc, .inl (k 0, 56, .inl r3.2)), (esa, .inr (3, [.int 6, .int 5, .ref esac, .int r4.1])), (esac, .inl (k 0, 30, .inl r4.2)), (esp, .inl (k 0, 7, .inl (va_cpy ewpf espf (Int32.toNatClampNeg 0) (Int32.toNatClampNeg 0) (Int32.toNatClampNeg 7)))), (est, .inl (k 0, 6, .inl (va_cpy ewtf estf (Int32.toNatClampNeg 0) (Int32.toNatClampNeg 0) (Int32.toNatClampNeg 6)))), (ew, .inr (2, [.ref ewz, .ref ewr, .ref ewk, .ref ewf, .ref ewa, .ref ewp, .ref ewt, .int ewtm])), (ewz, .inl (k 0, 32, .inl ewzo)), (ewr, .inr (3, [.int 12, .int 11, .ref ewrc, .int ewrs])), (ewrc, .inl (k 0, 132, .inl ewrf)), (ewk, .inr (3, [.int 12, .int 11, .ref ewkc, .int ewks])), (ewkc, .inl (k 0, 132, .inl ewkf)), (ewf, .inr (3, [.int 8, .int 7, .ref ewfc, .int ewfs])), (ewfc, .inl (k 0, 56, .inl ewff)), (ewa, .inr (3, [.int 6, .int 5, .ref ewac, .int ewas])), (ewac, .inl (k 0, 30, .inl ewaf)), (ewp, .inl (k 0, 7, .inl ewpf)), (ewt, .inl (k 0, 6, .inl ewtf))] := hD
  refine lv_aload_n hx hb dX2_copyFrom_89 rfl (lv_at hl 0 rfl) ?_
  refine lv_aload_n hx hb dX2_copyFrom_90 rfl (lv_at hl 1 rfl) ?_
  refine va_get (D := D) (ci := 2) (v := .int ewtm) (C := RX2) (T := TX2) (N := 8) hx hb ht hiX2 hown hK hP 12 rfl rfl 7 (by decide) (ht _ wb142) (fun _ h9 => h9) rfl dX2_copyFrom_91 ?_
  refine va_put (D := D) (ci := 2) (v := .int ewtm) (ty := .int) (C := RX2) (T := TX2) (N := 8) hx hb ht hiX2 tyX2 tyX2_ok nmX2 hown hK hP hD hS 0 rfl rfl 7 (by decide) (ht _ wb142) (fun _ h9 => h9) rfl (by decide +kernel) rfl rfl (Nat.le_of_ble_eq_true rfl) dX2_copyFrom_94 (fun H locs hP hD hS => ?_)
  have hP : va_P D vwCl [(es, .inr (2, [.ref esz, .ref esr, .ref esk, .ref esf, .ref esa, .ref esp, .ref est, .int ewtm])), (esz, .inl (k 0, 32, .inl (va_cpy ewzo eszo (Int32.toNatClampNeg 0) (Int32.toNatClampNeg 0) (Int32.toNatClampNeg 32)))), (esr, .inr (3, [.int 12, .int 11, .ref esrc, .int r1.1])), (esrc, .inl (k 0, 132, .inl r1.2)), (esk, .inr (3, [.int 12, .int 11, .ref eskc, .int r2.1])), (eskc, .inl (k 0, 132, .inl r2.2)), (esf, .inr (3, [.int 8, .int 7, .ref esfc, .int r3.1])), (esfc, .inl (k 0, 56, .inl r3.2)), (esa, .inr (3, [.int 6, .int 5, .ref esac, .int r4.1])), (esac, .inl (k 0, 30, .inl r4.2)), (esp, .inl (k 0, 7, .inl (va_cpy ewpf espf (Int32.toNatClampNeg 0) (Int32.toNatClampNeg 0) (Int32.toNatClampNeg 7)))), (est, .inl (k 0, 6, .inl (va_cpy ewtf estf (Int32.toNatClampNeg 0) (Int32.toNatClampNeg 0) (Int32.toNatClampNeg 6)))), (ew, .inr (2, [.ref ewz, .ref ewr, .ref ewk, .ref ewf, .ref ewa, .ref ewp, .ref ewt, .int ewtm])), (ewz, .inl (k 0, 32, .inl ewzo)), (ewr, .inr (3, [.int 12, .int 11, .ref ewrc, .int ewrs])), (ewrc, .inl (k 0, 132, .inl ewrf)), (ewk, .inr (3, [.int 12, .int 11, .ref ewkc, .int ewks])), (ewkc, .inl (k 0, 132, .inl ewkf)), (ewf, .inr (3, [.int 8, .int 7, .ref ewfc, .int ewfs])), (ewfc, .inl (k 0, 56, .inl ewff)), (ewa, .inr (3, [.int 6, .int 5, .ref ewac, .int ewas])), (ewac, .inl (k 0, 30, .inl ewaf)), (ewp, .inl (k 0, 7, .inl ewpf)), (ewt, .inl (k 0, 6, .inl ewtf))] H := hP
  have hD : va_D A [(es, .inr (2, [.ref esz, .ref esr, .ref esk, .ref esf, .ref esa, .ref esp, .ref est, .int ewtm])), (esz, .inl (k 0, 32, .inl (va_cpy ewzo eszo (Int32.toNatClampNeg 0) (Int32.toNatClampNeg 0) (Int32.toNatClampNeg 32)))), (esr, .inr (3, [.int 12, .int 11, .ref esrc, .int r1.1])), (esrc, .inl (k 0, 132, .inl r1.2)), (esk, .inr (3, [.int 12, .int 11, .ref eskc, .int r2.1])), (eskc, .inl (k 0, 132, .inl r2.2)), (esf, .inr (3, [.int 8, .int 7, .ref esfc, .int r3.1])), (esfc, .inl (k 0, 56, .inl r3.2)), (esa, .inr (3, [.int 6, .int 5, .ref esac, .int r4.1])), (esac, .inl (k 0, 30, .inl r4.2)), (esp, .inl (k 0, 7, .inl (va_cpy ewpf espf (Int32.toNatClampNeg 0) (Int32.toNatClampNeg 0) (Int32.toNatClampNeg 7)))), (est, .inl (k 0, 6, .inl (va_cpy ewtf estf (Int32.toNatClampNeg 0) (Int32.toNatClampNeg 0) (Int32.toNatClampNeg 6)))), (ew, .inr (2, [.ref ewz, .ref ewr, .ref ewk, .ref ewf, .ref ewa, .ref ewp, .ref ewt, .int ewtm])), (ewz, .inl (k 0, 32, .inl ewzo)), (ewr, .inr (3, [.int 12, .int 11, .ref ewrc, .int ewrs])), (ewrc, .inl (k 0, 132, .inl ewrf)), (ewk, .inr (3, [.int 12, .int 11, .ref ewkc, .int ewks])), (ewkc, .inl (k 0, 132, .inl ewkf)), (ewf, .inr (3, [.int 8, .int 7, .ref ewfc, .int ewfs])), (ewfc, .inl (k 0, 56, .inl ewff)), (ewa, .inr (3, [.int 6, .int 5, .ref ewac, .int ewas])), (ewac, .inl (k 0, 30, .inl ewaf)), (ewp, .inl (k 0, 7, .inl ewpf)), (ewt, .inl (k 0, 6, .inl ewtf))] := hD
  obtain rfl := Option.some.inj h
  exact W.vret hx hb hr (fun t ht9 hW => ⟨⟨(), rfl, trivial, zend ht9 hP⟩, hS.F ht9⟩) hS.2.2 dX2_copyFrom_97
