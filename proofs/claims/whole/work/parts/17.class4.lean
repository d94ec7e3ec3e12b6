def f_X5_zoneOf (b0 : Int32) (b1 : Int32) (b2 : Int32) (eszo : Nat → Int32) (a1 : Int32) : Option (Int32 × Int32 × Int32 × Int32) :=
  (f_X5_within  a1 0 31).bind fun r1 => if (zB r1) = 0 then ((f_X5_fails b0 b1 b2 (-2)).bind fun r2 => some (r2.1, r2.2.1, r2.2.2.1, r2.2.2.2)) else (if zok a1 32 then (some (eszo (Int32.toNatClampNeg a1), b0, b1, b2)) else none)
abbrev wk_X5_zoneOf : List Cond := Cond.code yX5_zoneOf cX5_zoneOf 2 (some .int) :: WB
abbrev rm_X5_zoneOf : Room := { frames := 1, cells := 0, slots := 0, locals := 22 }
set_option maxHeartbeats 4000000 in
set_option maxRecDepth 100000 in
theorem c_X5_zoneOf (l : Launch) (D : va_G) (k : Nat → Nat) (zq es yh tx gp gq esz esr esk esf esa esp est : Nat) (b0 : Int32) (b1 : Int32) (b2 : Int32) (estm : Int32) (eszo : Nat → Int32) (a1 : Int32) {res : Int32 × Int32 × Int32 × Int32} (h : f_X5_zoneOf b0 b1 b2 eszo a1 = some res) : Ci l yX5_zoneOf wk_X5_zoneOf rm_X5_zoneOf D k [.ref zq, .int a1] [(zq, .inr (5, [.ref es, .ref yh, .ref tx, .ref gp, .ref gq, .int b0, .int b1, .int b2])), (es, .inr (2, [.ref esz, .ref esr, .ref esk, .ref esf, .ref esa, .ref esp, .ref est, .int estm])), (esz, .inl (k 0, 32, .inl eszo))] [(zq, .inr (5, [.ref es, .ref yh, .ref tx, .ref gp, .ref gq, .int res.2.1, .int res.2.2.1, .int res.2.2.2])), (es, .inr (2, [.ref esz, .ref esr, .ref esk, .ref esf, .ref esa, .ref esp, .ref est, .int estm])), (esz, .inl (k 0, 32, .inl eszo))] res.1 := by
  unfold Ci
  intro sz
  refine Met.ofW (cc := cX5_zoneOf) (maxL := 2) (ret := (some .int)) (by decide) rfl ?_
  intro p e s m args below meth c s₁ B hml hv
  obtain ⟨rfl, hsz, hP, hK, hD0, hm⟩ := hv
  have hx := B.exec
  have hb := B.bytes
  have hr := B.returns
  have ht : ∀ w ∈ WB, w.before _ s = true := fun w hw => atoms_spec (ws := wk_X5_zoneOf) B.pre w (List.mem_cons_of_mem _ hw)
  have hown : s.vm.findClass RX5 = some m.cls := findClass_of_methodNamed B.named
  have hlocks := B.notSynchronized
  subst hsz
  have hD := hD0.self (sz := s.heap.size)
  generalize hAe : va_A [(zq, .inr (5, [.ref es, .ref yh, .ref tx, .ref gp, .ref gq, .int b0, .int b1, .int b2])), (es, .inr (2, [.ref esz, .ref esr, .ref esk, .ref esf, .ref esa, .ref esp, .ref est, .int estm])), (esz, .inl (k 0, 32, .inl eszo))] s.heap.size = A at hD hm ⊢
  have hA : ∀ q : Nat, s.heap.size ≤ q → A q := fun q h => by rw [← hAe]; exact Or.inr h
  have hS : va_S A s.heap s.heap [] := va_S.rf
  have hl := lv_entry ([.ref zq, .int a1]) (n := 2) (Nat.le_of_ble_eq_true rfl)
  rw [lg_entry_eq]
  generalize (lg_sl ([.ref zq, .int a1]) ++ List.replicate (2 - (lg_sl ([.ref zq, .int a1])).length) Slot.unset).toArray = ls at hl ⊢
  have hl : lv_has ls 2 [(0, .ref zq), (1, .int a1)] := hl
  obtain ⟨H, hH⟩ : ∃ H, H = s.heap := ⟨_, rfl⟩
  rw [← hH] at hP
  have hS : va_S A s.heap H [] := by rw [hH]; exact hS
  suffices hgo : W p l e _ s m _ below meth c H [] 0 0 _ _ by rw [hH] at hgo; exact hgo
  unfold f_X5_zoneOf at h
  refine lv_iload_n hx hb dX5_zoneOf_0 rfl (lv_at hl 1 rfl) ?_
  refine lv_iconst (v := 0) hx hb dX5_zoneOf_1 (by decide) ?_
  refine lv_bipush (v := 31) hx hb dX5_zoneOf_2 (by decide) ?_
  obtain ⟨r1, h1, h⟩ := zb h
  refine zi (zrS (As := [.int a1, .int 0, .int 31]) (rest := []) ⟨hx, hb, hml, hown, ht⟩ (c_X5_within l D k   a1 0 31 h1 _) (va_cwS 3 ht (gdS wb268 wb269 wb72 wb270) rfl rfl rfl (by decide +kernel) ⟨Nat.le_of_ble_eq_true rfl, Nat.le_of_ble_eq_true rfl⟩) hK hP hD hS hA hm [] rfl rfl rfl hl.1 rfl (Nat.le_of_ble_eq_true rfl) dX5_zoneOf_4 ⟨Nat.le_refl _, Nat.le_refl _⟩) hP hD hS hA [] rfl rfl (fun H locs hP hD hS => ?_)
  have hP : va_P D vwCl [(zq, .inr (5, [.ref es, .ref yh, .ref tx, .ref gp, .ref gq, .int b0, .int b1, .int b2])), (es, .inr (2, [.ref esz, .ref esr, .ref esk, .ref esf, .ref esa, .ref esp, .ref est, .int estm])), (esz, .inl (k 0, 32, .inl eszo))] H := hP
  have hD : va_D A [(zq, .inr (5, [.ref es, .ref yh, .ref tx, .ref gp, .ref gq, .int b0, .int b1, .int b2])), (es, .inr (2, [.ref esz, .ref esr, .ref esk, .ref esf, .ref esa, .ref esp, .ref est, .int estm])), (esz, .inl (k 0, 32, .inl eszo))] := hD
  refine lv_if_ne (tgt := 17) hx hb dX5_zoneOf_7 (by decide) (fun c1 => ?_) (fun c1 => ?_)
  · have h := zf h c1
    refine lv_aload_n hx hb dX5_zoneOf_17 rfl (lv_at hl 0 rfl) ?_
    refine va_get (D := D) (ci := 5) (v := .ref es) (C := RX5) (T := TX5) (N := 8) hx hb ht hiX5 hown hK hP 0 rfl rfl 0 (by decide) (ht _ wb239) (fun _ h9 => h9) rfl dX5_zoneOf_18 ?_
    refine va_getN (D := D) (ci := 2) (v := .ref esz) (C := RX2) (T := TX2) (N := 8) hx hb ht hiX2 hown hK hP 1 rfl rfl 0 (by decide) (va_Nw.use rfl (hm.1 _ (List.mem_of_getElem? (i := 1) rfl))) (fun _ h9 => h9) rfl dX5_zoneOf_21 ?_
    refine lv_iload_n hx hb dX5_zoneOf_24 rfl (lv_at hl 1 rfl) ?_
    obtain ⟨hi1, h⟩ := zg h
    refine va_iald hx hb hK hP 2 0 rfl rfl hi1 dX5_zoneOf_25 ?_
    obtain rfl := Option.some.inj h
    exact W.iret (v := eszo (Int32.toNatClampNeg a1)) hx hb hr (fun t ht9 hW => ⟨⟨_, (), rfl, rfl, zend ht9 hP⟩, hS.F ht9⟩) hS.2.2 dX5_zoneOf_26
  · have h := zt h c1
    refine lv_aload_n hx hb dX5_zoneOf_10 rfl (lv_at hl 0 rfl) ?_
    refine lv_bipush (v := (-2)) hx hb dX5_zoneOf_11 (by decide) ?_
    obtain ⟨r2, h2, h⟩ := zb h
    refine zi (zrV (C := RX5) (T := TX5) (N := 8) (As := [.int (-2)]) (rest := []) ⟨hx, hb, hml, hown, ht⟩ (c_X5_fails l D k zq es yh tx gp gq b0 b1 b2 (-2) h2 _) (cwV 1 ht (gdV wb271 wb273 wb0 wb72 wb274) rfl rfl rfl (by decide +kernel) ⟨Nat.le_of_ble_eq_true rfl, Nat.le_of_ble_eq_true rfl⟩) hK hP hD hS hA hm [0] rfl rfl 0 5 rfl rfl rfl hl.1 rfl (Nat.le_of_ble_eq_true rfl) dX5_zoneOf_13 ⟨Nat.le_refl _, Nat.le_refl _⟩) hP hD hS hA [0] rfl rfl (fun H locs hP hD hS => ?_)
    have hP : va_P D vwCl [(zq, .inr (5, [.ref es, .ref yh, .ref tx, .ref gp, .ref gq, .int r2.2.1, .int r2.2.2.1, .int r2.2.2.2])), (es, .inr (2, [.ref esz, .ref esr, .ref esk, .ref esf, .ref esa, .ref esp, .ref est, .int estm])), (esz, .inl (k 0, 32, .inl eszo))] H := hP
    have hD : va_D A [(zq, .inr (5, [.ref es, .ref yh, .ref tx, .ref gp, .ref gq, .int r2.2.1, .int r2.2.2.1, .int r2.2.2.2])), (es, .inr (2, [.ref esz, .ref esr, .ref esk, .ref esf, .ref esa, .ref esp, .ref est, .int estm])), (esz, .inl (k 0, 32, .inl eszo))] := hD
    obtain rfl := Option.some.inj h
    exact W.iret (v := r2.1) hx hb hr (fun t ht9 hW => ⟨⟨_, (), rfl, rfl, zend ht9 hP⟩, hS.F ht9⟩) hS.2.2 dX5_zoneOf_16
def f_X5_of (b0 : Int32) (b1 : Int32) (b2 : Int32) (esrs : Int32) (esrf : Nat → Int32) (a1 : Int32) (a2 : Int32) : Option (Int32 × Int32 × Int32 × Int32) :=
  (f_X5_isRule esrs a1).bind fun r1 => if (zB r1) = 0 then ((f_X5_fails b0 b1 b2 (-2)).bind fun r2 => some (r2.1, r2.2.1, r2.2.2.1, r2.2.2.2)) else ((f_X5_within  a2 0 10).bind fun r3 => if (zB r3) = 0 then ((f_X5_fails b0 b1 b2 (-2)).bind fun r5 => some (r5.1, r5.2.1, r5.2.2.1, r5.2.2.2)) else ((f_X3_get 11 esrs 132 esrf a1 a2).bind fun r4 => some (r4, b0, b1, b2)))
abbrev wk_X5_of : List Cond := Cond.code yX5_of cX5_of 3 (some .int) :: WB
abbrev rm_X5_of : Room := { frames := 2, cells := 0, slots := 0, locals := 44 }
set_option maxHeartbeats 4000000 in
set_option maxRecDepth 100000 in
theorem c_X5_of (l : Launch) (D : va_G) (k : Nat → Nat) (zq es yh tx gp gq esz esr esk esf esa esp est esrc : Nat) (b0 : Int32) (b1 : Int32) (b2 : Int32) (estm : Int32) (esrs : Int32) (esrf : Nat → Int32) (a1 : Int32) (a2 : Int32) {res : Int32 × Int32 × Int32 × Int32} (h : f_X5_of b0 b1 b2 esrs esrf a1 a2 = some res) : Ci l yX5_of wk_X5_of rm_X5_of D k [.ref zq, .int a1, .int a2] [(zq, .inr (5, [.ref es, .ref yh, .ref tx, .ref gp, .ref gq, .int b0, .int b1, .int b2])), (es, .inr (2, [.ref esz, .ref esr, .ref esk, .ref esf, .ref esa, .ref esp, .ref est, .int estm])), (esr, .inr (3, [.int 12, .int 11, .ref esrc, .int esrs])), (esrc, .inl (k 0, 132, .inl esrf))] [(zq, .inr (5, [.ref es, .ref yh, .ref tx, .ref gp, .ref gq, .int res.2.1, .int res.2.2.1, .int res.2.2.2])), (es, .inr (2, [.ref esz, .ref esr, .ref esk, .ref esf, .ref esa, .ref esp, .ref est, .int estm])), (esr, .inr (3, [.int 12, .int 11, .ref esrc, .int esrs])), (esrc, .inl (k 0, 132, .inl esrf))] res.1 := by
  unfold Ci
  intro sz
  refine Met.ofW (cc := cX5_of) (maxL := 3) (ret := (some .int)) (by decide) rfl ?_
  intro p e s m args below meth c s₁ B hml hv
  obtain ⟨rfl, hsz, hP, hK, hD0, hm⟩ := hv
  have hx := B.exec
  have hb := B.bytes
  have hr := B.returns
  have ht : ∀ w ∈ WB, w.before _ s = true := fun w hw => atoms_spec (ws := wk_X5_of) B.pre w (List.mem_cons_of_mem _ hw)
  have hown : s.vm.findClass RX5 = some m.cls := findClass_of_methodNamed B.named
  have hlocks := B.notSynchronized
  subst hsz
  have hD := hD0.self (sz := s.heap.size)
  generalize hAe : va_A [(zq, .inr (5, [.ref es, .ref yh, .ref tx, .ref gp, .ref gq, .int b0, .int b1, .int b2])), (es, .inr (2, [.ref esz, .ref esr, .ref esk, .ref esf, .ref esa, .ref esp, .ref est, .int estm])), (esr, .inr (3, [.int 12, .int 11, .ref esrc, .int esrs])), (esrc, .inl (k 0, 132, .inl esrf))] s.heap.size = A at hD hm ⊢
  have hA : ∀ q : Nat, s.heap.size ≤ q → A q := fun q h => by rw [← hAe]; exact Or.inr h
  have hS : va_S A s.heap s.heap [] := va_S.rf
  have hl := lv_entry ([.ref zq, .int a1, .int a2]) (n := 3) (Nat.le_of_ble_eq_true rfl)
  rw [lg_entry_eq]
  generalize (lg_sl ([.ref zq, .int a1, .int a2]) ++ List.replicate (3 - (lg_sl ([.ref zq, .int a1, .int a2])).length) Slot.unset).toArray = ls at hl ⊢
  have hl : lv_has ls 3 [(0, .ref zq), (1, .int a1), (2, .int a2)] := hl
  obtain ⟨H, hH⟩ : ∃ H, H = s.heap := ⟨_, rfl⟩
  rw [← hH] at hP
  have hS : va_S A s.heap H [] := by rw [hH]; exact hS
  suffices hgo : W p l e _ s m _ below meth c H [] 0 0 _ _ by rw [hH] at hgo; exact hgo
  unfold f_X5_of at h
  refine lv_aload_n hx hb dX5_of_0 rfl (lv_at hl 0 rfl) ?_
  refine lv_iload_n hx hb dX5_of_1 rfl (lv_at hl 1 rfl) ?_
  obtain ⟨r1, h1, h⟩ := zb h
  refine zi (zrV (C := RX5) (T := TX5) (N := 8) (As := [.int a1]) (rest := []) ⟨hx, hb, hml, hown, ht⟩ (c_X5_isRule l D k zq es yh tx gp gq esz esr esk esf esa esp est esrc b0 b1 b2 estm esrs esrf a1 h1 _) (cwV 1 ht (gdV wb334 wb336 wb3 wb72 wb337) rfl rfl rfl (by decide +kernel) ⟨Nat.le_of_ble_eq_true rfl, Nat.le_of_ble_eq_true rfl⟩) hK hP hD hS hA hm [0, 1, 2, 3] rfl rfl 0 5 rfl rfl rfl hl.1 rfl (Nat.le_of_ble_eq_true rfl) dX5_of_2 ⟨Nat.le_refl _, Nat.le_refl _⟩) hP hD hS hA [0, 1, 2, 3] rfl rfl (fun H locs hP hD hS => ?_)
  have hP : va_P D vwCl [(zq, .inr (5, [.ref es, .ref yh, .ref tx, .ref gp, .ref gq, .int b0, .int b1, .int b2])), (es, .inr (2, [.ref esz, .ref esr, .ref esk, .ref esf, .ref esa, .ref esp, .ref est, .int estm])), (esr, .inr (3, [.int 12, .int 11, .ref esrc, .int esrs])), (esrc, .inl (k 0, 132, .inl esrf))] H := hP
  have hD : va_D A [(zq, .inr (5, [.ref es, .ref yh, .ref tx, .ref gp, .ref gq, .int b0, .int b1, .int b2])), (es, .inr (2, [.ref esz, .ref esr, .ref esk, .ref esf, .ref esa, .ref esp, .ref est, .int estm])), (esr, .inr (3, [.int 12, .int 11, .ref esrc, .int esrs])), (esrc, .inl (k 0, 132, .inl esrf))] := hD
  refine lv_if_eq (tgt := 18) hx hb dX5_of_5 (by decide) (fun c2 => ?_) (fun c2 => ?_)
  · have h := zt h c2
    refine lv_aload_n hx hb dX5_of_18 rfl (lv_at hl 0 rfl) ?_
    refine lv_bipush (v := (-2)) hx hb dX5_of_19 (by decide) ?_
    obtain ⟨r2, h2, h⟩ := zb h
    refine zi (zrV (C := RX5) (T := TX5) (N := 8) (As := [.int (-2)]) (rest := []) ⟨hx, hb, hml, hown, ht⟩ (c_X5_fails l D k zq es yh tx gp gq b0 b1 b2 (-2) h2 _) (cwV 1 ht (gdV wb271 wb273 wb0 wb72 wb274) rfl rfl rfl (by decide +kernel) ⟨Nat.le_of_ble_eq_true rfl, Nat.le_of_ble_eq_true rfl⟩) hK hP hD hS hA hm [0] rfl rfl 0 5 rfl rfl rfl hl.1 rfl (Nat.le_of_ble_eq_true rfl) dX5_of_21 ⟨Nat.le_refl _, Nat.le_refl _⟩) hP hD hS hA [0] rfl rfl (fun H locs hP hD hS => ?_)
    have hP : va_P D vwCl [(zq, .inr (5, [.ref es, .ref yh, .ref tx, .ref gp, .ref gq, .int r2.2.1, .int r2.2.2.1, .int r2.2.2.2])), (es, .inr (2, [.ref esz, .ref esr, .ref esk, .ref esf, .ref esa, .ref esp, .ref est, .int estm])), (esr, .inr (3, [.int 12, .int 11, .ref esrc, .int esrs])), (esrc, .inl (k 0, 132, .inl esrf))] H := hP
    have hD : va_D A [(zq, .inr (5, [.ref es, .ref yh, .ref tx, .ref gp, .ref gq, .int r2.2.1, .int r2.2.2.1, .int r2.2.2.2])), (es, .inr (2, [.ref esz, .ref esr, .ref esk, .ref esf, .ref esa, .ref esp, .ref est, .int estm])), (esr, .inr (3, [.int 12, .int 11, .ref esrc, .int esrs])), (esrc, .inl (k 0, 132, .inl esrf))] := hD
    obtain rfl := Option.some.inj h
    exact W.iret (v := r2.1) hx hb hr (fun t ht9 hW => ⟨⟨_, (), rfl, rfl, zend ht9 hP⟩, hS.F ht9⟩) hS.2.2 dX5_of_24
  · have h := zf h c2
    refine lv_iload_n hx hb dX5_of_8 rfl (lv_at hl 2 rfl) ?_
    refine lv_iconst (v := 0) hx hb dX5_of_9 (by decide) ?_
    refine lv_bipush (v := 10) hx hb dX5_of_10 (by decide) ?_
    obtain ⟨r3, h3, h⟩ := zb h
    refine zi (zrS (As := [.int a2, .int 0, .int 10]) (rest := []) ⟨hx, hb, hml, hown, ht⟩ (c_X5_within l D k   a2 0 10 h3 _) (va_cwS 3 ht (gdS wb268 wb269 wb72 wb270) rfl rfl rfl (by decide +kernel) ⟨Nat.le_of_ble_eq_true rfl, Nat.le_of_ble_eq_true rfl⟩) hK hP hD hS hA hm [] rfl rfl rfl hl.1 rfl (Nat.le_of_ble_eq_true rfl) dX5_of_12 ⟨Nat.le_refl _, Nat.le_refl _⟩) hP hD hS hA [] rfl rfl (fun H locs hP hD hS => ?_)
    have hP : va_P D vwCl [(zq, .inr (5, [.ref es, .ref yh, .ref tx, .ref gp, .ref gq, .int b0, .int b1, .int b2])), (es, .inr (2, [.ref esz, .ref esr, .ref esk, .ref esf, .ref esa, .ref esp, .ref est, .int estm])), (esr, .inr (3, [.int 12, .int 11, .ref esrc, .int esrs])), (esrc, .inl (k 0, 132, .inl esrf))] H := hP
    have hD : va_D A [(zq, .inr (5, [.ref es, .ref yh, .ref tx, .ref gp, .ref gq, .int b0, .int b1, .int b2])), (es, .inr (2, [.ref esz, .ref esr, .ref esk, .ref esf, .ref esa, .ref esp, .ref est, .int estm])), (esr, .inr (3, [.int 12, .int 11, .ref esrc, .int esrs])), (esrc, .inl (k 0, 132, .inl esrf))] := hD
    refine lv_if_ne (tgt := 25) hx hb dX5_of_15 (by decide) (fun c1 => ?_) (fun c1 => ?_)
    · have h := zf h c1
      refine lv_aload_n hx hb dX5_of_25 rfl (lv_at hl 0 rfl) ?_
      refine va_get (D := D) (ci := 5) (v := .ref es) (C := RX5) (T := TX5) (N := 8) hx hb ht hiX5 hown hK hP 0 rfl rfl 0 (by decide) (ht _ wb239) (fun _ h9 => h9) rfl dX5_of_26 ?_
      refine va_getN (D := D) (ci := 2) (v := .ref esr) (C := RX2) (T := TX2) (N := 8) hx hb ht hiX2 hown hK hP 1 rfl rfl 1 (by decide) (va_Nw.use rfl (hm.1 _ (List.mem_of_getElem? (i := 2) rfl))) (fun _ h9 => h9) rfl dX5_of_29 ?_
      refine lv_iload_n hx hb dX5_of_32 rfl (lv_at hl 1 rfl) ?_
      refine lv_iload_n hx hb dX5_of_33 rfl (lv_at hl 2 rfl) ?_
      obtain ⟨r4, h4, h⟩ := zb h
      refine zi (zrV (C := RX3) (T := TX3) (N := 4) (As := [.int a1, .int a2]) (rest := []) ⟨hx, hb, hml, hown, ht⟩ (c_X3_get l D k esr esrc 12 11 esrs 132 esrf a1 a2 h4 _) (cwV 2 ht (gdV wb343 wb344 wb345 wb74 wb346) rfl rfl rfl (by decide +kernel) ⟨Nat.le_of_ble_eq_true rfl, Nat.le_of_ble_eq_true rfl⟩) hK hP hD hS hA hm [2, 3] rfl rfl 2 3 rfl rfl rfl hl.1 rfl (Nat.le_of_ble_eq_true rfl) dX5_of_34 ⟨Nat.le_refl _, Nat.le_refl _⟩) hP hD hS hA [2, 3] rfl rfl (fun H locs hP hD hS => ?_)
      have hP : va_P D vwCl [(zq, .inr (5, [.ref es, .ref yh, .ref tx, .ref gp, .ref gq, .int b0, .int b1, .int b2])), (es, .inr (2, [.ref esz, .ref esr, .ref esk, .ref esf, .ref esa, .ref esp, .ref est, .int estm])), (esr, .inr (3, [.int 12, .int 11, .ref esrc, .int esrs])), (esrc, .inl (k 0, 132, .inl esrf))] H := hP
      have hD : va_D A [(zq, .inr (5, [.ref es, .ref yh, .ref tx, .ref gp, .ref gq, .int b0, .int b1, .int b2])), (es, .inr (2, [.ref esz, .ref esr, .ref esk, .ref esf, .ref esa, .ref esp, .ref est, .int estm])), (esr, .inr (3, [.int 12, .int 11, .ref esrc, .int esrs])), (esrc, .inl (k 0, 132, .inl esrf))] := hD
      obtain rfl := Option.some.inj h
      exact W.iret (v := r4) hx hb hr (fun t ht9 hW => ⟨⟨_, (), rfl, rfl, zend ht9 hP⟩, hS.F ht9⟩) hS.2.2 dX5_of_37
    · have h := zt h c1
      refine lv_aload_n hx hb dX5_of_18 rfl (lv_at hl 0 rfl) ?_
      refine lv_bipush (v := (-2)) hx hb dX5_of_19 (by decide) ?_
      obtain ⟨r5, h5, h⟩ := zb h
      refine zi (zrV (C := RX5) (T := TX5) (N := 8) (As := [.int (-2)]) (rest := []) ⟨hx, hb, hml, hown, ht⟩ (c_X5_fails l D k zq es yh tx gp gq b0 b1 b2 (-2) h5 _) (cwV 1 ht (gdV wb271 wb273 wb0 wb72 wb274) rfl rfl rfl (by decide +kernel) ⟨Nat.le_of_ble_eq_true rfl, Nat.le_of_ble_eq_true rfl⟩) hK hP hD hS hA hm [0] rfl rfl 0 5 rfl rfl rfl hl.1 rfl (Nat.le_of_ble_eq_true rfl) dX5_of_21 ⟨Nat.le_refl _, Nat.le_refl _⟩) hP hD hS hA [0] rfl rfl (fun H locs hP hD hS => ?_)
      have hP : va_P D vwCl [(zq, .inr (5, [.ref es, .ref yh, .ref tx, .ref gp, .ref gq, .int r5.2.1, .int r5.2.2.1, .int r5.2.2.2])), (es, .inr (2, [.ref esz, .ref esr, .ref esk, .ref esf, .ref esa, .ref esp, .ref est, .int estm])), (esr, .inr (3, [.int 12, .int 11, .ref esrc, .int esrs])), (esrc, .inl (k 0, 132, .inl esrf))] H := hP
      have hD : va_D A [(zq, .inr (5, [.ref es, .ref yh, .ref tx, .ref gp, .ref gq, .int r5.2.1, .int r5.2.2.1, .int r5.2.2.2])), (es, .inr (2, [.ref esz, .ref esr, .ref esk, .ref esf, .ref esa, .ref esp, .ref est, .int estm])), (esr, .inr (3, [.int 12, .int 11, .ref esrc, .int esrs])), (esrc, .inl (k 0, 132, .inl esrf))] := hD
      obtain rfl := Option.some.inj h
      exact W.iret (v := r5.1) hx hb hr (fun t ht9 hW => ⟨⟨_, (), rfl, rfl, zend ht9 hP⟩, hS.F ht9⟩) hS.2.2 dX5_of_24
def f_X5_decides (fu : Nat) (b0 : Int32) (b1 : Int32) (b2 : Int32) (eszo : Nat → Int32) (esrs : Int32) (esrf : Nat → Int32) (a1 : Int32) (a2 : Int32) (a3 : Int32) (a4 : Int32) : Option (Int32 × Int32 × Int32 × Int32) :=
  (f_X5_isCase  a1 a2 a3 a4).bind fun r1 => if (zB r1) = 0 then ((f_X5_fails b0 b1 b2 (-2)).bind fun r3 => some (r3.1, r3.2.1, r3.2.2.1, r3.2.2.2)) else ((f_X2_ruleFor fu eszo 11 esrs 132 esrf a1 a2 a3 a4).bind fun r2 => some (r2, b0, b1, b2))
abbrev wk_X5_decides : List Cond := Cond.code yX5_decides cX5_decides 5 (some .int) :: WB
abbrev rm_X5_decides : Room := { frames := 4, cells := 0, slots := 0, locals := 99 }
set_option maxHeartbeats 4000000 in
set_option maxRecDepth 100000 in
theorem c_X5_decides (l : Launch) (D : va_G) (k : Nat → Nat) (zq es yh tx gp gq esz esr esk esf esa esp est esrc : Nat) (b0 : Int32) (b1 : Int32) (b2 : Int32) (estm : Int32) (eszo : Nat → Int32) (esrs : Int32) (esrf : Nat → Int32) (a1 : Int32) (a2 : Int32) (a3 : Int32) (a4 : Int32) (fu : Nat) {res : Int32 × Int32 × Int32 × Int32} (h : f_X5_decides fu b0 b1 b2 eszo esrs esrf a1 a2 a3 a4 = some res) : Ci l yX5_decides wk_X5_decides rm_X5_decides D k [.ref zq, .int a1, .int a2, .int a3, .int a4] [(zq, .inr (5, [.ref es, .ref yh, .ref tx, .ref gp, .ref gq, .int b0, .int b1, .int b2])), (es, .inr (2, [.ref esz, .ref esr, .ref esk, .ref esf, .ref esa, .ref esp, .ref est, .int estm])), (esz, .inl (k 0, 32, .inl eszo)), (esr, .inr (3, [.int 12, .int 11, .ref esrc, .int esrs])), (esrc, .inl (k 0, 132, .inl esrf))] [(zq, .inr (5, [.ref es, .ref yh, .ref tx, .ref gp, .ref gq, .int res.2.1, .int res.2.2.1, .int res.2.2.2])), (es, .inr (2, [.ref esz, .ref esr, .ref esk, .ref esf, .ref esa, .ref esp, .ref est, .int estm])), (esz, .inl (k 0, 32, .inl eszo)), (esr, .inr (3, [.int 12, .int 11, .ref esrc, .int esrs])), (esrc, .inl (k 0, 132, .inl esrf))] res.1 := by
  unfold Ci
  intro sz
  refine Met.ofW (cc := cX5_decides) (maxL := 5) (ret := (some .int)) (by decide) rfl ?_
  intro p e s m args below meth c s₁ B hml hv
  obtain ⟨rfl, hsz, hP, hK, hD0, hm⟩ := hv
  have hx := B.exec
  have hb := B.bytes
  have hr := B.returns
  have ht : ∀ w ∈ WB, w.before _ s = true := fun w hw => atoms_spec (ws := wk_X5_decides) B.pre w (List.mem_cons_of_mem _ hw)
  have hown : s.vm.findClass RX5 = some m.cls := findClass_of_methodNamed B.named
  have hlocks := B.notSynchronized
  subst hsz
  have hD := hD0.self (sz := s.heap.size)
  generalize hAe : va_A [(zq, .inr (5, [.ref es, .ref yh, .ref tx, .ref gp, .ref gq, .int b0, .int b1, .int b2])), (es, .inr (2, [.ref esz, .ref esr, .ref esk, .ref esf, .ref esa, .ref esp, .ref est, .int estm])), (esz, .inl (k 0, 32, .inl eszo)), (esr, .inr (3, [.int 12, .int 11, .ref esrc, .int esrs])), (esrc, .inl (k 0, 132, .inl esrf))] s.heap.size = A at hD hm ⊢
  have hA : ∀ q : Nat, s.heap.size ≤ q → A q := fun q h => by rw [← hAe]; exact Or.inr h
  have hS : va_S A s.heap s.heap [] := va_S.rf
  have hl := lv_entry ([.ref zq, .int a1, .int a2, .int a3, .int a4]) (n := 5) (Nat.le_of_ble_eq_true rfl)
  rw [lg_entry_eq]
  generalize (lg_sl ([.ref zq, .int a1, .int a2, .int a3, .int a4]) ++ List.replicate (5 - (lg_sl ([.ref zq, .int a1, .int a2, .int a3, .int a4])).length) Slot.unset).toArray = ls at hl ⊢
  have hl : lv_has ls 5 [(0, .ref zq), (1, .int a1), (2, .int a2), (3, .int a3), (4, .int a4)] := hl
  obtain ⟨H, hH⟩ : ∃ H, H = s.heap := ⟨_, rfl⟩
  rw [← hH] at hP
  have hS : va_S A s.heap H [] := by rw [hH]; exact hS
  suffices hgo : W p l e _ s m _ below meth c H [] 0 0 _ _ by rw [hH] at hgo; exact hgo
  unfold f_X5_decides at h
  refine lv_iload_n hx hb dX5_decides_0 rfl (lv_at hl 1 rfl) ?_
  refine lv_iload_n hx hb dX5_decides_1 rfl (lv_at hl 2 rfl) ?_
  refine lv_iload_n hx hb dX5_decides_2 rfl (lv_at hl 3 rfl) ?_
  refine lv_iload hx hb dX5_decides_3 (lv_at hl 4 rfl) ?_
  obtain ⟨r1, h1, h⟩ := zb h
  refine zi (zrS (As := [.int a1, .int a2, .int a3, .int a4]) (rest := []) ⟨hx, hb, hml, hown, ht⟩ (c_X5_isCase l D k   a1 a2 a3 a4 h1 _) (va_cwS 4 ht (gdS wb385 wb386 wb72 wb387) rfl rfl rfl (by decide +kernel) ⟨Nat.le_of_ble_eq_true rfl, Nat.le_of_ble_eq_true rfl⟩) hK hP hD hS hA hm [] rfl rfl rfl hl.1 rfl (Nat.le_of_ble_eq_true rfl) dX5_decides_5 ⟨Nat.le_refl _, Nat.le_refl _⟩) hP hD hS hA [] rfl rfl (fun H locs hP hD hS => ?_)
  have hP : va_P D vwCl [(zq, .inr (5, [.ref es, .ref yh, .ref tx, .ref gp, .ref gq, .int b0, .int b1, .int b2])), (es, .inr (2, [.ref esz, .ref esr, .ref esk, .ref esf, .ref esa, .ref esp, .ref est, .int estm])), (esz, .inl (k 0, 32, .inl eszo)), (esr, .inr (3, [.int 12, .int 11, .ref esrc, .int esrs])), (esrc, .inl (k 0, 132, .inl esrf))] H := hP
  have hD : va_D A [(zq, .inr (5, [.ref es, .ref yh, .ref tx, .ref gp, .ref gq, .int b0, .int b1, .int b2])), (es, .inr (2, [.ref esz, .ref esr, .ref esk, .ref esf, .ref esa, .ref esp, .ref est, .int estm])), (esz, .inl (k 0, 32, .inl eszo)), (esr, .inr (3, [.int 12, .int 11, .ref esrc, .int esrs])), (esrc, .inl (k 0, 132, .inl esrf))] := hD
  refine lv_if_ne (tgt := 18) hx hb dX5_decides_8 (by decide) (fun c1 => ?_) (fun c1 => ?_)
  · have h := zf h c1
    refine lv_aload_n hx hb dX5_decides_18 rfl (lv_at hl 0 rfl) ?_
    refine va_get (D := D) (ci := 5) (v := .ref es) (C := RX5) (T := TX5) (N := 8) hx hb ht hiX5 hown hK hP 0 rfl rfl 0 (by decide) (ht _ wb239) (fun _ h9 => h9) rfl dX5_decides_19 ?_
    refine lv_aload_n hx hb dX5_decides_22 rfl (lv_at hl 0 rfl) ?_
    refine va_get (D := D) (ci := 5) (v := .ref es) (C := RX5) (T := TX5) (N := 8) hx hb ht hiX5 hown hK hP 0 rfl rfl 0 (by decide) (ht _ wb239) (fun _ h9 => h9) rfl dX5_decides_23 ?_
    refine va_getN (D := D) (ci := 2) (v := .ref esr) (C := RX2) (T := TX2) (N := 8) hx hb ht hiX2 hown hK hP 1 rfl rfl 1 (by decide) (va_Nw.use rfl (hm.1 _ (List.mem_of_getElem? (i := 2) rfl))) (fun _ h9 => h9) rfl dX5_decides_26 ?_
    refine lv_iload_n hx hb dX5_decides_29 rfl (lv_at hl 1 rfl) ?_
    refine lv_iload_n hx hb dX5_decides_30 rfl (lv_at hl 2 rfl) ?_
    refine lv_iload_n hx hb dX5_decides_31 rfl (lv_at hl 3 rfl) ?_
    refine lv_iload hx hb dX5_decides_32 (lv_at hl 4 rfl) ?_
    obtain ⟨r2, h2, h⟩ := zb h
    refine zi (zrV (C := RX2) (T := TX2) (N := 8) (As := [.ref esr, .int a1, .int a2, .int a3, .int a4]) (rest := []) ⟨hx, hb, hml, hown, ht⟩ (c_X2_ruleFor l D k es esz esr esk esf esa esp est esr esrc estm eszo 12 11 esrs 132 esrf a1 a2 a3 a4 fu h2 _) (cwV 5 ht (gdV wb388 wb389 wb390 wb73 wb391) rfl rfl rfl (by decide +kernel) ⟨Nat.le_of_ble_eq_true rfl, Nat.le_of_ble_eq_true rfl⟩) hK hP hD hS hA hm [1, 2, 3, 4] rfl rfl 1 2 rfl rfl rfl hl.1 rfl (Nat.le_of_ble_eq_true rfl) dX5_decides_34 ⟨Nat.le_refl _, Nat.le_refl _⟩) hP hD hS hA [1, 2, 3, 4] rfl rfl (fun H locs hP hD hS => ?_)
    have hP : va_P D vwCl [(zq, .inr (5, [.ref es, .ref yh, .ref tx, .ref gp, .ref gq, .int b0, .int b1, .int b2])), (es, .inr (2, [.ref esz, .ref esr, .ref esk, .ref esf, .ref esa, .ref esp, .ref est, .int estm])), (esz, .inl (k 0, 32, .inl eszo)), (esr, .inr (3, [.int 12, .int 11, .ref esrc, .int esrs])), (esrc, .inl (k 0, 132, .inl esrf))] H := hP
    have hD : va_D A [(zq, .inr (5, [.ref es, .ref yh, .ref tx, .ref gp, .ref gq, .int b0, .int b1, .int b2])), (es, .inr (2, [.ref esz, .ref esr, .ref esk, .ref esf, .ref esa, .ref esp, .ref est, .int estm])), (esz, .inl (k 0, 32, .inl eszo)), (esr, .inr (3, [.int 12, .int 11, .ref esrc, .int esrs])), (esrc, .inl (k 0, 132, .inl esrf))] := hD
    obtain rfl := Option.some.inj h
    exact W.iret (v := r2) hx hb hr (fun t ht9 hW => ⟨⟨_, (), rfl, rfl, zend ht9 hP⟩, hS.F ht9⟩) hS.2.2 dX5_decides_37
  · have h := zt h c1
    refine lv_aload_n hx hb dX5_decides_11 rfl (lv_at hl 0 rfl) ?_
    refine lv_bipush (v := (-2)) hx hb dX5_decides_12 (by decide) ?_
    obtain ⟨r3, h3, h⟩ := zb h
    refine zi (zrV (C := RX5) (T := TX5) (N := 8) (As := [.int (-2)]) (rest := []) ⟨hx, hb, hml, hown, ht⟩ (c_X5_fails l D k zq es yh tx gp gq b0 b1 b2 (-2) h3 _) (cwV 1 ht (gdV wb271 wb273 wb0 wb72 wb274) rfl rfl rfl (by decide +kernel) ⟨Nat.le_of_ble_eq_true rfl, Nat.le_of_ble_eq_true rfl⟩) hK hP hD hS hA hm [0] rfl rfl 0 5 rfl rfl rfl hl.1 rfl (Nat.le_of_ble_eq_true rfl) dX5_decides_14 ⟨Nat.le_refl _, Nat.le_refl _⟩) hP hD hS hA [0] rfl rfl (fun H locs hP hD hS => ?_)
    have hP : va_P D vwCl [(zq, .inr (5, [.ref es, .ref yh, .ref tx, .ref gp, .ref gq, .int r3.2.1, .int r3.2.2.1, .int r3.2.2.2])), (es, .inr (2, [.ref esz, .ref esr, .ref esk, .ref esf, .ref esa, .ref esp, .ref est, .int estm])), (esz, .inl (k 0, 32, .inl eszo)), (esr, .inr (3, [.int 12, .int 11, .ref esrc, .int esrs])), (esrc, .inl (k 0, 132, .inl esrf))] H := hP
    have hD : va_D A [(zq, .inr (5, [.ref es, .ref yh, .ref tx, .ref gp, .ref gq, .int r3.2.1, .int r3.2.2.1, .int r3.2.2.2])), (es, .inr (2, [.ref esz, .ref esr, .ref esk, .ref esf, .ref esa, .ref esp, .ref est, .int estm])), (esz, .inl (k 0, 32, .inl eszo)), (esr, .inr (3, [.int 12, .int 11, .ref esrc, .int esrs])), (esrc, .inl (k 0, 132, .inl esrf))] := hD
    obtain rfl := Option.some.inj h
    exact W.iret (v := r3.1) hx hb hr (fun t ht9 hW => ⟨⟨_, (), rfl, rfl, zend ht9 hP⟩, hS.F ht9⟩) hS.2.2 dX5_decides_17
def f_X5_cases (fu : Nat) (b0 : Int32) (b1 : Int32) (b2 : Int32) (eszo : Nat → Int32) (esrs : Int32) (esrf : Nat → Int32) (gpsz : Int32) (gpsn : Int32) (gpal : Int32) (gpre : Int32) (gpfa : Nat → Int32) (gpfb : Nat → Int32) (gpfc : Nat → Int32) (gpfd : Nat → Int32) (a1 : Int32) (a2 : Int32) : Option (Int32 × Int32 × Int32 × Int32 × Int32 × Int32 × Int32 × Int32 × (Nat → Int32) × (Nat → Int32) × (Nat → Int32) × (Nat → Int32)) :=
  (f_X5_isRule esrs a1).bind fun r1 => if (zB r1) = 0 then ((f_X5_fails b0 b1 b2 (-2)).bind fun r2 => some (r2.1, r2.2.1, r2.2.2.1, r2.2.2.2, gpsz, gpsn, gpal, gpre, gpfa, gpfb, gpfc, gpfd)) else ((f_X5_within  a2 0 1).bind fun r3 => if (zB r3) = 0 then ((f_X5_fails b0 b1 b2 (-2)).bind fun r7 => some (r7.1, r7.2.1, r7.2.2.1, r7.2.2.2, gpsz, gpsn, gpal, gpre, gpfa, gpfb, gpfc, gpfd)) else ((f_X1_draw fu gpfa gpfb gpfc gpfd 11 esrs 132 esrf eszo ).bind fun r4 => if a2 = 0 then ((f_X1_casesDecided fu r4.1 r4.2.2.2.2.1 r4.2.2.2.2.2.1 r4.2.2.2.2.2.2.1 a1).bind fun r6 => some (r6, b0, b1, b2, r4.1, r4.2.1, r4.2.2.1, r4.2.2.2.1, r4.2.2.2.2.1, r4.2.2.2.2.2.1, r4.2.2.2.2.2.2.1, r4.2.2.2.2.2.2.2)) else ((f_X1_casesFitting fu r4.1 r4.2.2.2.2.1 r4.2.2.2.2.2.1 r4.2.2.2.2.2.2.1 a1 a1).bind fun r5 => some (r5, b0, b1, b2, r4.1, r4.2.1, r4.2.2.1, r4.2.2.2.1, r4.2.2.2.2.1, r4.2.2.2.2.2.1, r4.2.2.2.2.2.2.1, r4.2.2.2.2.2.2.2))))
abbrev wk_X5_cases : List Cond := Cond.code yX5_cases cX5_cases 3 (some .int) :: WB
abbrev rm_X5_cases : Room := { frames := 5, cells := 0, slots := 0, locals := 120 }
set_option maxHeartbeats 4000000 in
set_option maxRecDepth 100000 in
theorem c_X5_cases (l : Launch) (D : va_G) (k : Nat → Nat) (zq es yh tx gp gq esz esr esk esf esa esp est esrc gpa gpb gpc gpd : Nat) (b0 : Int32) (b1 : Int32) (b2 : Int32) (estm : Int32) (eszo : Nat → Int32) (esrs : Int32) (esrf : Nat → Int32) (gpsz : Int32) (gpsn : Int32) (gpal : Int32) (gpre : Int32) (gpfa : Nat → Int32) (gpfb : Nat → Int32) (gpfc : Nat → Int32) (gpfd : Nat → Int32) (a1 : Int32) (a2 : Int32) (fu : Nat) {res : Int32 × Int32 × Int32 × Int32 × Int32 × Int32 × Int32 × Int32 × (Nat → Int32) × (Nat → Int32) × (Nat → Int32) × (Nat → Int32)} (h : f_X5_cases fu b0 b1 b2 eszo esrs esrf gpsz gpsn gpal gpre gpfa gpfb gpfc gpfd a1 a2 = some res) : Ci l yX5_cases wk_X5_cases rm_X5_cases D k [.ref zq, .int a1, .int a2] [(zq, .inr (5, [.ref es, .ref yh, .ref tx, .ref gp, .ref gq, .int b0, .int b1, .int b2])), (es, .inr (2, [.ref esz, .ref esr, .ref esk, .ref esf, .ref esa, .ref esp, .ref est, .int estm])), (esz, .inl (k 0, 32, .inl eszo)), (esr, .inr (3, [.int 12, .int 11, .ref esrc, .int esrs])), (esrc, .inl (k 0, 132, .inl esrf)), (gp, .inr (1, [.ref gpa, .ref gpb, .ref gpc, .ref gpd, .int gpsz, .int gpsn, .int gpal, .int gpre])), (gpa, .inl (k 0, 32, .inl gpfa)), (gpb, .inl (k 0, 32, .inl gpfb)), (gpc, .inl (k 0, 12, .inl gpfc)), (gpd, .inl (k 0, 12, .inl gpfd))] [(zq, .inr (5, [.ref es, .ref yh, .ref tx, .ref gp, .ref gq, .int res.2.1, .int res.2.2.1, .int res.2.2.2.1])), (es, .inr (2, [.ref esz, .ref esr, .ref esk, .ref esf, .ref esa, .ref esp, .ref est, .int estm])), (esz, .inl (k 0, 32, .inl eszo)), (esr, .inr (3, [.int 12, .int 11, .ref esrc, .int esrs])), (esrc, .inl (k 0, 132, .inl esrf)), (gp, .inr (1, [.ref gpa, .ref gpb, .ref gpc, .ref gpd, .int res.2.2.2.2.1, .int res.2.2.2.2.2.1, .int res.2.2.2.2.2.2.1, .int res.2.2.2.2.2.2.2.1])), (gpa, .inl (k 0, 32, .inl res.2.2.2.2.2.2.2.2.1)), (gpb, .inl (k 0, 32, .inl res.2.2.2.2.2.2.2.2.2.1)), (gpc, .inl (k 0, 12, .inl res.2.2.2.2.2.2.2.2.2.2.1)), (gpd, .inl (k 0, 12, .inl res.2.2.2.2.2.2.2.2.2.2.2))] res.1 := by
  unfold Ci
  intro sz
  refine Met.ofW (cc := cX5_cases) (maxL := 3) (ret := (some .int)) (by decide) rfl ?_
  intro p e s m args below meth c s₁ B hml hv
  obtain ⟨rfl, hsz, hP, hK, hD0, hm⟩ := hv
  have hx := B.exec
  have hb := B.bytes
  have hr := B.returns
  have ht : ∀ w ∈ WB, w.before _ s = true := fun w hw => atoms_spec (ws := wk_X5_cases) B.pre w (List.mem_cons_of_mem _ hw)
  have hown : s.vm.findClass RX5 = some m.cls := findClass_of_methodNamed B.named
  have hlocks := B.notSynchronized
  subst hsz
  have hD := hD0.self (sz := s.heap.size)
  generalize hAe : va_A [(zq, .inr (5, [.ref es, .ref yh, .ref tx, .ref gp, .ref gq, .int b0, .int b1, .int b2])), (es, .inr (2, [.ref esz, .ref esr, .ref esk, .ref esf, .ref esa, .ref esp, .ref est, .int estm])), (esz, .inl (k 0, 32, .inl eszo)), (esr, .inr (3, [.int 12, .int 11, .ref esrc, .int esrs])), (esrc, .inl (k 0, 132, .inl esrf)), (gp, .inr (1, [.ref gpa, .ref gpb, .ref gpc, .ref gpd, .int gpsz, .int gpsn, .int gpal, .int gpre])), (gpa, .inl (k 0, 32, .inl gpfa)), (gpb, .inl (k 0, 32, .inl gpfb)), (gpc, .inl (k 0, 12, .inl gpfc)), (gpd, .inl (k 0, 12, .inl gpfd))] s.heap.size = A at hD hm ⊢
  have hA : ∀ q : Nat, s.heap.size ≤ q → A q := fun q h => by rw [← hAe]; exact Or.inr h
  have hS : va_S A s.heap s.heap [] := va_S.rf
  have hl := lv_entry ([.ref zq, .int a1, .int a2]) (n := 3) (Nat.le_of_ble_eq_true rfl)
  rw [lg_entry_eq]
  generalize (lg_sl ([.ref zq, .int a1, .int a2]) ++ List.replicate (3 - (lg_sl ([.ref zq, .int a1, .int a2])).length) Slot.unset).toArray = ls at hl ⊢
  have hl : lv_has ls 3 [(0, .ref zq), (1, .int a1), (2, .int a2)] := hl
  obtain ⟨H, hH⟩ : ∃ H, H = s.heap := ⟨_, rfl⟩
  rw [← hH] at hP
  have hS : va_S A s.heap H [] := by rw [hH]; exact hS
  suffices hgo : W p l e _ s m _ below meth c H [] 0 0 _ _ by rw [hH] at hgo; exact hgo
  unfold f_X5_cases at h
  refine lv_aload_n hx hb dX5_cases_0 rfl (lv_at hl 0 rfl) ?_
  refine lv_iload_n hx hb dX5_cases_1 rfl (lv_at hl 1 rfl) ?_
  obtain ⟨r1, h1, h⟩ := zb h
  refine zi (zrV (C := RX5) (T := TX5) (N := 8) (As := [.int a1]) (rest := []) ⟨hx, hb, hml, hown, ht⟩ (c_X5_isRule l D k zq es yh tx gp gq esz esr esk esf esa esp est esrc b0 b1 b2 estm esrs esrf a1 h1 _) (cwV 1 ht (gdV wb334 wb336 wb3 wb72 wb337) rfl rfl rfl (by decide +kernel) ⟨Nat.le_of_ble_eq_true rfl, Nat.le_of_ble_eq_true rfl⟩) hK hP hD hS hA hm [0, 1, 3, 4] rfl rfl 0 5 rfl rfl rfl hl.1 rfl (Nat.le_of_ble_eq_true rfl) dX5_cases_2 ⟨Nat.le_refl _, Nat.le_refl _⟩) hP hD hS hA [0, 1, 3, 4] rfl rfl (fun H locs hP hD hS => ?_)
  have hP : va_P D vwCl [(zq, .inr (5, [.ref es, .ref yh, .ref tx, .ref gp, .ref gq, .int b0, .int b1, .int b2])), (es, .inr (2, [.ref esz, .ref esr, .ref esk, .ref esf, .ref esa, .ref esp, .ref est, .int estm])), (esz, .inl (k 0, 32, .inl eszo)), (esr, .inr (3, [.int 12, .int 11, .ref esrc, .int esrs])), (esrc, .inl (k 0, 132, .inl esrf)), (gp, .inr (1, [.ref gpa, .ref gpb, .ref gpc, .ref gpd, .int gpsz, .int gpsn, .int gpal, .int gpre])), (gpa, .inl (k 0, 32, .inl gpfa)), (gpb, .inl (k 0, 32, .inl gpfb)), (gpc, .inl (k 0, 12, .inl gpfc)), (gpd, .inl (k 0, 12, .inl gpfd))] H := hP
  have hD : va_D A [(zq, .inr (5, [.ref es, .ref yh, .ref tx, .ref gp, .ref gq, .int b0, .int b1, .int b2])), (es, .inr (2, [.ref esz, .ref esr, .ref esk, .ref esf, .ref esa, .ref esp, .ref est, .int estm])), (esz, .inl (k 0, 32, .inl eszo)), (esr, .inr (3, [.int 12, .int 11, .ref esrc, .int esrs])), (esrc, .inl (k 0, 132, .inl esrf)), (gp, .inr (1, [.ref gpa, .ref gpb, .ref gpc, .ref gpd, .int gpsz, .int gpsn, .int gpal, .int gpre])), (gpa, .inl (k 0, 32, .inl gpfa)), (gpb, .inl (k 0, 32, .inl gpfb)), (gpc, .inl (k 0, 12, .inl gpfc)), (gpd, .inl (k 0, 12, .inl gpfd))] := hD
  refine lv_if_eq (tgt := 17) hx hb dX5_cases_5 (by decide) (fun c3 => ?_) (fun c3 => ?_)
  · have h := zt h c3
    refine lv_aload_n hx hb dX5_cases_17 rfl (lv_at hl 0 rfl) ?_
    refine lv_bipush (v := (-2)) hx hb dX5_cases_18 (by decide) ?_
    obtain ⟨r2, h2, h⟩ := zb h
    refine zi (zrV (C := RX5) (T := TX5) (N := 8) (As := [.int (-2)]) (rest := []) ⟨hx, hb, hml, hown, ht⟩ (c_X5_fails l D k zq es yh tx gp gq b0 b1 b2 (-2) h2 _) (cwV 1 ht (gdV wb271 wb273 wb0 wb72 wb274) rfl rfl rfl (by decide +kernel) ⟨Nat.le_of_ble_eq_true rfl, Nat.le_of_ble_eq_true rfl⟩) hK hP hD hS hA hm [0] rfl rfl 0 5 rfl rfl rfl hl.1 rfl (Nat.le_of_ble_eq_true rfl) dX5_cases_20 ⟨Nat.le_refl _, Nat.le_refl _⟩) hP hD hS hA [0] rfl rfl (fun H locs hP hD hS => ?_)
    have hP : va_P D vwCl [(zq, .inr (5, [.ref es, .ref yh, .ref tx, .ref gp, .ref gq, .int r2.2.1, .int r2.2.2.1, .int r2.2.2.2])), (es, .inr (2, [.ref esz, .ref esr, .ref esk, .ref esf, .ref esa, .ref esp, .ref est, .int estm])), (esz, .inl (k 0, 32, .inl eszo)), (esr, .inr (3, [.int 12, .int 11, .ref esrc, .int esrs])), (esrc, .inl (k 0, 132, .inl esrf)), (gp, .inr (1, [.ref gpa, .ref gpb, .ref gpc, .ref gpd, .int gpsz, .int gpsn, .int gpal, .int gpre])), (gpa, .inl (k 0, 32, .inl gpfa)), (gpb, .inl (k 0, 32, .inl gpfb)), (gpc, .inl (k 0, 12, .inl gpfc)), (gpd, .inl (k 0, 12, .inl gpfd))] H := hP
    have hD : va_D A [(zq, .inr (5, [.ref es, .ref yh, .ref tx, .ref gp, .ref gq, .int r2.2.1, .int r2.2.2.1, .int r2.2.2.2])), (es, .inr (2, [.ref esz, .ref esr, .ref esk, .ref esf, .ref esa, .ref esp, .ref est, .int estm])), (esz, .inl (k 0, 32, .inl eszo)), (esr, .inr (3, [.int 12, .int 11, .ref esrc, .int esrs])), (esrc, .inl (k 0, 132, .inl esrf)), (gp, .inr (1, [.ref gpa, .ref gpb, .ref gpc, .ref gpd, .int gpsz, .int gpsn, .int gpal, .int gpre])), (gpa, .inl (k 0, 32, .inl gpfa)), (gpb, .inl (k 0, 32, .inl gpfb)), (gpc, .inl (k 0, 12, .inl gpfc)), (gpd, .inl (k 0, 12, .inl gpfd))] := hD
    obtain rfl := Option.some.inj h
    exact W.iret (v := r2.1) hx hb hr (fun t ht9 hW => ⟨⟨_, (), rfl, rfl, zend ht9 hP⟩, hS.F ht9⟩) hS.2.2 dX5_cases_23
  · have h := zf h c3
    refine lv_iload_n hx hb dX5_cases_8 rfl (lv_at hl 2 rfl) ?_
    refine lv_iconst (v := 0) hx hb dX5_cases_9 (by decide) ?_
    refine lv_iconst (v := 1) hx hb dX5_cases_10 (by decide) ?_
    obtain ⟨r3, h3, h⟩ := zb h
    refine zi (zrS (As := [.int a2, .int 0, .int 1]) (rest := []) ⟨hx, hb, hml, hown, ht⟩ (c_X5_within l D k   a2 0 1 h3 _) (va_cwS 3 ht (gdS wb268 wb269 wb72 wb270) rfl rfl rfl (by decide +kernel) ⟨Nat.le_of_ble_eq_true rfl, Nat.le_of_ble_eq_true rfl⟩) hK hP hD hS hA hm [] rfl rfl rfl hl.1 rfl (Nat.le_of_ble_eq_true rfl) dX5_cases_11 ⟨Nat.le_refl _, Nat.le_refl _⟩) hP hD hS hA [] rfl rfl (fun H locs hP hD hS => ?_)
    have hP : va_P D vwCl [(zq, .inr (5, [.ref es, .ref yh, .ref tx, .ref gp, .ref gq, .int b0, .int b1, .int b2])), (es, .inr (2, [.ref esz, .ref esr, .ref esk, .ref esf, .ref esa, .ref esp, .ref est, .int estm])), (esz, .inl (k 0, 32, .inl eszo)), (esr, .inr (3, [.int 12, .int 11, .ref esrc, .int esrs])), (esrc, .inl (k 0, 132, .inl esrf)), (gp, .inr (1, [.ref gpa, .ref gpb, .ref gpc, .ref gpd, .int gpsz, .int gpsn, .int gpal, .int gpre])), (gpa, .inl (k 0, 32, .inl gpfa)), (gpb, .inl (k 0, 32, .inl gpfb)), (gpc, .inl (k 0, 12, .inl gpfc)), (gpd, .inl (k 0, 12, .inl gpfd))] H := hP
    have hD : va_D A [(zq, .inr (5, [.ref es, .ref yh, .ref tx, .ref gp, .ref gq, .int b0, .int b1, .int b2])), (es, .inr (2, [.ref esz, .ref esr, .ref esk, .ref esf, .ref esa, .ref esp, .ref est, .int estm])), (esz, .inl (k 0, 32, .inl eszo)), (esr, .inr (3, [.int 12, .int 11, .ref esrc, .int esrs])), (esrc, .inl (k 0, 132, .inl esrf)), (gp, .inr (1, [.ref gpa, .ref gpb, .ref gpc, .ref gpd, .int gpsz, .int gpsn, .int gpal, .int gpre])), (gpa, .inl (k 0, 32, .inl gpfa)), (gpb, .inl (k 0, 32, .inl gpfb)), (gpc, .inl (k 0, 12, .inl gpfc)), (gpd, .inl (k 0, 12, .inl gpfd))] := hD
    refine lv_if_ne (tgt := 24) hx hb dX5_cases_14 (by decide) (fun c2 => ?_) (fun c2 => ?_)
    · have h := zf h c2
      refine lv_aload_n hx hb dX5_cases_24 rfl (lv_at hl 0 rfl) ?_
      refine va_get (D := D) (ci := 5) (v := .ref gp) (C := RX5) (T := TX5) (N := 8) hx hb ht hiX5 hown hK hP 0 rfl rfl 3 (by decide) (ht _ wb242) (fun _ h9 => h9) rfl dX5_cases_25 ?_
      refine lv_aload_n hx hb dX5_cases_28 rfl (lv_at hl 0 rfl) ?_
      refine va_get (D := D) (ci := 5) (v := .ref es) (C := RX5) (T := TX5) (N := 8) hx hb ht hiX5 hown hK hP 0 rfl rfl 0 (by decide) (ht _ wb239) (fun _ h9 => h9) rfl dX5_cases_29 ?_
      refine va_getN (D := D) (ci := 2) (v := .ref esr) (C := RX2) (T := TX2) (N := 8) hx hb ht hiX2 hown hK hP 1 rfl rfl 1 (by decide) (va_Nw.use rfl (hm.1 _ (List.mem_of_getElem? (i := 2) rfl))) (fun _ h9 => h9) rfl dX5_cases_32 ?_
      refine lv_aload_n hx hb dX5_cases_35 rfl (lv_at hl 0 rfl) ?_
      refine va_get (D := D) (ci := 5) (v := .ref es) (C := RX5) (T := TX5) (N := 8) hx hb ht hiX5 hown hK hP 0 rfl rfl 0 (by decide) (ht _ wb239) (fun _ h9 => h9) rfl dX5_cases_36 ?_
      refine va_getN (D := D) (ci := 2) (v := .ref esz) (C := RX2) (T := TX2) (N := 8) hx hb ht hiX2 hown hK hP 1 rfl rfl 0 (by decide) (va_Nw.use rfl (hm.1 _ (List.mem_of_getElem? (i := 1) rfl))) (fun _ h9 => h9) rfl dX5_cases_39 ?_
      obtain ⟨r4, h4, h⟩ := zb h
      refine zv (zrV (C := RX1) (T := TX1) (N := 8) (As := [.ref esr, .ref esz]) (rest := []) ⟨hx, hb, hml, hown, ht⟩ (c_X1_draw l D k gp gpa gpb gpc gpd esr esrc esz gpsz gpsn gpal gpre gpfa gpfb gpfc gpfd 12 11 esrs 132 esrf eszo  fu h4 _) (cwV 2 ht (gdV wb408 wb409 wb410 wb79 wb411) rfl rfl rfl (by decide +kernel) ⟨Nat.le_of_ble_eq_true rfl, Nat.le_of_ble_eq_true rfl⟩) hK hP hD hS hA hm [5, 6, 7, 8, 9, 3, 4, 2] rfl rfl 5 1 rfl rfl rfl hl.1 rfl (Nat.le_of_ble_eq_true rfl) dX5_cases_42 ⟨Nat.le_refl _, Nat.le_refl _⟩) hP hD hS hA [5, 6, 7, 8, 9, 3, 4, 2] rfl rfl (fun H locs hP hD hS => ?_)
      have hP : va_P D vwCl [(zq, .inr (5, [.ref es, .ref yh, .ref tx, .ref gp, .ref gq, .int b0, .int b1, .int b2])), (es, .inr (2, [.ref esz, .ref esr, .ref esk, .ref esf, .ref esa, .ref esp, .ref est, .int estm])), (esz, .inl (k 0, 32, .inl eszo)), (esr, .inr (3, [.int 12, .int 11, .ref esrc, .int esrs])), (esrc, .inl (k 0, 132, .inl esrf)), (gp, .inr (1, [.ref gpa, .ref gpb, .ref gpc, .ref gpd, .int r4.1, .int r4.2.1, .int r4.2.2.1, .int r4.2.2.2.1])), (gpa, .inl (k 0, 32, .inl r4.2.2.2.2.1)), (gpb, .inl (k 0, 32, .inl r4.2.2.2.2.2.1)), (gpc, .inl (k 0, 12, .inl r4.2.2.2.2.2.2.1)), (gpd, .inl (k 0, 12, .inl r4.2.2.2.2.2.2.2))] H := hP
      have hD : va_D A [(zq, .inr (5, [.ref es, .ref yh, .ref tx, .ref gp, .ref gq, .int b0, .int b1, .int b2])), (es, .inr (2, [.ref esz, .ref esr, .ref esk, .ref esf, .ref esa, .ref esp, .ref est, .int estm])), (esz, .inl (k 0, 32, .inl eszo)), (esr, .inr (3, [.int 12, .int 11, .ref esrc, .int esrs])), (esrc, .inl (k 0, 132, .inl esrf)), (gp, .inr (1, [.ref gpa, .ref gpb, .ref gpc, .ref gpd, .int r4.1, .int r4.2.1, .int r4.2.2.1, .int r4.2.2.2.1])), (gpa, .inl (k 0, 32, .inl r4.2.2.2.2.1)), (gpb, .inl (k 0, 32, .inl r4.2.2.2.2.2.1)), (gpc, .inl (k 0, 12, .inl r4.2.2.2.2.2.2.1)), (gpd, .inl (k 0, 12, .inl r4.2.2.2.2.2.2.2))] := hD
      refine lv_iload_n hx hb dX5_cases_45 rfl (lv_at hl 2 rfl) ?_
      refine lv_if_ne (tgt := 60) hx hb dX5_cases_46 (by decide) (fun c1 => ?_) (fun c1 => ?_)
      · have h := zf h c1
        refine lv_aload_n hx hb dX5_cases_60 rfl (lv_at hl 0 rfl) ?_
        refine va_get (D := D) (ci := 5) (v := .ref gp) (C := RX5) (T := TX5) (N := 8) hx hb ht hiX5 hown hK hP 0 rfl rfl 3 (by decide) (ht _ wb242) (fun _ h9 => h9) rfl dX5_cases_61 ?_
        refine lv_iload_n hx hb dX5_cases_64 rfl (lv_at hl 1 rfl) ?_
        refine lv_iload_n hx hb dX5_cases_65 rfl (lv_at hl 1 rfl) ?_
        obtain ⟨r5, h5, h⟩ := zb h
        refine zi (zrV (C := RX1) (T := TX1) (N := 8) (As := [.int a1, .int a1]) (rest := []) ⟨hx, hb, hml, hown, ht⟩ (c_X1_casesFitting l D k gp gpa gpb gpc gpd r4.1 r4.2.1 r4.2.2.1 r4.2.2.2.1 r4.2.2.2.2.1 r4.2.2.2.2.2.1 r4.2.2.2.2.2.2.1 a1 a1 fu h5 _) (cwV 2 ht (gdV wb446 wb447 wb448 wb79 wb449) rfl rfl rfl (by decide +kernel) ⟨Nat.le_of_ble_eq_true rfl, Nat.le_of_ble_eq_true rfl⟩) hK hP hD hS hA hm [5, 6, 7, 8] rfl rfl 5 1 rfl rfl rfl hl.1 rfl (Nat.le_of_ble_eq_true rfl) dX5_cases_66 ⟨Nat.le_refl _, Nat.le_refl _⟩) hP hD hS hA [5, 6, 7, 8] rfl rfl (fun H locs hP hD hS => ?_)
        have hP : va_P D vwCl [(zq, .inr (5, [.ref es, .ref yh, .ref tx, .ref gp, .ref gq, .int b0, .int b1, .int b2])), (es, .inr (2, [.ref esz, .ref esr, .ref esk, .ref esf, .ref esa, .ref esp, .ref est, .int estm])), (esz, .inl (k 0, 32, .inl eszo)), (esr, .inr (3, [.int 12, .int 11, .ref esrc, .int esrs])), (esrc, .inl (k 0, 132, .inl esrf)), (gp, .inr (1, [.ref gpa, .ref gpb, .ref gpc, .ref gpd, .int r4.1, .int r4.2.1, .int r4.2.2.1, .int r4.2.2.2.1])), (gpa, .inl (k 0, 32, .inl r4.2.2.2.2.1)), (gpb, .inl (k 0, 32, .inl r4.2.2.2.2.2.1)), (gpc, .inl (k 0, 12, .inl r4.2.2.2.2.2.2.1)), (gpd, .inl (k 0, 12, .inl r4.2.2.2.2.2.2.2))] H := hP
        have hD : va_D A [(zq, .inr (5, [.ref es, .ref yh, .ref tx, .ref gp, .ref gq, .int b0, .int b1, .int b2])), (es, .inr (2, [.ref esz, .ref esr, .ref esk, .ref esf, .ref esa, .ref esp, .ref est, .int estm])), (esz, .inl (k 0, 32, .inl eszo)), (esr, .inr (3, [.int 12, .int 11, .ref esrc, .int esrs])), (esrc, .inl (k 0, 132, .inl esrf)), (gp, .inr (1, [.ref gpa, .ref gpb, .ref gpc, .ref gpd, .int r4.1, .int r4.2.1, .int r4.2.2.1, .int r4.2.2.2.1])), (gpa, .inl (k 0, 32, .inl r4.2.2.2.2.1)), (gpb, .inl (k 0, 32, .inl r4.2.2.2.2.2.1)), (gpc, .inl (k 0, 12, .inl r4.2.2.2.2.2.2.1)), (gpd, .inl (k 0, 12, .inl r4.2.2.2.2.2.2.2))] := hD
        obtain rfl := Option.some.inj h
        exact W.iret (v := r5) hx hb hr (fun t ht9 hW => ⟨⟨_, (), rfl, rfl, zend ht9 hP⟩, hS.F ht9⟩) hS.2.2 dX5_cases_69
      · have h := zt h c1
        refine lv_aload_n hx hb dX5_cases_49 rfl (lv_at hl 0 rfl) ?_
        refine va_get (D := D) (ci := 5) (v := .ref gp) (C := RX5) (T := TX5) (N := 8) hx hb ht hiX5 hown hK hP 0 rfl rfl 3 (by decide) (ht _ wb242) (fun _ h9 => h9) rfl dX5_cases_50 ?_
        refine lv_iload_n hx hb dX5_cases_53 rfl (lv_at hl 1 rfl) ?_
        obtain ⟨r6, h6, h⟩ := zb h
        refine zi (zrV (C := RX1) (T := TX1) (N := 8) (As := [.int a1]) (rest := []) ⟨hx, hb, hml, hown, ht⟩ (c_X1_casesDecided l D k gp gpa gpb gpc gpd r4.1 r4.2.1 r4.2.2.1 r4.2.2.2.1 r4.2.2.2.2.1 r4.2.2.2.2.2.1 r4.2.2.2.2.2.2.1 a1 fu h6 _) (cwV 1 ht (gdV wb428 wb429 wb430 wb79 wb431) rfl rfl rfl (by decide +kernel) ⟨Nat.le_of_ble_eq_true rfl, Nat.le_of_ble_eq_true rfl⟩) hK hP hD hS hA hm [5, 6, 7, 8] rfl rfl 5 1 rfl rfl rfl hl.1 rfl (Nat.le_of_ble_eq_true rfl) dX5_cases_54 ⟨Nat.le_refl _, Nat.le_refl _⟩) hP hD hS hA [5, 6, 7, 8] rfl rfl (fun H locs hP hD hS => ?_)
        have hP : va_P D vwCl [(zq, .inr (5, [.ref es, .ref yh, .ref tx, .ref gp, .ref gq, .int b0, .int b1, .int b2])), (es, .inr (2, [.ref esz, .ref esr, .ref esk, .ref esf, .ref esa, .ref esp, .ref est, .int estm])), (esz, .inl (k 0, 32, .inl eszo)), (esr, .inr (3, [.int 12, .int 11, .ref esrc, .int esrs])), (esrc, .inl (k 0, 132, .inl esrf)), (gp, .inr (1, [.ref gpa, .ref gpb, .ref gpc, .ref gpd, .int r4.1, .int r4.2.1, .int r4.2.2.1, .int r4.2.2.2.1])), (gpa, .inl (k 0, 32, .inl r4.2.2.2.2.1)), (gpb, .inl (k 0, 32, .inl r4.2.2.2.2.2.1)), (gpc, .inl (k 0, 12, .inl r4.2.2.2.2.2.2.1)), (gpd, .inl (k 0, 12, .inl r4.2.2.2.2.2.2.2))] H := hP
        have hD : va_D A [(zq, .inr (5, [.ref es, .ref yh, .ref tx, .ref gp, .ref gq, .int b0, .int b1, .int b2])), (es, .inr (2, [.ref esz, .ref esr, .ref esk, .ref esf, .ref esa, .ref esp, .ref est, .int estm])), (esz, .inl (k 0, 32, .inl eszo)), (esr, .inr (3, [.int 12, .int 11, .ref esrc, .int esrs])), (esrc, .inl (k 0, 132, .inl esrf)), (gp, .inr (1, [.ref gpa, .ref gpb, .ref gpc, .ref gpd, .int r4.1, .int r4.2.1, .int r4.2.2.1, .int r4.2.2.2.1])), (gpa, .inl (k 0, 32, .inl r4.2.2.2.2.1)), (gpb, .inl (k 0, 32, .inl r4.2.2.2.2.2.1)), (gpc, .inl (k 0, 12, .inl r4.2.2.2.2.2.2.1)), (gpd, .inl (k 0, 12, .inl r4.2.2.2.2.2.2.2))] := hD
        refine lv_goto (tgt := 69) hx hb dX5_cases_57 (by decide) ?_
        obtain rfl := Option.some.inj h
        exact W.iret (v := r6) hx hb hr (fun t ht9 hW => ⟨⟨_, (), rfl, rfl, zend ht9 hP⟩, hS.F ht9⟩) hS.2.2 dX5_cases_69
    · have h := zt h c2
      refine lv_aload_n hx hb dX5_cases_17 rfl (lv_at hl 0 rfl) ?_
      refine lv_bipush (v := (-2)) hx hb dX5_cases_18 (by decide) ?_
      obtain ⟨r7, h7, h⟩ := zb h
      refine zi (zrV (C := RX5) (T := TX5) (N := 8) (As := [.int (-2)]) (rest := []) ⟨hx, hb, hml, hown, ht⟩ (c_X5_fails l D k zq es yh tx gp gq b0 b1 b2 (-2) h7 _) (cwV 1 ht (gdV wb271 wb273 wb0 wb72 wb274) rfl rfl rfl (by decide +kernel) ⟨Nat.le_of_ble_eq_true rfl, Nat.le_of_ble_eq_true rfl⟩) hK hP hD hS hA hm [0] rfl rfl 0 5 rfl rfl rfl hl.1 rfl (Nat.le_of_ble_eq_true rfl) dX5_cases_20 ⟨Nat.le_refl _, Nat.le_refl _⟩) hP hD hS hA [0] rfl rfl (fun H locs hP hD hS => ?_)
      have hP : va_P D vwCl [(zq, .inr (5, [.ref es, .ref yh, .ref tx, .ref gp, .ref gq, .int r7.2.1, .int r7.2.2.1, .int r7.2.2.2])), (es, .inr (2, [.ref esz, .ref esr, .ref esk, .ref esf, .ref esa, .ref esp, .ref est, .int estm])), (esz, .inl (k 0, 32, .inl eszo)), (esr, .inr (3, [.int 12, .int 11, .ref esrc, .int esrs])), (esrc, .inl (k 0, 132, .inl esrf)), (gp, .inr (1, [.ref gpa, .ref gpb, .ref gpc, .ref gpd, .int gpsz, .int gpsn, .int gpal, .int gpre])), (gpa, .inl (k 0, 32, .inl gpfa)), (gpb, .inl (k 0, 32, .inl gpfb)), (gpc, .inl (k 0, 12, .inl gpfc)), (gpd, .inl (k 0, 12, .inl gpfd))] H := hP
      have hD : va_D A [(zq, .inr (5, [.ref es, .ref yh, .ref tx, .ref gp, .ref gq, .int r7.2.1, .int r7.2.2.1, .int r7.2.2.2])), (es, .inr (2, [.ref esz, .ref esr, .ref esk, .ref esf, .ref esa, .ref esp, .ref est, .int estm])), (esz, .inl (k 0, 32, .inl eszo)), (esr, .inr (3, [.int 12, .int 11, .ref esrc, .int esrs])), (esrc, .inl (k 0, 132, .inl esrf)), (gp, .inr (1, [.ref gpa, .ref gpb, .ref gpc, .ref gpd, .int gpsz, .int gpsn, .int gpal, .int gpre])), (gpa, .inl (k 0, 32, .inl gpfa)), (gpb, .inl (k 0, 32, .inl gpfb)), (gpc, .inl (k 0, 12, .inl gpfc)), (gpd, .inl (k 0, 12, .inl gpfd))] := hD
      obtain rfl := Option.some.inj h
      exact W.iret (v := r7.1) hx hb hr (fun t ht9 hW => ⟨⟨_, (), rfl, rfl, zend ht9 hP⟩, hS.F ht9⟩) hS.2.2 dX5_cases_23
def f_X5_idle (fu : Nat) (b0 : Int32) (b1 : Int32) (b2 : Int32) (eszo : Nat → Int32) (esrs : Int32) (esrf : Nat → Int32) (gpsz : Int32) (gpsn : Int32) (gpal : Int32) (gpre : Int32) (gpfa : Nat → Int32) (gpfb : Nat → Int32) (gpfc : Nat → Int32) (gpfd : Nat → Int32) (gqsz : Int32) (gqsn : Int32) (gqal : Int32) (gqre : Int32) (gqfa : Nat → Int32) (gqfb : Nat → Int32) (gqfc : Nat → Int32) (gqfd : Nat → Int32) (a1 : Int32) (a2 : Int32) : Option (Int32 × Int32 × Int32 × Int32 × Int32 × Int32 × Int32 × Int32 × (Nat → Int32) × (Nat → Int32) × (Nat → Int32) × (Nat → Int32) × Int32 × Int32 × Int32 × Int32 × (Nat → Int32) × (Nat → Int32) × (Nat → Int32) × (Nat → Int32)) :=
  (f_X5_isRule esrs a1).bind fun r1 => if (zB r1) = 0 then ((f_X5_fails b0 b1 b2 (-2)).bind fun r2 => some (r2.1, r2.2.1, r2.2.2.1, r2.2.2.2, gpsz, gpsn, gpal, gpre, gpfa, gpfb, gpfc, gpfd, gqsz, gqsn, gqal, gqre, gqfa, gqfb, gqfc, gqfd)) else ((f_X5_within  a2 0 1).bind fun r3 => if (zB r3) = 0 then ((f_X5_fails b0 b1 b2 (-2)).bind fun r9 => some (r9.1, r9.2.1, r9.2.2.1, r9.2.2.2, gpsz, gpsn, gpal, gpre, gpfa, gpfb, gpfc, gpfd, gqsz, gqsn, gqal, gqre, gqfa, gqfb, gqfc, gqfd)) else ((f_X1_draw fu gpfa gpfb gpfc gpfd 11 esrs 132 esrf eszo ).bind fun r4 => if a2 = 0 then ((f_X1_casesDecided fu r4.1 r4.2.2.2.2.1 r4.2.2.2.2.2.1 r4.2.2.2.2.2.2.1 a1).bind fun r8 => if r8 = 0 then (some (1, b0, b1, b2, r4.1, r4.2.1, r4.2.2.1, r4.2.2.2.1, r4.2.2.2.2.1, r4.2.2.2.2.2.1, r4.2.2.2.2.2.2.1, r4.2.2.2.2.2.2.2, gqsz, gqsn, gqal, gqre, gqfa, gqfb, gqfc, gqfd)) else (some (0, b0, b1, b2, r4.1, r4.2.1, r4.2.2.1, r4.2.2.2.1, r4.2.2.2.2.1, r4.2.2.2.2.2.1, r4.2.2.2.2.2.2.1, r4.2.2.2.2.2.2.2, gqsz, gqsn, gqal, gqre, gqfa, gqfb, gqfc, gqfd))) else ((f_X1_draw fu gqfa gqfb gqfc gqfd 11 esrs 132 esrf eszo ).bind fun r5 => (f_X1_silence r5.2.2.2.2.2.2.1 a1).bind fun r6 => (f_X1_firstDifference fu r4.1 r4.2.1 r4.2.2.1 r4.2.2.2.1 r4.2.2.2.2.1 r4.2.2.2.2.2.1 r4.2.2.2.2.2.2.1 r4.2.2.2.2.2.2.2 r5.1 r6.1 r6.2.1 r6.2.2.1 r5.2.2.2.2.1 r5.2.2.2.2.2.1 r6.2.2.2 r5.2.2.2.2.2.2.2 ).bind fun r7 => if r7.1 = (-1) then (some (1, b0, b1, b2, r4.1, r7.2.1, r7.2.2.1, r7.2.2.2.1, r4.2.2.2.2.1, r4.2.2.2.2.2.1, r4.2.2.2.2.2.2.1, r4.2.2.2.2.2.2.2, r5.1, r7.2.2.2.2.1, r7.2.2.2.2.2.1, r7.2.2.2.2.2.2, r5.2.2.2.2.1, r5.2.2.2.2.2.1, r6.2.2.2, r5.2.2.2.2.2.2.2)) else (some (0, b0, b1, b2, r4.1, r7.2.1, r7.2.2.1, r7.2.2.2.1, r4.2.2.2.2.1, r4.2.2.2.2.2.1, r4.2.2.2.2.2.2.1, r4.2.2.2.2.2.2.2, r5.1, r7.2.2.2.2.1, r7.2.2.2.2.2.1, r7.2.2.2.2.2.2, r5.2.2.2.2.1, r5.2.2.2.2.2.1, r6.2.2.2, r5.2.2.2.2.2.2.2)))))
abbrev wk_X5_idle : List Cond := Cond.code yX5_idle cX5_idle 3 (some .int) :: WB
abbrev rm_X5_idle : Room := { frames := 5, cells := 0, slots := 0, locals := 120 }
set_option maxHeartbeats 4000000 in
set_option maxRecDepth 100000 in
theorem c_X5_idle (l : Launch) (D : va_G) (k : Nat → Nat) (zq es yh tx gp gq esz esr esk esf esa esp est esrc gpa gpb gpc gpd gqa gqb gqc gqd : Nat) (b0 : Int32) (b1 : Int32) (b2 : Int32) (estm : Int32) (eszo : Nat → Int32) (esrs : Int32) (esrf : Nat → Int32) (gpsz : Int32) (gpsn : Int32) (gpal : Int32) (gpre : Int32) (gpfa : Nat → Int32) (gpfb : Nat → Int32) (gpfc : Nat → Int32) (gpfd : Nat → Int32) (gqsz : Int32) (gqsn : Int32) (gqal : Int32) (gqre : Int32) (gqfa : Nat → Int32) (gqfb : Nat → Int32) (gqfc : Nat → Int32) (gqfd : Nat → Int32) (a1 : Int32) (a2 : Int32) (fu : Nat) {res : Int32 × Int32 × Int32 × Int32 × Int32 × Int32 × Int32 × Int32 × (Nat → Int32) × (Nat → Int32) × (Nat → Int32) × (Nat → Int32) × Int32 × Int32 × Int32 × Int32 × (Nat → Int32) × (Nat → Int32) × (Nat → Int32) × (Nat → Int32)} (h : f_X5_idle fu b0 b1 b2 eszo esrs esrf gpsz gpsn gpal gpre gpfa gpfb gpfc gpfd gqsz gqsn gqal gqre gqfa gqfb gqfc gqfd a1 a2 = some res) : Ci l yX5_idle wk_X5_idle rm_X5_idle D k [.ref zq, .int a1, .int a2] [(zq, .inr (5, [.ref es, .ref yh, .ref tx, .ref gp, .ref gq, .int b0, .int b1, .int b2])), (es, .inr (2, [.ref esz, .ref esr, .ref esk, .ref esf, .ref esa, .ref esp, .ref est, .int estm])), (esz, .inl (k 0, 32, .inl eszo)), (esr, .inr (3, [.int 12, .int 11, .ref esrc, .int esrs])), (esrc, .inl (k 0, 132, .inl esrf)), (gp, .inr (1, [.ref gpa, .ref gpb, .ref gpc, .ref gpd, .int gpsz, .int gpsn, .int gpal, .int gpre])), (gpa, .inl (k 0, 32, .inl gpfa)), (gpb, .inl (k 0, 32, .inl gpfb)), (gpc, .inl (k 0, 12, .inl gpfc)), (gpd, .inl (k 0, 12, .inl gpfd)), (gq, .inr (1, [.ref gqa, .ref gqb, .ref gqc, .ref gqd, .int gqsz, .int gqsn, .int gqal, .int gqre])), (gqa, .inl (k 0, 32, .inl gqfa)), (gqb, .inl (k 0, 32, .inl gqfb)), (gqc, .inl (k 0, 12, .inl gqfc)), (gqd, .inl (k 0, 12, .inl gqfd))] [(zq, .inr (5, [.ref es, .ref yh, .ref tx, .ref gp, .ref gq, .int res.2.1, .int res.2.2.1, .int res.2.2.2.1])), (es, .inr (2, [.ref esz, .ref esr, .ref esk, .ref esf, .ref esa, .ref esp, .ref est, .int estm])), (esz, .inl (k 0, 32, .inl eszo)), (esr, .inr (3, [.int 12, .int 11, .ref esrc, .int esrs])), (esrc, .inl (k 0, 132, .inl esrf)), (gp, .inr (1, [.ref gpa, .ref gpb, .ref gpc, .ref gpd, .int res.2.2.2.2.1, .int res.2.2.2.2.2.1, .int res.2.2.2.2.2.2.1, .int res.2.2.2.2.2.2.2.1])), (gpa, .inl (k 0, 32, .inl res.2.2.2.2.2.2.2.2.1)), (gpb, .inl (k 0, 32, .inl res.2.2.2.2.2.2.2.2.2.1)), (gpc, .inl (k 0, 12, .inl res.2.2.2.2.2.2.2.2.2.2.1)), (gpd, .inl (k 0, 12, .inl res.2.2.2.2.2.2.2.2.2.2.2.1)), (gq, .inr (1, [.ref gqa, .ref gqb, .ref gqc, .ref gqd, .int res.2.2.2.2.2.2.2.2.2.2.2.2.1, .int res.2.2.2.2.2.2.2.2.2.2.2.2.2.1, .int res.2.2.2.2.2.2.2.2.2.2.2.2.2.2.1, .int res.2.2.2.2.2.2.2.2.2.2.2.2.2.2.2.1])), (gqa, .inl (k 0, 32, .inl res.2.2.2.2.2.2.2.2.2.2.2.2.2.2.2.2.1)), (gqb, .inl (k 0, 32, .inl res.2.2.2.2.2.2.2.2.2.2.2.2.2.2.2.2.2.1)), (gqc, .inl (k 0, 12, .inl res.2.2.2.2.2.2.2.2.2.2.2.2.2.2.2.2.2.2.1)), (gqd, .inl (k 0, 12, .inl res.2.2.2.2.2.2.2.2.2.2.2.2.2.2.2.2.2.2.2))] res.1 := by
  unfold Ci
  intro sz
  refine Met.ofW (cc := cX5_idle) (maxL := 3) (ret := (some .int)) (by decide) rfl ?_
  intro p e s m args below meth c s₁ B hml hv
  obtain ⟨rfl, hsz, hP, hK, hD0, hm⟩ := hv
  have hx := B.exec
  have hb := B.bytes
  have hr := B.returns
  have ht : ∀ w ∈ WB, w.before _ s = true := fun w hw => atoms_spec (ws := wk_X5_idle) B.pre w (List.mem_cons_of_mem _ hw)
  have hown : s.vm.findClass RX5 = some m.cls := findClass_of_methodNamed B.named
  have hlocks := B.notSynchronized
  subst hsz
  have hD := hD0.self (sz := s.heap.size)
  generalize hAe : va_A [(zq, .inr (5, [.ref es, .ref yh, .ref tx, .ref gp, .ref gq, .int b0, .int b1, .int b2])), (es, .inr (2, [.ref esz, .ref esr, .ref esk, .ref esf, .ref esa, .ref esp, .ref est, .int estm])), (esz, .inl (k 0, 32, .inl eszo)), (esr, .inr (3, [.int 12, .int 11, .ref esrc, .int esrs])), (esrc, .inl (k 0, 132, .inl esrf)), (gp, .inr (1, [.ref gpa, .ref gpb, .ref gpc, .ref gpd, .int gpsz, .int gpsn, .int gpal, .int gpre])), (gpa, .inl (k 0, 32, .inl gpfa)), (gpb, .inl (k 0, 32, .inl gpfb)), (gpc, .inl (k 0, 12, .inl gpfc)), (gpd, .inl (k 0, 12, .inl gpfd)), (gq, .inr (1, [.ref gqa, .ref gqb, .ref gqc, .ref gqd, .int gqsz, .int gqsn, .int gqal, .int gqre])), (gqa, .inl (k 0, 32, .inl gqfa)), (gqb, .inl (k 0, 32, .inl gqfb)), (gqc, .inl (k 0, 12, .inl gqfc)), (gqd, .inl (k 0, 12, .inl gqfd))] s.heap.size = A at hD hm ⊢
  have hA : ∀ q : Nat, s.heap.size ≤ q → A q := fun q h => by rw [← hAe]; exact Or.inr h
  have hS : va_S A s.heap s.heap [] := va_S.rf
  have hl := lv_entry ([.ref zq, .int a1, .int a2]) (n := 3) (Nat.le_of_ble_eq_true rfl)
  rw [lg_entry_eq]
  generalize (lg_sl ([.ref zq, .int a1, .int a2]) ++ List.replicate (3 - (lg_sl ([.ref zq, .int a1, .int a2])).length) Slot.unset).toArray = ls at hl ⊢
  have hl : lv_has ls 3 [(0, .ref zq), (1, .int a1), (2, .int a2)] := hl
  obtain ⟨H, hH⟩ : ∃ H, H = s.heap := ⟨_, rfl⟩
  rw [← hH] at hP
  have hS : va_S A s.heap H [] := by rw [hH]; exact hS
  suffices hgo : W p l e _ s m _ below meth c H [] 0 0 _ _ by rw [hH] at hgo; exact hgo
  unfold f_X5_idle at h
  refine lv_aload_n hx hb dX5_idle_0 rfl (lv_at hl 0 rfl) ?_
  refine lv_iload_n hx hb dX5_idle_1 rfl (lv_at hl 1 rfl) ?_
  obtain ⟨r1, h1, h⟩ := zb h
  refine zi (zrV (C := RX5) (T := TX5) (N := 8) (As := [.int a1]) (rest := []) ⟨hx, hb, hml, hown, ht⟩ (c_X5_isRule l D k zq es yh tx gp gq esz esr esk esf esa esp est esrc b0 b1 b2 estm esrs esrf a1 h1 _) (cwV 1 ht (gdV wb334 wb336 wb3 wb72 wb337) rfl rfl rfl (by decide +kernel) ⟨Nat.le_of_ble_eq_true rfl, Nat.le_of_ble_eq_true rfl⟩) hK hP hD hS hA hm [0, 1, 3, 4] rfl rfl 0 5 rfl rfl rfl hl.1 rfl (Nat.le_of_ble_eq_true rfl) dX5_idle_2 ⟨Nat.le_refl _, Nat.le_refl _⟩) hP hD hS hA [0, 1, 3, 4] rfl rfl (fun H locs hP hD hS => ?_)
  have hP : va_P D vwCl [(zq, .inr (5, [.ref es, .ref yh, .ref tx, .ref gp, .ref gq, .int b0, .int b1, .int b2])), (es, .inr (2, [.ref esz, .ref esr, .ref esk, .ref esf, .ref esa, .ref esp, .ref est, .int estm])), (esz, .inl (k 0, 32, .inl eszo)), (esr, .inr (3, [.int 12, .int 11, .ref esrc, .int esrs])), (esrc, .inl (k 0, 132, .inl esrf)), (gp, .inr (1, [.ref gpa, .ref gpb, .ref gpc, .ref gpd, .int gpsz, .int gpsn, .int gpal, .int gpre])), (gpa, .inl (k 0, 32, .inl gpfa)), (gpb, .inl (k 0, 32, .inl gpfb)), (gpc, .inl (k 0, 12, .inl gpfc)), (gpd, .inl (k 0, 12, .inl gpfd)), (gq, .inr (1, [.ref gqa, .ref gqb, .ref gqc, .ref gqd, .int gqsz, .int gqsn, .int gqal, .int gqre])), (gqa, .inl (k 0, 32, .inl gqfa)), (gqb, .inl (k 0, 32, .inl gqfb)), (gqc, .inl (k 0, 12, .inl gqfc)), (gqd, .inl (k 0, 12, .inl gqfd))] H := hP
  have hD : va_D A [(zq, .inr (5, [.ref es, .ref yh, .ref tx, .ref gp, .ref gq, .int b0, .int b1, .int b2])), (es, .inr (2, [.ref esz, .ref esr, .ref esk, .ref esf, .ref esa, .ref esp, .ref est, .int estm])), (esz, .inl (k 0, 32, .inl eszo)), (esr, .inr (3, [.int 12, .int 11, .ref esrc, .int esrs])), (esrc, .inl (k 0, 132, .inl esrf)), (gp, .inr (1, [.ref gpa, .ref gpb, .ref gpc, .ref gpd, .int gpsz, .int gpsn, .int gpal, .int gpre])), (gpa, .inl (k 0, 32, .inl gpfa)), (gpb, .inl (k 0, 32, .inl gpfb)), (gpc, .inl (k 0, 12, .inl gpfc)), (gpd, .inl (k 0, 12, .inl gpfd)), (gq, .inr (1, [.ref gqa, .ref gqb, .ref gqc, .ref gqd, .int gqsz, .int gqsn, .int gqal, .int gqre])), (gqa, .inl (k 0, 32, .inl gqfa)), (gqb, .inl (k 0, 32, .inl gqfb)), (gqc, .inl (k 0, 12, .inl gqfc)), (gqd, .inl (k 0, 12, .inl gqfd))] := hD
  refine lv_if_eq (tgt := 17) hx hb dX5_idle_5 (by decide) (fun c5 => ?_) (fun c5 => ?_)
  · have h := zt h c5
    refine lv_aload_n hx hb dX5_idle_17 rfl (lv_at hl 0 rfl) ?_
    refine lv_bipush (v := (-2)) hx hb dX5_idle_18 (by decide) ?_
    obtain ⟨r2, h2, h⟩ := zb h
    refine zi (zrV (C := RX5) (T := TX5) (N := 8) (As := [.int (-2)]) (rest := []) ⟨hx, hb, hml, hown, ht⟩ (c_X5_fails l D k zq es yh tx gp gq b0 b1 b2 (-2) h2 _) (cwV 1 ht (gdV wb271 wb273 wb0 wb72 wb274) rfl rfl rfl (by decide +kernel) ⟨Nat.le_of_ble_eq_true rfl, Nat.le_of_ble_eq_true rfl⟩) hK hP hD hS hA hm [0] rfl rfl 0 5 rfl rfl rfl hl.1 rfl (Nat.le_of_ble_eq_true rfl) dX5_idle_20 ⟨Nat.le_refl _, Nat.le_refl _⟩) hP hD hS hA [0] rfl rfl (fun H locs hP hD hS => ?_)
    have hP : va_P D vwCl [(zq, .inr (5, [.ref es, .ref yh, .ref tx, .ref gp, .ref gq, .int r2.2.1, .int r2.2.2.1, .int r2.2.2.2])), (es, .inr (2, [.ref esz, .ref esr, .ref esk, .ref esf, .ref esa, .ref esp, .ref est, .int estm])), (esz, .inl (k 0, 32, .inl eszo)), (esr, .inr (3, [.int 12, .int 11, .ref esrc, .int esrs])), (esrc, .inl (k 0, 132, .inl esrf)), (gp, .inr (1, [.ref gpa, .ref gpb, .ref gpc, .ref gpd, .int gpsz, .int gpsn, .int gpal, .int gpre])), (gpa, .inl (k 0, 32, .inl gpfa)), (gpb, .inl (k 0, 32, .inl gpfb)), (gpc, .inl (k 0, 12, .inl gpfc)), (gpd, .inl (k 0, 12, .inl gpfd)), (gq, .inr (1, [.ref gqa, .ref gqb, .ref gqc, .ref gqd, .int gqsz, .int gqsn, .int gqal, .int gqre])), (gqa, .inl (k 0, 32, .inl gqfa)), (gqb, .inl (k 0, 32, .inl gqfb)), (gqc, .inl (k 0, 12, .inl gqfc)), (gqd, .inl (k 0, 12, .inl gqfd))] H := hP
    have hD : va_D A [(zq, .inr (5, [.ref es, .ref yh, .ref tx, .ref gp, .ref gq, .int r2.2.1, .int r2.2.2.1, .int r2.2.2.2])), (es, .inr (2, [.ref esz, .ref esr, .ref esk, .ref esf, .ref esa, .ref esp, .ref est, .int estm])), (esz, .inl (k 0, 32, .inl eszo)), (esr, .inr (3, [.int 12, .int 11, .ref esrc, .int esrs])), (esrc, .inl (k 0, 132, .inl esrf)), (gp, .inr (1, [.ref gpa, .ref gpb, .ref gpc, .ref gpd, .int gpsz, .int gpsn, .int gpal, .int gpre])), (gpa, .inl (k 0, 32, .inl gpfa)), (gpb, .inl (k 0, 32, .inl gpfb)), (gpc, .inl (k 0, 12, .inl gpfc)), (gpd, .inl (k 0, 12, .inl gpfd)), (gq, .inr (1, [.ref gqa, .ref gqb, .ref gqc, .ref gqd, .int gqsz, .int gqsn, .int gqal, .int gqre])), (gqa, .inl (k 0, 32, .inl gqfa)), (gqb, .inl (k 0, 32, .inl gqfb)), (gqc, .inl (k 0, 12, .inl gqfc)), (gqd, .inl (k 0, 12, .inl gqfd))] := hD
    obtain rfl := Option.some.inj h
    exact W.iret (v := r2.1) hx hb hr (fun t ht9 hW => ⟨⟨_, (), rfl, rfl, zend ht9 hP⟩, hS.F ht9⟩) hS.2.2 dX5_idle_23
  · have h := zf h c5
    refine lv_iload_n hx hb dX5_idle_8 rfl (lv_at hl 2 rfl) ?_
    refine lv_iconst (v := 0) hx hb dX5_idle_9 (by decide) ?_
    refine lv_iconst (v := 1) hx hb dX5_idle_10 (by decide) ?_
    obtain ⟨r3, h3, h⟩ := zb h
    refine zi (zrS (As := [.int a2, .int 0, .int 1]) (rest := []) ⟨hx, hb, hml, hown, ht⟩ (c_X5_within l D k   a2 0 1 h3 _) (va_cwS 3 ht (gdS wb268 wb269 wb72 wb270) rfl rfl rfl (by decide +kernel) ⟨Nat.le_of_ble_eq_true rfl, Nat.le_of_ble_eq_true rfl⟩) hK hP hD hS hA hm [] rfl rfl rfl hl.1 rfl (Nat.le_of_ble_eq_true rfl) dX5_idle_11 ⟨Nat.le_refl _, Nat.le_refl _⟩) hP hD hS hA [] rfl rfl (fun H locs hP hD hS => ?_)
    have hP : va_P D vwCl [(zq, .inr (5, [.ref es, .ref yh, .ref tx, .ref gp, .ref gq, .int b0, .int b1, .int b2])), (es, .inr (2, [.ref esz, .ref esr, .ref esk, .ref esf, .ref esa, .ref esp, .ref est, .int estm])), (esz, .inl (k 0, 32, .inl eszo)), (esr, .inr (3, [.int 12, .int 11, .ref esrc, .int esrs])), (esrc, .inl (k 0, 132, .inl esrf)), (gp, .inr (1, [.ref gpa, .ref gpb, .ref gpc, .ref gpd, .int gpsz, .int gpsn, .int gpal, .int gpre])), (gpa, .inl (k 0, 32, .inl gpfa)), (gpb, .inl (k 0, 32, .inl gpfb)), (gpc, .inl (k 0, 12, .inl gpfc)), (gpd, .inl (k 0, 12, .inl gpfd)), (gq, .inr (1, [.ref gqa, .ref gqb, .ref gqc, .ref gqd, .int gqsz, .int gqsn, .int gqal, .int gqre])), (gqa, .inl (k 0, 32, .inl gqfa)), (gqb, .inl (k 0, 32, .inl gqfb)), (gqc, .inl (k 0, 12, .inl gqfc)), (gqd, .inl (k 0, 12, .inl gqfd))] H := hP
    have hD : va_D A [(zq, .inr (5, [.ref es, .ref yh, .ref tx, .ref gp, .ref gq, .int b0, .int b1, .int b2])), (es, .inr (2, [.ref esz, .ref esr, .ref esk, .ref esf, .ref esa, .ref esp, .ref est, .int estm])), (esz, .inl (k 0, 32, .inl eszo)), (esr, .inr (3, [.int 12, .int 11, .ref esrc, .int esrs])), (esrc, .inl (k 0, 132, .inl esrf)), (gp, .inr (1, [.ref gpa, .ref gpb, .ref gpc, .ref gpd, .int gpsz, .int gpsn, .int gpal, .int gpre])), (gpa, .inl (k 0, 32, .inl gpfa)), (gpb, .inl (k 0, 32, .inl gpfb)), (gpc, .inl (k 0, 12, .inl gpfc)), (gpd, .inl (k 0, 12, .inl gpfd)), (gq, .inr (1, [.ref gqa, .ref gqb, .ref gqc, .ref gqd, .int gqsz, .int gqsn, .int gqal, .int gqre])), (gqa, .inl (k 0, 32, .inl gqfa)), (gqb, .inl (k 0, 32, .inl gqfb)), (gqc, .inl (k 0, 12, .inl gqfc)), (gqd, .inl (k 0, 12, .inl gqfd))] := hD
    refine lv_if_ne (tgt := 24) hx hb dX5_idle_14 (by decide) (fun c4 => ?_) (fun c4 => ?_)
    · have h := zf h c4
      refine lv_aload_n hx hb dX5_idle_24 rfl (lv_at hl 0 rfl) ?_
      refine va_get (D := D) (ci := 5) (v := .ref gp) (C := RX5) (T := TX5) (N := 8) hx hb ht hiX5 hown hK hP 0 rfl rfl 3 (by decide) (ht _ wb242) (fun _ h9 => h9) rfl dX5_idle_25 ?_
      refine lv_aload_n hx hb dX5_idle_28 rfl (lv_at hl 0 rfl) ?_
      refine va_get (D := D) (ci := 5) (v := .ref es) (C := RX5) (T := TX5) (N := 8) hx hb ht hiX5 hown hK hP 0 rfl rfl 0 (by decide) (ht _ wb239) (fun _ h9 => h9) rfl dX5_idle_29 ?_
      refine va_getN (D := D) (ci := 2) (v := .ref esr) (C := RX2) (T := TX2) (N := 8) hx hb ht hiX2 hown hK hP 1 rfl rfl 1 (by decide) (va_Nw.use rfl (hm.1 _ (List.mem_of_getElem? (i := 2) rfl))) (fun _ h9 => h9) rfl dX5_idle_32 ?_
      refine lv_aload_n hx hb dX5_idle_35 rfl (lv_at hl 0 rfl) ?_
      refine va_get (D := D) (ci := 5) (v := .ref es) (C := RX5) (T := TX5) (N := 8) hx hb ht hiX5 hown hK hP 0 rfl rfl 0 (by decide) (ht _ wb239) (fun _ h9 => h9) rfl dX5_idle_36 ?_
      refine va_getN (D := D) (ci := 2) (v := .ref esz) (C := RX2) (T := TX2) (N := 8) hx hb ht hiX2 hown hK hP 1 rfl rfl 0 (by decide) (va_Nw.use rfl (hm.1 _ (List.mem_of_getElem? (i := 1) rfl))) (fun _ h9 => h9) rfl dX5_idle_39 ?_
      obtain ⟨r4, h4, h⟩ := zb h
      refine zv (zrV (C := RX1) (T := TX1) (N := 8) (As := [.ref esr, .ref esz]) (rest := []) ⟨hx, hb, hml, hown, ht⟩ (c_X1_draw l D k gp gpa gpb gpc gpd esr esrc esz gpsz gpsn gpal gpre gpfa gpfb gpfc gpfd 12 11 esrs 132 esrf eszo  fu h4 _) (cwV 2 ht (gdV wb408 wb409 wb410 wb79 wb411) rfl rfl rfl (by decide +kernel) ⟨Nat.le_of_ble_eq_true rfl, Nat.le_of_ble_eq_true rfl⟩) hK hP hD hS hA hm [5, 6, 7, 8, 9, 3, 4, 2] rfl rfl 5 1 rfl rfl rfl hl.1 rfl (Nat.le_of_ble_eq_true rfl) dX5_idle_42 ⟨Nat.le_refl _, Nat.le_refl _⟩) hP hD hS hA [5, 6, 7, 8, 9, 3, 4, 2] rfl rfl (fun H locs hP hD hS => ?_)
      have hP : va_P D vwCl [(zq, .inr (5, [.ref es, .ref yh, .ref tx, .ref gp, .ref gq, .int b0, .int b1, .int b2])), (es, .inr (2, [.ref esz, .ref esr, .ref esk, .ref esf, .ref esa, .ref esp, .ref est, .int estm])), (esz, .inl (k 0, 32, .inl eszo)), (esr, .inr (3, [.int 12, .int 11, .ref esrc, .int esrs])), (esrc, .inl (k 0, 132, .inl esrf)), (gp, .inr (1, [.ref gpa, .ref gpb, .ref gpc, .ref gpd, .int r4.1, .int r4.2.1, .int r4.2.2.1, .int r4.2.2.2.1])), (gpa, .inl (k 0, 32, .inl r4.2.2.2.2.1)), (gpb, .inl (k 0, 32, .inl r4.2.2.2.2.2.1)), (gpc, .inl (k 0, 12, .inl r4.2.2.2.2.2.2.1)), (gpd, .inl (k 0, 12, .inl r4.2.2.2.2.2.2.2)), (gq, .inr (1, [.ref gqa, .ref gqb, .ref gqc, .ref gqd, .int gqsz, .int gqsn, .int gqal, .int gqre])), (gqa, .inl (k 0, 32, .inl gqfa)), (gqb, .inl (k 0, 32, .inl gqfb)), (gqc, .inl (k 0, 12, .inl gqfc)), (gqd, .inl (k 0, 12, .inl gqfd))] H := hP
      have hD : va_D A [(zq, .inr (5, [.ref es, .ref yh, .ref tx, .ref gp, .ref gq, .int b0, .int b1, .int b2])), (es, .inr (2, [.ref esz, .ref esr, .ref esk, .ref esf, .ref esa, .ref esp, .ref est, .int estm])), (esz, .inl (k 0, 32, .inl eszo)), (esr, .inr (3, [.int 12, .int 11, .ref esrc, .int esrs])), (esrc, .inl (k 0, 132, .inl esrf)), (gp, .inr (1, [.ref gpa, .ref gpb, .ref gpc, .ref gpd, .int r4.1, .int r4.2.1, .int r4.2.2.1, .int r4.2.2.2.1])), (gpa, .inl (k 0, 32, .inl r4.2.2.2.2.1)), (gpb, .inl (k 0, 32, .inl r4.2.2.2.2.2.1)), (gpc, .inl (k 0, 12, .inl r4.2.2.2.2.2.2.1)), (gpd, .inl (k 0, 12, .inl r4.2.2.2.2.2.2.2)), (gq, .inr (1, [.ref gqa, .ref gqb, .ref gqc, .ref gqd, .int gqsz, .int gqsn, .int gqal, .int gqre])), (gqa, .inl (k 0, 32, .inl gqfa)), (gqb, .inl (k 0, 32, .inl gqfb)), (gqc, .inl (k 0, 12, .inl gqfc)), (gqd, .inl (k 0, 12, .inl gqfd))] := hD
      refine lv_iload_n hx hb dX5_idle_45 rfl (lv_at hl 2 rfl) ?_
      refine lv_if_ne (tgt := 66) hx hb dX5_idle_46 (by decide) (fun c3 => ?_) (fun c3 => ?_)
      · have h := zf h c3
        refine lv_aload_n hx hb dX5_idle_66 rfl (lv_at hl 0 rfl) ?_
        refine va_get (D := D) (ci := 5) (v := .ref gq) (C := RX5) (T := TX5) (N := 8) hx hb ht hiX5 hown hK hP 0 rfl rfl 4 (by decide) (ht _ wb243) (fun _ h9 => h9) rfl dX5_idle_67 ?_
        refine lv_aload_n hx hb dX5_idle_70 rfl (lv_at hl 0 rfl) ?_
        refine va_get (D := D) (ci := 5) (v := .ref es) (C := RX5) (T := TX5) (N := 8) hx hb ht hiX5 hown hK hP 0 rfl rfl 0 (by decide) (ht _ wb239) (fun _ h9 => h9) rfl dX5_idle_71 ?_
        refine va_getN (D := D) (ci := 2) (v := .ref esr) (C := RX2) (T := TX2) (N := 8) hx hb ht hiX2 hown hK hP 1 rfl rfl 1 (by decide) (va_Nw.use rfl (hm.1 _ (List.mem_of_getElem? (i := 2) rfl))) (fun _ h9 => h9) rfl dX5_idle_74 ?_
        refine lv_aload_n hx hb dX5_idle_77 rfl (lv_at hl 0 rfl) ?_
        refine va_get (D := D) (ci := 5) (v := .ref es) (C := RX5) (T := TX5) (N := 8) hx hb ht hiX5 hown hK hP 0 rfl rfl 0 (by decide) (ht _ wb239) (fun _ h9 => h9) rfl dX5_idle_78 ?_
        refine va_getN (D := D) (ci := 2) (v := .ref esz) (C := RX2) (T := TX2) (N := 8) hx hb ht hiX2 hown hK hP 1 rfl rfl 0 (by decide) (va_Nw.use rfl (hm.1 _ (List.mem_of_getElem? (i := 1) rfl))) (fun _ h9 => h9) rfl dX5_idle_81 ?_
        obtain ⟨r5, h5, h⟩ := zb h
        refine zv (zrV (C := RX1) (T := TX1) (N := 8) (As := [.ref esr, .ref esz]) (rest := []) ⟨hx, hb, hml, hown, ht⟩ (c_X1_draw l D k gq gqa gqb gqc gqd esr esrc esz gqsz gqsn gqal gqre gqfa gqfb gqfc gqfd 12 11 esrs 132 esrf eszo  fu h5 _) (cwV 2 ht (gdV wb408 wb409 wb410 wb79 wb411) rfl rfl rfl (by decide +kernel) ⟨Nat.le_of_ble_eq_true rfl, Nat.le_of_ble_eq_true rfl⟩) hK hP hD hS hA hm [10, 11, 12, 13, 14, 3, 4, 2] rfl rfl 10 1 rfl rfl rfl hl.1 rfl (Nat.le_of_ble_eq_true rfl) dX5_idle_84 ⟨Nat.le_refl _, Nat.le_refl _⟩) hP hD hS hA [10, 11, 12, 13, 14, 3, 4, 2] rfl rfl (fun H locs hP hD hS => ?_)
        have hP : va_P D vwCl [(zq, .inr (5, [.ref es, .ref yh, .ref tx, .ref gp, .ref gq, .int b0, .int b1, .int b2])), (es, .inr (2, [.ref esz, .ref esr, .ref esk, .ref esf, .ref esa, .ref esp, .ref est, .int estm])), (esz, .inl (k 0, 32, .inl eszo)), (esr, .inr (3, [.int 12, .int 11, .ref esrc, .int esrs])), (esrc, .inl (k 0, 132, .inl esrf)), (gp, .inr (1, [.ref gpa, .ref gpb, .ref gpc, .ref gpd, .int r4.1, .int r4.2.1, .int r4.2.2.1, .int r4.2.2.2.1])), (gpa, .inl (k 0, 32, .inl r4.2.2.2.2.1)), (gpb, .inl (k 0, 32, .inl r4.2.2.2.2.2.1)), (gpc, .inl (k 0, 12, .inl r4.2.2.2.2.2.2.1)), (gpd, .inl (k 0, 12, .inl r4.2.2.2.2.2.2.2)), (gq, .inr (1, [.ref gqa, .ref gqb, .ref gqc, .ref gqd, .int r5.1, .int r5.2.1, .int r5.2.2.1, .int r5.2.2.2.1])), (gqa, .inl (k 0, 32, .inl r5.2.2.2.2.1)), (gqb, .inl (k 0, 32, .inl r5.2.2.2.2.2.1)), (gqc, .inl (k 0, 12, .inl r5.2.2.2.2.2.2.1)), (gqd, .inl (k 0, 12, .inl r5.2.2.2.2.2.2.2))] H := hP
        have hD : va_D A [(zq, .inr (5, [.ref es, .ref yh, .ref tx, .ref gp, .ref gq, .int b0, .int b1, .int b2])), (es, .inr (2, [.ref esz, .ref esr, .ref esk, .ref esf, .ref esa, .ref esp, .ref est, .int estm])), (esz, .inl (k 0, 32, .inl eszo)), (esr, .inr (3, [.int 12, .int 11, .ref esrc, .int esrs])), (esrc, .inl (k 0, 132, .inl esrf)), (gp, .inr (1, [.ref gpa, .ref gpb, .ref gpc, .ref gpd, .int r4.1, .int r4.2.1, .int r4.2.2.1, .int r4.2.2.2.1])), (gpa, .inl (k 0, 32, .inl r4.2.2.2.2.1)), (gpb, .inl (k 0, 32, .inl r4.2.2.2.2.2.1)), (gpc, .inl (k 0, 12, .inl r4.2.2.2.2.2.2.1)), (gpd, .inl (k 0, 12, .inl r4.2.2.2.2.2.2.2)), (gq, .inr (1, [.ref gqa, .ref gqb, .ref gqc, .ref gqd, .int r5.1, .int r5.2.1, .int r5.2.2.1, .int r5.2.2.2.1])), (gqa, .inl (k 0, 32, .inl r5.2.2.2.2.1)), (gqb, .inl (k 0, 32, .inl r5.2.2.2.2.2.1)), (gqc, .inl (k 0, 12, .inl r5.2.2.2.2.2.2.1)), (gqd, .inl (k 0, 12, .inl r5.2.2.2.2.2.2.2))] := hD
        refine lv_aload_n hx hb dX5_idle_87 rfl (lv_at hl 0 rfl) ?_
        refine va_get (D := D) (ci := 5) (v := .ref gq) (C := RX5) (T := TX5) (N := 8) hx hb ht hiX5 hown hK hP 0 rfl rfl 4 (by decide) (ht _ wb243) (fun _ h9 => h9) rfl dX5_idle_88 ?_
        refine lv_iload_n hx hb dX5_idle_91 rfl (lv_at hl 1 rfl) ?_
        obtain ⟨r6, h6, h⟩ := zb h
        refine zv (zrV (C := RX1) (T := TX1) (N := 8) (As := [.int a1]) (rest := []) ⟨hx, hb, hml, hown, ht⟩ (c_X1_silence l D k gq gqa gqb gqc gqd r5.1 r5.2.1 r5.2.2.1 r5.2.2.2.1 r5.2.2.2.2.2.2.1 a1 h6 _) (cwV 1 ht (gdV wb457 wb458 wb459 wb79 wb460) rfl rfl rfl (by decide +kernel) ⟨Nat.le_of_ble_eq_true rfl, Nat.le_of_ble_eq_true rfl⟩) hK hP hD hS hA hm [10, 13] rfl rfl 10 1 rfl rfl rfl hl.1 rfl (Nat.le_of_ble_eq_true rfl) dX5_idle_92 ⟨Nat.le_refl _, Nat.le_refl _⟩) hP hD hS hA [10, 13] rfl rfl (fun H locs hP hD hS => ?_)
        have hP : va_P D vwCl [(zq, .inr (5, [.ref es, .ref yh, .ref tx, .ref gp, .ref gq, .int b0, .int b1, .int b2])), (es, .inr (2, [.ref esz, .ref esr, .ref esk, .ref esf, .ref esa, .ref esp, .ref est, .int estm])), (esz, .inl (k 0, 32, .inl eszo)), (esr, .inr (3, [.int 12, .int 11, .ref esrc, .int esrs])), (esrc, .inl (k 0, 132, .inl esrf)), (gp, .inr (1, [.ref gpa, .ref gpb, .ref gpc, .ref gpd, .int r4.1, .int r4.2.1, .int r4.2.2.1, .int r4.2.2.2.1])), (gpa, .inl (k 0, 32, .inl r4.2.2.2.2.1)), (gpb, .inl (k 0, 32, .inl r4.2.2.2.2.2.1)), (gpc, .inl (k 0, 12, .inl r4.2.2.2.2.2.2.1)), (gpd, .inl (k 0, 12, .inl r4.2.2.2.2.2.2.2)), (gq, .inr (1, [.ref gqa, .ref gqb, .ref gqc, .ref gqd, .int r5.1, .int r6.1, .int r6.2.1, .int r6.2.2.1])), (gqa, .inl (k 0, 32, .inl r5.2.2.2.2.1)), (gqb, .inl (k 0, 32, .inl r5.2.2.2.2.2.1)), (gqc, .inl (k 0, 12, .inl r6.2.2.2)), (gqd, .inl (k 0, 12, .inl r5.2.2.2.2.2.2.2))] H := hP
        have hD : va_D A [(zq, .inr (5, [.ref es, .ref yh, .ref tx, .ref gp, .ref gq, .int b0, .int b1, .int b2])), (es, .inr (2, [.ref esz, .ref esr, .ref esk, .ref esf, .ref esa, .ref esp, .ref est, .int estm])), (esz, .inl (k 0, 32, .inl eszo)), (esr, .inr (3, [.int 12, .int 11, .ref esrc, .int esrs])), (esrc, .inl (k 0, 132, .inl esrf)), (gp, .inr (1, [.ref gpa, .ref gpb, .ref gpc, .ref gpd, .int r4.1, .int r4.2.1, .int r4.2.2.1, .int r4.2.2.2.1])), (gpa, .inl (k 0, 32, .inl r4.2.2.2.2.1)), (gpb, .inl (k 0, 32, .inl r4.2.2.2.2.2.1)), (gpc, .inl (k 0, 12, .inl r4.2.2.2.2.2.2.1)), (gpd, .inl (k 0, 12, .inl r4.2.2.2.2.2.2.2)), (gq, .inr (1, [.ref gqa, .ref gqb, .ref gqc, .ref gqd, .int r5.1, .int r6.1, .int r6.2.1, .int r6.2.2.1])), (gqa, .inl (k 0, 32, .inl r5.2.2.2.2.1)), (gqb, .inl (k 0, 32, .inl r5.2.2.2.2.2.1)), (gqc, .inl (k 0, 12, .inl r6.2.2.2)), (gqd, .inl (k 0, 12, .inl r5.2.2.2.2.2.2.2))] := hD
        refine lv_aload_n hx hb dX5_idle_95 rfl (lv_at hl 0 rfl) ?_
        refine va_get (D := D) (ci := 5) (v := .ref gp) (C := RX5) (T := TX5) (N := 8) hx hb ht hiX5 hown hK hP 0 rfl rfl 3 (by decide) (ht _ wb242) (fun _ h9 => h9) rfl dX5_idle_96 ?_
        refine lv_aload_n hx hb dX5_idle_99 rfl (lv_at hl 0 rfl) ?_
        refine va_get (D := D) (ci := 5) (v := .ref gq) (C := RX5) (T := TX5) (N := 8) hx hb ht hiX5 hown hK hP 0 rfl rfl 4 (by decide) (ht _ wb243) (fun _ h9 => h9) rfl dX5_idle_100 ?_
        obtain ⟨r7, h7, h⟩ := zb h
        refine zi (zrV (C := RX1) (T := TX1) (N := 8) (As := [.ref gq]) (rest := []) ⟨hx, hb, hml, hown, ht⟩ (c_X1_firstDifference l D k gp gpa gpb gpc gpd gq gqa gqb gqc gqd r4.1 r4.2.1 r4.2.2.1 r4.2.2.2.1 r4.2.2.2.2.1 r4.2.2.2.2.2.1 r4.2.2.2.2.2.2.1 r4.2.2.2.2.2.2.2 r5.1 r6.1 r6.2.1 r6.2.2.1 r5.2.2.2.2.1 r5.2.2.2.2.2.1 r6.2.2.2 r5.2.2.2.2.2.2.2  fu h7 _) (cwV 1 ht (gdV wb461 wb462 wb463 wb79 wb464) rfl rfl rfl (by decide +kernel) ⟨Nat.le_of_ble_eq_true rfl, Nat.le_of_ble_eq_true rfl⟩) hK hP hD hS hA hm [5, 6, 7, 8, 9, 10, 11, 12, 13, 14] rfl rfl 5 1 rfl rfl rfl hl.1 rfl (Nat.le_of_ble_eq_true rfl) dX5_idle_103 ⟨Nat.le_refl _, Nat.le_refl _⟩) hP hD hS hA [5, 6, 7, 8, 9, 10, 11, 12, 13, 14] rfl rfl (fun H locs hP hD hS => ?_)
        have hP : va_P D vwCl [(zq, .inr (5, [.ref es, .ref yh, .ref tx, .ref gp, .ref gq, .int b0, .int b1, .int b2])), (es, .inr (2, [.ref esz, .ref esr, .ref esk, .ref esf, .ref esa, .ref esp, .ref est, .int estm])), (esz, .inl (k 0, 32, .inl eszo)), (esr, .inr (3, [.int 12, .int 11, .ref esrc, .int esrs])), (esrc, .inl (k 0, 132, .inl esrf)), (gp, .inr (1, [.ref gpa, .ref gpb, .ref gpc, .ref gpd, .int r4.1, .int r7.2.1, .int r7.2.2.1, .int r7.2.2.2.1])), (gpa, .inl (k 0, 32, .inl r4.2.2.2.2.1)), (gpb, .inl (k 0, 32, .inl r4.2.2.2.2.2.1)), (gpc, .inl (k 0, 12, .inl r4.2.2.2.2.2.2.1)), (gpd, .inl (k 0, 12, .inl r4.2.2.2.2.2.2.2)), (gq, .inr (1, [.ref gqa, .ref gqb, .ref gqc, .ref gqd, .int r5.1, .int r7.2.2.2.2.1, .int r7.2.2.2.2.2.1, .int r7.2.2.2.2.2.2])), (gqa, .inl (k 0, 32, .inl r5.2.2.2.2.1)), (gqb, .inl (k 0, 32, .inl r5.2.2.2.2.2.1)), (gqc, .inl (k 0, 12, .inl r6.2.2.2)), (gqd, .inl (k 0, 12, .inl r5.2.2.2.2.2.2.2))] H := hP
        have hD : va_D A [(zq, .inr (5, [.ref es, .ref yh, .ref tx, .ref gp, .ref gq, .int b0, .int b1, .int b2])), (es, .inr (2, [.ref esz, .ref esr, .ref esk, .ref esf, .ref esa, .ref esp, .ref est, .int estm])), (esz, .inl (k 0, 32, .inl eszo)), (esr, .inr (3, [.int 12, .int 11, .ref esrc, .int esrs])), (esrc, .inl (k 0, 132, .inl esrf)), (gp, .inr (1, [.ref gpa, .ref gpb, .ref gpc, .ref gpd, .int r4.1, .int r7.2.1, .int r7.2.2.1, .int r7.2.2.2.1])), (gpa, .inl (k 0, 32, .inl r4.2.2.2.2.1)), (gpb, .inl (k 0, 32, .inl r4.2.2.2.2.2.1)), (gpc, .inl (k 0, 12, .inl r4.2.2.2.2.2.2.1)), (gpd, .inl (k 0, 12, .inl r4.2.2.2.2.2.2.2)), (gq, .inr (1, [.ref gqa, .ref gqb, .ref gqc, .ref gqd, .int r5.1, .int r7.2.2.2.2.1, .int r7.2.2.2.2.2.1, .int r7.2.2.2.2.2.2])), (gqa, .inl (k 0, 32, .inl r5.2.2.2.2.1)), (gqb, .inl (k 0, 32, .inl r5.2.2.2.2.2.1)), (gqc, .inl (k 0, 12, .inl r6.2.2.2)), (gqd, .inl (k 0, 12, .inl r5.2.2.2.2.2.2.2))] := hD
        refine lv_iconst (v := (-1)) hx hb dX5_idle_106 (by decide) ?_
        refine lv_icmp_ne (tgt := 114) hx hb dX5_idle_107 (by decide) (fun c1 => ?_) (fun c1 => ?_)
        · have h := zf h c1
          refine lv_iconst (v := 0) hx hb dX5_idle_114 (by decide) ?_
          obtain rfl := Option.some.inj h
          exact W.iret (v := 0) hx hb hr (fun t ht9 hW => ⟨⟨_, (), rfl, rfl, zend ht9 hP⟩, hS.F ht9⟩) hS.2.2 dX5_idle_115
        · have h := zt h c1
          refine lv_iconst (v := 1) hx hb dX5_idle_110 (by decide) ?_
          refine lv_goto (tgt := 115) hx hb dX5_idle_111 (by decide) ?_
          obtain rfl := Option.some.inj h
          exact W.iret (v := 1) hx hb hr (fun t ht9 hW => ⟨⟨_, (), rfl, rfl, zend ht9 hP⟩, hS.F ht9⟩) hS.2.2 dX5_idle_115
      · have h := zt h c3
        refine lv_aload_n hx hb dX5_idle_49 rfl (lv_at hl 0 rfl) ?_
        refine va_get (D := D) (ci := 5) (v := .ref gp) (C := RX5) (T := TX5) (N := 8) hx hb ht hiX5 hown hK hP 0 rfl rfl 3 (by decide) (ht _ wb242) (fun _ h9 => h9) rfl dX5_idle_50 ?_
        refine lv_iload_n hx hb dX5_idle_53 rfl (lv_at hl 1 rfl) ?_
        obtain ⟨r8, h8, h⟩ := zb h
        refine zi (zrV (C := RX1) (T := TX1) (N := 8) (As := [.int a1]) (rest := []) ⟨hx, hb, hml, hown, ht⟩ (c_X1_casesDecided l D k gp gpa gpb gpc gpd r4.1 r4.2.1 r4.2.2.1 r4.2.2.2.1 r4.2.2.2.2.1 r4.2.2.2.2.2.1 r4.2.2.2.2.2.2.1 a1 fu h8 _) (cwV 1 ht (gdV wb428 wb429 wb430 wb79 wb431) rfl rfl rfl (by decide +kernel) ⟨Nat.le_of_ble_eq_true rfl, Nat.le_of_ble_eq_true rfl⟩) hK hP hD hS hA hm [5, 6, 7, 8] rfl rfl 5 1 rfl rfl rfl hl.1 rfl (Nat.le_of_ble_eq_true rfl) dX5_idle_54 ⟨Nat.le_refl _, Nat.le_refl _⟩) hP hD hS hA [5, 6, 7, 8] rfl rfl (fun H locs hP hD hS => ?_)
        have hP : va_P D vwCl [(zq, .inr (5, [.ref es, .ref yh, .ref tx, .ref gp, .ref gq, .int b0, .int b1, .int b2])), (es, .inr (2, [.ref esz, .ref esr, .ref esk, .ref esf, .ref esa, .ref esp, .ref est, .int estm])), (esz, .inl (k 0, 32, .inl eszo)), (esr, .inr (3, [.int 12, .int 11, .ref esrc, .int esrs])), (esrc, .inl (k 0, 132, .inl esrf)), (gp, .inr (1, [.ref gpa, .ref gpb, .ref gpc, .ref gpd, .int r4.1, .int r4.2.1, .int r4.2.2.1, .int r4.2.2.2.1])), (gpa, .inl (k 0, 32, .inl r4.2.2.2.2.1)), (gpb, .inl (k 0, 32, .inl r4.2.2.2.2.2.1)), (gpc, .inl (k 0, 12, .inl r4.2.2.2.2.2.2.1)), (gpd, .inl (k 0, 12, .inl r4.2.2.2.2.2.2.2)), (gq, .inr (1, [.ref gqa, .ref gqb, .ref gqc, .ref gqd, .int gqsz, .int gqsn, .int gqal, .int gqre])), (gqa, .inl (k 0, 32, .inl gqfa)), (gqb, .inl (k 0, 32, .inl gqfb)), (gqc, .inl (k 0, 12, .inl gqfc)), (gqd, .inl (k 0, 12, .inl gqfd))] H := hP
        have hD : va_D A [(zq, .inr (5, [.ref es, .ref yh, .ref tx, .ref gp, .ref gq, .int b0, .int b1, .int b2])), (es, .inr (2, [.ref esz, .ref esr, .ref esk, .ref esf, .ref esa, .ref esp, .ref est, .int estm])), (esz, .inl (k 0, 32, .inl eszo)), (esr, .inr (3, [.int 12, .int 11, .ref esrc, .int esrs])), (esrc, .inl (k 0, 132, .inl esrf)), (gp, .inr (1, [.ref gpa, .ref gpb, .ref gpc, .ref gpd, .int r4.1, .int r4.2.1, .int r4.2.2.1, .int r4.2.2.2.1])), (gpa, .inl (k 0, 32, .inl r4.2.2.2.2.1)), (gpb, .inl (k 0, 32, .inl r4.2.2.2.2.2.1)), (gpc, .inl (k 0, 12, .inl r4.2.2.2.2.2.2.1)), (gpd, .inl (k 0, 12, .inl r4.2.2.2.2.2.2.2)), (gq, .inr (1, [.ref gqa, .ref gqb, .ref gqc, .ref gqd, .int gqsz, .int gqsn, .int gqal, .int gqre])), (gqa, .inl (k 0, 32, .inl gqfa)), (gqb, .inl (k 0, 32, .inl gqfb)), (gqc, .inl (k 0, 12, .inl gqfc)), (gqd, .inl (k 0, 12, .inl gqfd))] := hD
        refine lv_if_ne (tgt := 64) hx hb dX5_idle_57 (by decide) (fun c2 => ?_) (fun c2 => ?_)
        · have h := zf h c2
          refine lv_iconst (v := 0) hx hb dX5_idle_64 (by decide) ?_
          obtain rfl := Option.some.inj h
          exact W.iret (v := 0) hx hb hr (fun t ht9 hW => ⟨⟨_, (), rfl, rfl, zend ht9 hP⟩, hS.F ht9⟩) hS.2.2 dX5_idle_65
        · have h := zt h c2
          refine lv_iconst (v := 1) hx hb dX5_idle_60 (by decide) ?_
          refine lv_goto (tgt := 65) hx hb dX5_idle_61 (by decide) ?_
          obtain rfl := Option.some.inj h
          exact W.iret (v := 1) hx hb hr (fun t ht9 hW => ⟨⟨_, (), rfl, rfl, zend ht9 hP⟩, hS.F ht9⟩) hS.2.2 dX5_idle_65
    · have h := zt h c4
      refine lv_aload_n hx hb dX5_idle_17 rfl (lv_at hl 0 rfl) ?_
      refine lv_bipush (v := (-2)) hx hb dX5_idle_18 (by decide) ?_
      obtain ⟨r9, h9, h⟩ := zb h
      refine zi (zrV (C := RX5) (T := TX5) (N := 8) (As := [.int (-2)]) (rest := []) ⟨hx, hb, hml, hown, ht⟩ (c_X5_fails l D k zq es yh tx gp gq b0 b1 b2 (-2) h9 _) (cwV 1 ht (gdV wb271 wb273 wb0 wb72 wb274) rfl rfl rfl (by decide +kernel) ⟨Nat.le_of_ble_eq_true rfl, Nat.le_of_ble_eq_true rfl⟩) hK hP hD hS hA hm [0] rfl rfl 0 5 rfl rfl rfl hl.1 rfl (Nat.le_of_ble_eq_true rfl) dX5_idle_20 ⟨Nat.le_refl _, Nat.le_refl _⟩) hP hD hS hA [0] rfl rfl (fun H locs hP hD hS => ?_)
      have hP : va_P D vwCl [(zq, .inr (5, [.ref es, .ref yh, .ref tx, .ref gp, .ref gq, .int r9.2.1, .int r9.2.2.1, .int r9.2.2.2])), (es, .inr (2, [.ref esz, .ref esr, .ref esk, .ref esf, .ref esa, .ref esp, .ref est, .int estm])), (esz, .inl (k 0, 32, .inl eszo)), (esr, .inr (3, [.int 12, .int 11, .ref esrc, .int esrs])), (esrc, .inl (k 0, 132, .inl esrf)), (gp, .inr (1, [.ref gpa, .ref gpb, .ref gpc, .ref gpd, .int gpsz, .int gpsn, .int gpal, .int gpre])), (gpa, .inl (k 0, 32, .inl gpfa)), (gpb, .inl (k 0, 32, .inl gpfb)), (gpc, .inl (k 0, 12, .inl gpfc)), (gpd, .inl (k 0, 12, .inl gpfd)), (gq, .inr (1, [.ref gqa, .ref gqb, .ref gqc, .ref gqd, .int gqsz, .int gqsn, .int gqal, .int gqre])), (gqa, .inl (k 0, 32, .inl gqfa)), (gqb, .inl (k 0, 32, .inl gqfb)), (gqc, .inl (k 0, 12, .inl gqfc)), (gqd, .inl (k 0, 12, .inl gqfd))] H := hP
      have hD : va_D A [(zq, .inr (5, [.ref es, .ref yh, .ref tx, .ref gp, .ref gq, .int r9.2.1, .int r9.2.2.1, .int r9.2.2.2])), (es, .inr (2, [.ref esz, .ref esr, .ref esk, .ref esf, .ref esa, .ref esp, .ref est, .int estm])), (esz, .inl (k 0, 32, .inl eszo)), (esr, .inr (3, [.int 12, .int 11, .ref esrc, .int esrs])), (esrc, .inl (k 0, 132, .inl esrf)), (gp, .inr (1, [.ref gpa, .ref gpb, .ref gpc, .ref gpd, .int gpsz, .int gpsn, .int gpal, .int gpre])), (gpa, .inl (k 0, 32, .inl gpfa)), (gpb, .inl (k 0, 32, .inl gpfb)), (gpc, .inl (k 0, 12, .inl gpfc)), (gpd, .inl (k 0, 12, .inl gpfd)), (gq, .inr (1, [.ref gqa, .ref gqb, .ref gqc, .ref gqd, .int gqsz, .int gqsn, .int gqal, .int gqre])), (gqa, .inl (k 0, 32, .inl gqfa)), (gqb, .inl (k 0, 32, .inl gqfb)), (gqc, .inl (k 0, 12, .inl gqfc)), (gqd, .inl (k 0, 12, .inl gqfd))] := hD
      obtain rfl := Option.some.inj h
      exact W.iret (v := r9.1) hx hb hr (fun t ht9 hW => ⟨⟨_, (), rfl, rfl, zend ht9 hP⟩, hS.F ht9⟩) hS.2.2 dX5_idle_23
def f_X5_contradicts (fu : Nat) (b0 : Int32) (b1 : Int32) (b2 : Int32) (eszo : Nat → Int32) (esrs : Int32) (esrf : Nat → Int32) (gpsz : Int32) (gpsn : Int32) (gpal : Int32) (gpre : Int32) (gpfa : Nat → Int32) (gpfb : Nat → Int32) (gpfc : Nat → Int32) (gpfd : Nat → Int32) (a1 : Int32) (a2 : Int32) : Option (Int32 × Int32 × Int32 × Int32 × Int32 × Int32 × Int32 × Int32 × (Nat → Int32) × (Nat → Int32) × (Nat → Int32) × (Nat → Int32)) :=
  (f_X5_isRule esrs a1).bind fun r1 => if (zB r1) = 0 then ((f_X5_fails b0 b1 b2 (-2)).bind fun r2 => some (r2.1, r2.2.1, r2.2.2.1, r2.2.2.2, gpsz, gpsn, gpal, gpre, gpfa, gpfb, gpfc, gpfd)) else ((f_X5_isRule esrs a2).bind fun r3 => if (zB r3) = 0 then ((f_X5_fails b0 b1 b2 (-2)).bind fun r4 => some (r4.1, r4.2.1, r4.2.2.1, r4.2.2.2, gpsz, gpsn, gpal, gpre, gpfa, gpfb, gpfc, gpfd)) else (if a1 = a2 then ((f_X5_fails b0 b1 b2 (-2)).bind fun r9 => some (r9.1, r9.2.1, r9.2.2.1, r9.2.2.2, gpsz, gpsn, gpal, gpre, gpfa, gpfb, gpfc, gpfd)) else ((f_X3_get 11 esrs 132 esrf a1 9).bind fun r5 => (f_X3_get 11 esrs 132 esrf a2 9).bind fun r6 => if r5 = r6 then (some (0, b0, b1, b2, gpsz, gpsn, gpal, gpre, gpfa, gpfb, gpfc, gpfd)) else ((f_X1_draw fu gpfa gpfb gpfc gpfd 11 esrs 132 esrf eszo ).bind fun r7 => (f_X1_casesFitting fu r7.1 r7.2.2.2.2.1 r7.2.2.2.2.2.1 r7.2.2.2.2.2.2.1 a1 a2).bind fun r8 => some (r8, b0, b1, b2, r7.1, r7.2.1, r7.2.2.1, r7.2.2.2.1, r7.2.2.2.2.1, r7.2.2.2.2.2.1, r7.2.2.2.2.2.2.1, r7.2.2.2.2.2.2.2)))))
abbrev wk_X5_contradicts : List Cond := Cond.code yX5_contradicts cX5_contradicts 3 (some .int) :: WB
abbrev rm_X5_contradicts : Room := { frames := 5, cells := 0, slots := 0, locals := 120 }
set_option maxHeartbeats 4000000 in
set_option maxRecDepth 100000 in
theorem c_X5_contradicts (l : Launch) (D : va_G) (k : Nat → Nat) (zq es yh tx gp gq esz esr esk esf esa esp est esrc gpa gpb gpc gpd : Nat) (b0 : Int32) (b1 : Int32) (b2 : Int32) (estm : Int32) (eszo : Nat → Int32) (esrs : Int32) (esrf : Nat → Int32) (gpsz : Int32) (gpsn : Int32) (gpal : Int32) (gpre : Int32) (gpfa : Nat → Int32) (gpfb : Nat → Int32) (gpfc : Nat → Int32) (gpfd : Nat → Int32) (a1 : Int32) (a2 : Int32) (fu : Nat) {res : Int32 × Int32 × Int32 × Int32 × Int32 × Int32 × Int32 × Int32 × (Nat → Int32) × (Nat → Int32) × (Nat → Int32) × (Nat → Int32)} (h : f_X5_contradicts fu b0 b1 b2 eszo esrs esrf gpsz gpsn gpal gpre gpfa gpfb gpfc gpfd a1 a2 = some res) : Ci l yX5_contradicts wk_X5_contradicts rm_X5_contradicts D k [.ref zq, .int a1, .int a2] [(zq, .inr (5, [.ref es, .ref yh, .ref tx, .ref gp, .ref gq, .int b0, .int b1, .int b2])), (es, .inr (2, [.ref esz, .ref esr, .ref esk, .ref esf, .ref esa, .ref esp, .ref est, .int estm])), (esz, .inl (k 0, 32, .inl eszo)), (esr, .inr (3, [.int 12, .int 11, .ref esrc, .int esrs])), (esrc, .inl (k 0, 132, .inl esrf)), (gp, .inr (1, [.ref gpa, .ref gpb, .ref gpc, .ref gpd, .int gpsz, .int gpsn, .int gpal, .int gpre])), (gpa, .inl (k 0, 32, .inl gpfa)), (gpb, .inl (k 0, 32, .inl gpfb)), (gpc, .inl (k 0, 12, .inl gpfc)), (gpd, .inl (k 0, 12, .inl gpfd))] [(zq, .inr (5, [.ref es, .ref yh, .ref tx, .ref gp, .ref gq, .int res.2.1, .int res.2.2.1, .int res.2.2.2.1])), (es, .inr (2, [.ref esz, .ref esr, .ref esk, .ref esf, .ref esa, .ref esp, .ref est, .int estm])), (esz, .inl (k 0, 32, .inl eszo)), (esr, .inr (3, [.int 12, .int 11, .ref esrc, .int esrs])), (esrc, .inl (k 0, 132, .inl esrf)), (gp, .inr (1, [.ref gpa, .ref gpb, .ref gpc, .ref gpd, .int res.2.2.2.2.1, .int res.2.2.2.2.2.1, .int res.2.2.2.2.2.2.1, .int res.2.2.2.2.2.2.2.1])), (gpa, .inl (k 0, 32, .inl res.2.2.2.2.2.2.2.2.1)), (gpb, .inl (k 0, 32, .inl res.2.2.2.2.2.2.2.2.2.1)), (gpc, .inl (k 0, 12, .inl res.2.2.2.2.2.2.2.2.2.2.1)), (gpd, .inl (k 0, 12, .inl res.2.2.2.2.2.2.2.2.2.2.2))] res.1 := by
  unfold Ci
  intro sz
  refine Met.ofW (cc := cX5_contradicts) (maxL := 3) (ret := (some .int)) (by decide) rfl ?_
  intro p e s m args below meth c s₁ B hml hv
  obtain ⟨rfl, hsz, hP, hK, hD0, hm⟩ := hv
  have hx := B.exec
  have hb := B.bytes
  have hr := B.returns
  have ht : ∀ w ∈ WB, w.before _ s = true := fun w hw => atoms_spec (ws := wk_X5_contradicts) B.pre w (List.mem_cons_of_mem _ hw)
  have hown : s.vm.findClass RX5 = some m.cls := findClass_of_methodNamed B.named
  have hlocks := B.notSynchronized
  subst hsz
  have hD := hD0.self (sz := s.heap.size)
  generalize hAe : va_A [(zq, .inr (5, [.ref es, .ref yh, .ref tx, .ref gp, .ref gq, .int b0, .int b1, .int b2])), (es, .inr (2, [.ref esz, .ref esr, .ref esk, .ref esf, .ref esa, .ref esp, .ref est, .int estm])), (esz, .inl (k 0, 32, .inl eszo)), (esr, .inr (3, [.int 12, .int 11, .ref esrc, .int esrs])), (esrc, .inl (k 0, 132, .inl esrf)), (gp, .inr (1, [.ref gpa, .ref gpb, .ref gpc, .ref gpd, .int gpsz, .int gpsn, .int gpal, .int gpre])), (gpa, .inl (k 0, 32, .inl gpfa)), (gpb, .inl (k 0, 32, .inl gpfb)), (gpc, .inl (k 0, 12, .inl gpfc)), (gpd, .inl (k 0, 12, .inl gpfd))] s.heap.size = A at hD hm ⊢
  have hA : ∀ q : Nat, s.heap.size ≤ q → A q := fun q h => by rw [← hAe]; exact Or.inr h
  have hS : va_S A s.heap s.heap [] := va_S.rf
  have hl := lv_entry ([.ref zq, .int a1, .int a2]) (n := 3) (Nat.le_of_ble_eq_true rfl)
  rw [lg_entry_eq]
  generalize (lg_sl ([.ref zq, .int a1, .int a2]) ++ List.replicate (3 - (lg_sl ([.ref zq, .int a1, .int a2])).length) Slot.unset).toArray = ls at hl ⊢
  have hl : lv_has ls 3 [(0, .ref zq), (1, .int a1), (2, .int a2)] := hl
  obtain ⟨H, hH⟩ : ∃ H, H = s.heap := ⟨_, rfl⟩
  rw [← hH] at hP
  have hS : va_S A s.heap H [] := by rw [hH]; exact hS
  suffices hgo : W p l e _ s m _ below meth c H [] 0 0 _ _ by rw [hH] at hgo; exact hgo
  unfold f_X5_contradicts at h
  refine lv_aload_n hx hb dX5_contradicts_0 rfl (lv_at hl 0 rfl) ?_
  refine lv_iload_n hx hb dX5_contradicts_1 rfl (lv_at hl 1 rfl) ?_
  obtain ⟨r1, h1, h⟩ := zb h
  refine zi (zrV (C := RX5) (T := TX5) (N := 8) (As := [.int a1]) (rest := []) ⟨hx, hb, hml, hown, ht⟩ (c_X5_isRule l D k zq es yh tx gp gq esz esr esk esf esa esp est esrc b0 b1 b2 estm esrs esrf a1 h1 _) (cwV 1 ht (gdV wb334 wb336 wb3 wb72 wb337) rfl rfl rfl (by decide +kernel) ⟨Nat.le_of_ble_eq_true rfl, Nat.le_of_ble_eq_true rfl⟩) hK hP hD hS hA hm [0, 1, 3, 4] rfl rfl 0 5 rfl rfl rfl hl.1 rfl (Nat.le_of_ble_eq_true rfl) dX5_contradicts_2 ⟨Nat.le_refl _, Nat.le_refl _⟩) hP hD hS hA [0, 1, 3, 4] rfl rfl (fun H locs hP hD hS => ?_)
  have hP : va_P D vwCl [(zq, .inr (5, [.ref es, .ref yh, .ref tx, .ref gp, .ref gq, .int b0, .int b1, .int b2])), (es, .inr (2, [.ref esz, .ref esr, .ref esk, .ref esf, .ref esa, .ref esp, .ref est, .int estm])), (esz, .inl (k 0, 32, .inl eszo)), (esr, .inr (3, [.int 12, .int 11, .ref esrc, .int esrs])), (esrc, .inl (k 0, 132, .inl esrf)), (gp, .inr (1, [.ref gpa, .ref gpb, .ref gpc, .ref gpd, .int gpsz, .int gpsn, .int gpal, .int gpre])), (gpa, .inl (k 0, 32, .inl gpfa)), (gpb, .inl (k 0, 32, .inl gpfb)), (gpc, .inl (k 0, 12, .inl gpfc)), (gpd, .inl (k 0, 12, .inl gpfd))] H := hP
  have hD : va_D A [(zq, .inr (5, [.ref es, .ref yh, .ref tx, .ref gp, .ref gq, .int b0, .int b1, .int b2])), (es, .inr (2, [.ref esz, .ref esr, .ref esk, .ref esf, .ref esa, .ref esp, .ref est, .int estm])), (esz, .inl (k 0, 32, .inl eszo)), (esr, .inr (3, [.int 12, .int 11, .ref esrc, .int esrs])), (esrc, .inl (k 0, 132, .inl esrf)), (gp, .inr (1, [.ref gpa, .ref gpb, .ref gpc, .ref gpd, .int gpsz, .int gpsn, .int gpal, .int gpre])), (gpa, .inl (k 0, 32, .inl gpfa)), (gpb, .inl (k 0, 32, .inl gpfb)), (gpc, .inl (k 0, 12, .inl gpfc)), (gpd, .inl (k 0, 12, .inl gpfd))] := hD
  refine lv_if_eq (tgt := 21) hx hb dX5_contradicts_5 (by decide) (fun c4 => ?_) (fun c4 => ?_)
  · have h := zt h c4
    refine lv_aload_n hx hb dX5_contradicts_21 rfl (lv_at hl 0 rfl) ?_
    refine lv_bipush (v := (-2)) hx hb dX5_contradicts_22 (by decide) ?_
    obtain ⟨r2, h2, h⟩ := zb h
    refine zi (zrV (C := RX5) (T := TX5) (N := 8) (As := [.int (-2)]) (rest := []) ⟨hx, hb, hml, hown, ht⟩ (c_X5_fails l D k zq es yh tx gp gq b0 b1 b2 (-2) h2 _) (cwV 1 ht (gdV wb271 wb273 wb0 wb72 wb274) rfl rfl rfl (by decide +kernel) ⟨Nat.le_of_ble_eq_true rfl, Nat.le_of_ble_eq_true rfl⟩) hK hP hD hS hA hm [0] rfl rfl 0 5 rfl rfl rfl hl.1 rfl (Nat.le_of_ble_eq_true rfl) dX5_contradicts_24 ⟨Nat.le_refl _, Nat.le_refl _⟩) hP hD hS hA [0] rfl rfl (fun H locs hP hD hS => ?_)
    have hP : va_P D vwCl [(zq, .inr (5, [.ref es, .ref yh, .ref tx, .ref gp, .ref gq, .int r2.2.1, .int r2.2.2.1, .int r2.2.2.2])), (es, .inr (2, [.ref esz, .ref esr, .ref esk, .ref esf, .ref esa, .ref esp, .ref est, .int estm])), (esz, .inl (k 0, 32, .inl eszo)), (esr, .inr (3, [.int 12, .int 11, .ref esrc, .int esrs])), (esrc, .inl (k 0, 132, .inl esrf)), (gp, .inr (1, [.ref gpa, .ref gpb, .ref gpc, .ref gpd, .int gpsz, .int gpsn, .int gpal, .int gpre])), (gpa, .inl (k 0, 32, .inl gpfa)), (gpb, .inl (k 0, 32, .inl gpfb)), (gpc, .inl (k 0, 12, .inl gpfc)), (gpd, .inl (k 0, 12, .inl gpfd))] H := hP
    have hD : va_D A [(zq, .inr (5, [.ref es, .ref yh, .ref tx, .ref gp, .ref gq, .int r2.2.1, .int r2.2.2.1, .int r2.2.2.2])), (es, .inr (2, [.ref esz, .ref esr, .ref esk, .ref esf, .ref esa, .ref esp, .ref est, .int estm])), (esz, .inl (k 0, 32, .inl eszo)), (esr, .inr (3, [.int 12, .int 11, .ref esrc, .int esrs])), (esrc, .inl (k 0, 132, .inl esrf)), (gp, .inr (1, [.ref gpa, .ref gpb, .ref gpc, .ref gpd, .int gpsz, .int gpsn, .int gpal, .int gpre])), (gpa, .inl (k 0, 32, .inl gpfa)), (gpb, .inl (k 0, 32, .inl gpfb)), (gpc, .inl (k 0, 12, .inl gpfc)), (gpd, .inl (k 0, 12, .inl gpfd))] := hD
    obtain rfl := Option.some.inj h
    exact W.iret (v := r2.1) hx hb hr (fun t ht9 hW => ⟨⟨_, (), rfl, rfl, zend ht9 hP⟩, hS.F ht9⟩) hS.2.2 dX5_contradicts_27
  · have h := zf h c4
    refine lv_aload_n hx hb dX5_contradicts_8 rfl (lv_at hl 0 rfl) ?_
    refine lv_iload_n hx hb dX5_contradicts_9 rfl (lv_at hl 2 rfl) ?_
    obtain ⟨r3, h3, h⟩ := zb h
    refine zi (zrV (C := RX5) (T := TX5) (N := 8) (As := [.int a2]) (rest := []) ⟨hx, hb, hml, hown, ht⟩ (c_X5_isRule l D k zq es yh tx gp gq esz esr esk esf esa esp est esrc b0 b1 b2 estm esrs esrf a2 h3 _) (cwV 1 ht (gdV wb334 wb336 wb3 wb72 wb337) rfl rfl rfl (by decide +kernel) ⟨Nat.le_of_ble_eq_true rfl, Nat.le_of_ble_eq_true rfl⟩) hK hP hD hS hA hm [0, 1, 3, 4] rfl rfl 0 5 rfl rfl rfl hl.1 rfl (Nat.le_of_ble_eq_true rfl) dX5_contradicts_10 ⟨Nat.le_refl _, Nat.le_refl _⟩) hP hD hS hA [0, 1, 3, 4] rfl rfl (fun H locs hP hD hS => ?_)
    have hP : va_P D vwCl [(zq, .inr (5, [.ref es, .ref yh, .ref tx, .ref gp, .ref gq, .int b0, .int b1, .int b2])), (es, .inr (2, [.ref esz, .ref esr, .ref esk, .ref esf, .ref esa, .ref esp, .ref est, .int estm])), (esz, .inl (k 0, 32, .inl eszo)), (esr, .inr (3, [.int 12, .int 11, .ref esrc, .int esrs])), (esrc, .inl (k 0, 132, .inl esrf)), (gp, .inr (1, [.ref gpa, .ref gpb, .ref gpc, .ref gpd, .int gpsz, .int gpsn, .int gpal, .int gpre])), (gpa, .inl (k 0, 32, .inl gpfa)), (gpb, .inl (k 0, 32, .inl gpfb)), (gpc, .inl (k 0, 12, .inl gpfc)), (gpd, .inl (k 0, 12, .inl gpfd))] H := hP
    have hD : va_D A [(zq, .inr (5, [.ref es, .ref yh, .ref tx, .ref gp, .ref gq, .int b0, .int b1, .int b2])), (es, .inr (2, [.ref esz, .ref esr, .ref esk, .ref esf, .ref esa, .ref esp, .ref est, .int estm])), (esz, .inl (k 0, 32, .inl eszo)), (esr, .inr (3, [.int 12, .int 11, .ref esrc, .int esrs])), (esrc, .inl (k 0, 132, .inl esrf)), (gp, .inr (1, [.ref gpa, .ref gpb, .ref gpc, .ref gpd, .int gpsz, .int gpsn, .int gpal, .int gpre])), (gpa, .inl (k 0, 32, .inl gpfa)), (gpb, .inl (k 0, 32, .inl gpfb)), (gpc, .inl (k 0, 12, .inl gpfc)), (gpd, .inl (k 0, 12, .inl gpfd))] := hD
    refine lv_if_eq (tgt := 21) hx hb dX5_contradicts_13 (by decide) (fun c3 => ?_) (fun c3 => ?_)
    · have h := zt h c3
      refine lv_aload_n hx hb dX5_contradicts_21 rfl (lv_at hl 0 rfl) ?_
      refine lv_bipush (v := (-2)) hx hb dX5_contradicts_22 (by decide) ?_
      obtain ⟨r4, h4, h⟩ := zb h
      refine zi (zrV (C := RX5) (T := TX5) (N := 8) (As := [.int (-2)]) (rest := []) ⟨hx, hb, hml, hown, ht⟩ (c_X5_fails l D k zq es yh tx gp gq b0 b1 b2 (-2) h4 _) (cwV 1 ht (gdV wb271 wb273 wb0 wb72 wb274) rfl rfl rfl (by decide +kernel) ⟨Nat.le_of_ble_eq_true rfl, Nat.le_of_ble_eq_true rfl⟩) hK hP hD hS hA hm [0] rfl rfl 0 5 rfl rfl rfl hl.1 rfl (Nat.le_of_ble_eq_true rfl) dX5_contradicts_24 ⟨Nat.le_refl _, Nat.le_refl _⟩) hP hD hS hA [0] rfl rfl (fun H locs hP hD hS => ?_)
      have hP : va_P D vwCl [(zq, .inr (5, [.ref es, .ref yh, .ref tx, .ref gp, .ref gq, .int r4.2.1, .int r4.2.2.1, .int r4.2.2.2])), (es, .inr (2, [.ref esz, .ref esr, .ref esk, .ref esf, .ref esa, .ref esp, .ref est, .int estm])), (esz, .inl (k 0, 32, .inl eszo)), (esr, .inr (3, [.int 12, .int 11, .ref esrc, .int esrs])), (esrc, .inl (k 0, 132, .inl esrf)), (gp, .inr (1, [.ref gpa, .ref gpb, .ref gpc, .ref gpd, .int gpsz, .int gpsn, .int gpal, .int gpre])), (gpa, .inl (k 0, 32, .inl gpfa)), (gpb, .inl (k 0, 32, .inl gpfb)), (gpc, .inl (k 0, 12, .inl gpfc)), (gpd, .inl (k 0, 12, .inl gpfd))] H := hP
      have hD : va_D A [(zq, .inr (5, [.ref es, .ref yh, .ref tx, .ref gp, .ref gq, .int r4.2.1, .int r4.2.2.1, .int r4.2.2.2])), (es, .inr (2, [.ref esz, .ref esr, .ref esk, .ref esf, .ref esa, .ref esp, .ref est, .int estm])), (esz, .inl (k 0, 32, .inl eszo)), (esr, .inr (3, [.int 12, .int 11, .ref esrc, .int esrs])), (esrc, .inl (k 0, 132, .inl esrf)), (gp, .inr (1, [.ref gpa, .ref gpb, .ref gpc, .ref gpd, .int gpsz, .int gpsn, .int gpal, .int gpre])), (gpa, .inl (k 0, 32, .inl gpfa)), (gpb, .inl (k 0, 32, .inl gpfb)), (gpc, .inl (k 0, 12, .inl gpfc)), (gpd, .inl (k 0, 12, .inl gpfd))] := hD
      obtain rfl := Option.some.inj h
      exact W.iret (v := r4.1) hx hb hr (fun t ht9 hW => ⟨⟨_, (), rfl, rfl, zend ht9 hP⟩, hS.F ht9⟩) hS.2.2 dX5_contradicts_27
    · have h := zf h c3
      refine lv_iload_n hx hb dX5_contradicts_16 rfl (lv_at hl 1 rfl) ?_
      refine lv_iload_n hx hb dX5_contradicts_17 rfl (lv_at hl 2 rfl) ?_
      refine lv_icmp_ne (tgt := 28) hx hb dX5_contradicts_18 (by decide) (fun c2 => ?_) (fun c2 => ?_)
      · have h := zf h c2
        refine lv_aload_n hx hb dX5_contradicts_28 rfl (lv_at hl 0 rfl) ?_
        refine va_get (D := D) (ci := 5) (v := .ref es) (C := RX5) (T := TX5) (N := 8) hx hb ht hiX5 hown hK hP 0 rfl rfl 0 (by decide) (ht _ wb239) (fun _ h9 => h9) rfl dX5_contradicts_29 ?_
        refine va_getN (D := D) (ci := 2) (v := .ref esr) (C := RX2) (T := TX2) (N := 8) hx hb ht hiX2 hown hK hP 1 rfl rfl 1 (by decide) (va_Nw.use rfl (hm.1 _ (List.mem_of_getElem? (i := 2) rfl))) (fun _ h9 => h9) rfl dX5_contradicts_32 ?_
        refine lv_iload_n hx hb dX5_contradicts_35 rfl (lv_at hl 1 rfl) ?_
        refine lv_bipush (v := 9) hx hb dX5_contradicts_36 (by decide) ?_
        obtain ⟨r5, h5, h⟩ := zb h
        refine zi (zrV (C := RX3) (T := TX3) (N := 4) (As := [.int a1, .int 9]) (rest := []) ⟨hx, hb, hml, hown, ht⟩ (c_X3_get l D k esr esrc 12 11 esrs 132 esrf a1 9 h5 _) (cwV 2 ht (gdV wb343 wb344 wb345 wb74 wb346) rfl rfl rfl (by decide +kernel) ⟨Nat.le_of_ble_eq_true rfl, Nat.le_of_ble_eq_true rfl⟩) hK hP hD hS hA hm [3, 4] rfl rfl 3 3 rfl rfl rfl hl.1 rfl (Nat.le_of_ble_eq_true rfl) dX5_contradicts_38 ⟨Nat.le_refl _, Nat.le_refl _⟩) hP hD hS hA [3, 4] rfl rfl (fun H locs hP hD hS => ?_)
        have hP : va_P D vwCl [(zq, .inr (5, [.ref es, .ref yh, .ref tx, .ref gp, .ref gq, .int b0, .int b1, .int b2])), (es, .inr (2, [.ref esz, .ref esr, .ref esk, .ref esf, .ref esa, .ref esp, .ref est, .int estm])), (esz, .inl (k 0, 32, .inl eszo)), (esr, .inr (3, [.int 12, .int 11, .ref esrc, .int esrs])), (esrc, .inl (k 0, 132, .inl esrf)), (gp, .inr (1, [.ref gpa, .ref gpb, .ref gpc, .ref gpd, .int gpsz, .int gpsn, .int gpal, .int gpre])), (gpa, .inl (k 0, 32, .inl gpfa)), (gpb, .inl (k 0, 32, .inl gpfb)), (gpc, .inl (k 0, 12, .inl gpfc)), (gpd, .inl (k 0, 12, .inl gpfd))] H := hP
        have hD : va_D A [(zq, .inr (5, [.ref es, .ref yh, .ref tx, .ref gp, .ref gq, .int b0, .int b1, .int b2])), (es, .inr (2, [.ref esz, .ref esr, .ref esk, .ref esf, .ref esa, .ref esp, .ref est, .int estm])), (esz, .inl (k 0, 32, .inl eszo)), (esr, .inr (3, [.int 12, .int 11, .ref esrc, .int esrs])), (esrc, .inl (k 0, 132, .inl esrf)), (gp, .inr (1, [.ref gpa, .ref gpb, .ref gpc, .ref gpd, .int gpsz, .int gpsn, .int gpal, .int gpre])), (gpa, .inl (k 0, 32, .inl gpfa)), (gpb, .inl (k 0, 32, .inl gpfb)), (gpc, .inl (k 0, 12, .inl gpfc)), (gpd, .inl (k 0, 12, .inl gpfd))] := hD
        refine lv_aload_n hx hb dX5_contradicts_41 rfl (lv_at hl 0 rfl) ?_
        refine va_get (D := D) (ci := 5) (v := .ref es) (C := RX5) (T := TX5) (N := 8) hx hb ht hiX5 hown hK hP 0 rfl rfl 0 (by decide) (ht _ wb239) (fun _ h9 => h9) rfl dX5_contradicts_42 ?_
        refine va_getN (D := D) (ci := 2) (v := .ref esr) (C := RX2) (T := TX2) (N := 8) hx hb ht hiX2 hown hK hP 1 rfl rfl 1 (by decide) (va_Nw.use rfl (hm.1 _ (List.mem_of_getElem? (i := 2) rfl))) (fun _ h9 => h9) rfl dX5_contradicts_45 ?_
        refine lv_iload_n hx hb dX5_contradicts_48 rfl (lv_at hl 2 rfl) ?_
        refine lv_bipush (v := 9) hx hb dX5_contradicts_49 (by decide) ?_
        obtain ⟨r6, h6, h⟩ := zb h
        refine zi (zrV (C := RX3) (T := TX3) (N := 4) (As := [.int a2, .int 9]) (rest := [.int r5]) ⟨hx, hb, hml, hown, ht⟩ (c_X3_get l D k esr esrc 12 11 esrs 132 esrf a2 9 h6 _) (cwV 2 ht (gdV wb343 wb344 wb345 wb74 wb346) rfl rfl rfl (by decide +kernel) ⟨Nat.le_of_ble_eq_true rfl, Nat.le_of_ble_eq_true rfl⟩) hK hP hD hS hA hm [3, 4] rfl rfl 3 3 rfl rfl rfl hl.1 rfl (Nat.le_of_ble_eq_true rfl) dX5_contradicts_51 ⟨Nat.le_refl _, Nat.le_refl _⟩) hP hD hS hA [3, 4] rfl rfl (fun H locs hP hD hS => ?_)
        have hP : va_P D vwCl [(zq, .inr (5, [.ref es, .ref yh, .ref tx, .ref gp, .ref gq, .int b0, .int b1, .int b2])), (es, .inr (2, [.ref esz, .ref esr, .ref esk, .ref esf, .ref esa, .ref esp, .ref est, .int estm])), (esz, .inl (k 0, 32, .inl eszo)), (esr, .inr (3, [.int 12, .int 11, .ref esrc, .int esrs])), (esrc, .inl (k 0, 132, .inl esrf)), (gp, .inr (1, [.ref gpa, .ref gpb, .ref gpc, .ref gpd, .int gpsz, .int gpsn, .int gpal, .int gpre])), (gpa, .inl (k 0, 32, .inl gpfa)), (gpb, .inl (k 0, 32, .inl gpfb)), (gpc, .inl (k 0, 12, .inl gpfc)), (gpd, .inl (k 0, 12, .inl gpfd))] H := hP
        have hD : va_D A [(zq, .inr (5, [.ref es, .ref yh, .ref tx, .ref gp, .ref gq, .int b0, .int b1, .int b2])), (es, .inr (2, [.ref esz, .ref esr, .ref esk, .ref esf, .ref esa, .ref esp, .ref est, .int estm])), (esz, .inl (k 0, 32, .inl eszo)), (esr, .inr (3, [.int 12, .int 11, .ref esrc, .int esrs])), (esrc, .inl (k 0, 132, .inl esrf)), (gp, .inr (1, [.ref gpa, .ref gpb, .ref gpc, .ref gpd, .int gpsz, .int gpsn, .int gpal, .int gpre])), (gpa, .inl (k 0, 32, .inl gpfa)), (gpb, .inl (k 0, 32, .inl gpfb)), (gpc, .inl (k 0, 12, .inl gpfc)), (gpd, .inl (k 0, 12, .inl gpfd))] := hD
        refine lv_icmp_ne (tgt := 59) hx hb dX5_contradicts_54 (by decide) (fun c1 => ?_) (fun c1 => ?_)
        · have h := zf h c1
          refine lv_aload_n hx hb dX5_contradicts_59 rfl (lv_at hl 0 rfl) ?_
          refine va_get (D := D) (ci := 5) (v := .ref gp) (C := RX5) (T := TX5) (N := 8) hx hb ht hiX5 hown hK hP 0 rfl rfl 3 (by decide) (ht _ wb242) (fun _ h9 => h9) rfl dX5_contradicts_60 ?_
          refine lv_aload_n hx hb dX5_contradicts_63 rfl (lv_at hl 0 rfl) ?_
          refine va_get (D := D) (ci := 5) (v := .ref es) (C := RX5) (T := TX5) (N := 8) hx hb ht hiX5 hown hK hP 0 rfl rfl 0 (by decide) (ht _ wb239) (fun _ h9 => h9) rfl dX5_contradicts_64 ?_
          refine va_getN (D := D) (ci := 2) (v := .ref esr) (C := RX2) (T := TX2) (N := 8) hx hb ht hiX2 hown hK hP 1 rfl rfl 1 (by decide) (va_Nw.use rfl (hm.1 _ (List.mem_of_getElem? (i := 2) rfl))) (fun _ h9 => h9) rfl dX5_contradicts_67 ?_
          refine lv_aload_n hx hb dX5_contradicts_70 rfl (lv_at hl 0 rfl) ?_
          refine va_get (D := D) (ci := 5) (v := .ref es) (C := RX5) (T := TX5) (N := 8) hx hb ht hiX5 hown hK hP 0 rfl rfl 0 (by decide) (ht _ wb239) (fun _ h9 => h9) rfl dX5_contradicts_71 ?_
          refine va_getN (D := D) (ci := 2) (v := .ref esz) (C := RX2) (T := TX2) (N := 8) hx hb ht hiX2 hown hK hP 1 rfl rfl 0 (by decide) (va_Nw.use rfl (hm.1 _ (List.mem_of_getElem? (i := 1) rfl))) (fun _ h9 => h9) rfl dX5_contradicts_74 ?_
          obtain ⟨r7, h7, h⟩ := zb h
          refine zv (zrV (C := RX1) (T := TX1) (N := 8) (As := [.ref esr, .ref esz]) (rest := []) ⟨hx, hb, hml, hown, ht⟩ (c_X1_draw l D k gp gpa gpb gpc gpd esr esrc esz gpsz gpsn gpal gpre gpfa gpfb gpfc gpfd 12 11 esrs 132 esrf eszo  fu h7 _) (cwV 2 ht (gdV wb408 wb409 wb410 wb79 wb411) rfl rfl rfl (by decide +kernel) ⟨Nat.le_of_ble_eq_true rfl, Nat.le_of_ble_eq_true rfl⟩) hK hP hD hS hA hm [5, 6, 7, 8, 9, 3, 4, 2] rfl rfl 5 1 rfl rfl rfl hl.1 rfl (Nat.le_of_ble_eq_true rfl) dX5_contradicts_77 ⟨Nat.le_refl _, Nat.le_refl _⟩) hP hD hS hA [5, 6, 7, 8, 9, 3, 4, 2] rfl rfl (fun H locs hP hD hS => ?_)
          have hP : va_P D vwCl [(zq, .inr (5, [.ref es, .ref yh, .ref tx, .ref gp, .ref gq, .int b0, .int b1, .int b2])), (es, .inr (2, [.ref esz, .ref esr, .ref esk, .ref esf, .ref esa, .ref esp, .ref est, .int estm])), (esz, .inl (k 0, 32, .inl eszo)), (esr, .inr (3, [.int 12, .int 11, .ref esrc, .int esrs])), (esrc, .inl (k 0, 132, .inl esrf)), (gp, .inr (1, [.ref gpa, .ref gpb, .ref gpc, .ref gpd, .int r7.1, .int r7.2.1, .int r7.2.2.1, .int r7.2.2.2.1])), (gpa, .inl (k 0, 32, .inl r7.2.2.2.2.1)), (gpb, .inl (k 0, 32, .inl r7.2.2.2.2.2.1)), (gpc, .inl (k 0, 12, .inl r7.2.2.2.2.2.2.1)), (gpd, .inl (k 0, 12, .inl r7.2.2.2.2.2.2.2))] H := hP
          have hD : va_D A [(zq, .inr (5, [.ref es, .ref yh, .ref tx, .ref gp, .ref gq, .int b0, .int b1, .int b2])), (es, .inr (2, [.ref esz, .ref esr, .ref esk, .ref esf, .ref esa, .ref esp, .ref est, .int estm])), (esz, .inl (k 0, 32, .inl eszo)), (esr, .inr (3, [.int 12, .int 11, .ref esrc, .int esrs])), (esrc, .inl (k 0, 132, .inl esrf)), (gp, .inr (1, [.ref gpa, .ref gpb, .ref gpc, .ref gpd, .int r7.1, .int r7.2.1, .int r7.2.2.1, .int r7.2.2.2.1])), (gpa, .inl (k 0, 32, .inl r7.2.2.2.2.1)), (gpb, .inl (k 0, 32, .inl r7.2.2.2.2.2.1)), (gpc, .inl (k 0, 12, .inl r7.2.2.2.2.2.2.1)), (gpd, .inl (k 0, 12, .inl r7.2.2.2.2.2.2.2))] := hD
          refine lv_aload_n hx hb dX5_contradicts_80 rfl (lv_at hl 0 rfl) ?_
          refine va_get (D := D) (ci := 5) (v := .ref gp) (C := RX5) (T := TX5) (N := 8) hx hb ht hiX5 hown hK hP 0 rfl rfl 3 (by decide) (ht _ wb242) (fun _ h9 => h9) rfl dX5_contradicts_81 ?_
          refine lv_iload_n hx hb dX5_contradicts_84 rfl (lv_at hl 1 rfl) ?_
          refine lv_iload_n hx hb dX5_contradicts_85 rfl (lv_at hl 2 rfl) ?_
          obtain ⟨r8, h8, h⟩ := zb h
          refine zi (zrV (C := RX1) (T := TX1) (N := 8) (As := [.int a1, .int a2]) (rest := []) ⟨hx, hb, hml, hown, ht⟩ (c_X1_casesFitting l D k gp gpa gpb gpc gpd r7.1 r7.2.1 r7.2.2.1 r7.2.2.2.1 r7.2.2.2.2.1 r7.2.2.2.2.2.1 r7.2.2.2.2.2.2.1 a1 a2 fu h8 _) (cwV 2 ht (gdV wb446 wb447 wb448 wb79 wb449) rfl rfl rfl (by decide +kernel) ⟨Nat.le_of_ble_eq_true rfl, Nat.le_of_ble_eq_true rfl⟩) hK hP hD hS hA hm [5, 6, 7, 8] rfl rfl 5 1 rfl rfl rfl hl.1 rfl (Nat.le_of_ble_eq_true rfl) dX5_contradicts_86 ⟨Nat.le_refl _, Nat.le_refl _⟩) hP hD hS hA [5, 6, 7, 8] rfl rfl (fun H locs hP hD hS => ?_)
          have hP : va_P D vwCl [(zq, .inr (5, [.ref es, .ref yh, .ref tx, .ref gp, .ref gq, .int b0, .int b1, .int b2])), (es, .inr (2, [.ref esz, .ref esr, .ref esk, .ref esf, .ref esa, .ref esp, .ref est, .int estm])), (esz, .inl (k 0, 32, .inl eszo)), (esr, .inr (3, [.int 12, .int 11, .ref esrc, .int esrs])), (esrc, .inl (k 0, 132, .inl esrf)), (gp, .inr (1, [.ref gpa, .ref gpb, .ref gpc, .ref gpd, .int r7.1, .int r7.2.1, .int r7.2.2.1, .int r7.2.2.2.1])), (gpa, .inl (k 0, 32, .inl r7.2.2.2.2.1)), (gpb, .inl (k 0, 32, .inl r7.2.2.2.2.2.1)), (gpc, .inl (k 0, 12, .inl r7.2.2.2.2.2.2.1)), (gpd, .inl (k 0, 12, .inl r7.2.2.2.2.2.2.2))] H := hP
          have hD : va_D A [(zq, .inr (5, [.ref es, .ref yh, .ref tx, .ref gp, .ref gq, .int b0, .int b1, .int b2])), (es, .inr (2, [.ref esz, .ref esr, .ref esk, .ref esf, .ref esa, .ref esp, .ref est, .int estm])), (esz, .inl (k 0, 32, .inl eszo)), (esr, .inr (3, [.int 12, .int 11, .ref esrc, .int esrs])), (esrc, .inl (k 0, 132, .inl esrf)), (gp, .inr (1, [.ref gpa, .ref gpb, .ref gpc, .ref gpd, .int r7.1, .int r7.2.1, .int r7.2.2.1, .int r7.2.2.2.1])), (gpa, .inl (k 0, 32, .inl r7.2.2.2.2.1)), (gpb, .inl (k 0, 32, .inl r7.2.2.2.2.2.1)), (gpc, .inl (k 0, 12, .inl r7.2.2.2.2.2.2.1)), (gpd, .inl (k 0, 12, .inl r7.2.2.2.2.2.2.2))] := hD
          obtain rfl := Option.some.inj h
          exact W.iret (v := r8) hx hb hr (fun t ht9 hW => ⟨⟨_, (), rfl, rfl, zend ht9 hP⟩, hS.F ht9⟩) hS.2.2 dX5_contradicts_89
        · have h := zt h c1
          refine lv_iconst (v := 0) hx hb dX5_contradicts_57 (by decide) ?_
          obtain rfl := Option.some.inj h
          exact W.iret (v := 0) hx hb hr (fun t ht9 hW => ⟨⟨_, (), rfl, rfl, zend ht9 hP⟩, hS.F ht9⟩) hS.2.2 dX5_contradicts_58
      · have h := zt h c2
        refine lv_aload_n hx hb dX5_contradicts_21 rfl (lv_at hl 0 rfl) ?_
        refine lv_bipush (v := (-2)) hx hb dX5_contradicts_22 (by decide) ?_
        obtain ⟨r9, h9, h⟩ := zb h
        refine zi (zrV (C := RX5) (T := TX5) (N := 8) (As := [.int (-2)]) (rest := []) ⟨hx, hb, hml, hown, ht⟩ (c_X5_fails l D k zq es yh tx gp gq b0 b1 b2 (-2) h9 _) (cwV 1 ht (gdV wb271 wb273 wb0 wb72 wb274) rfl rfl rfl (by decide +kernel) ⟨Nat.le_of_ble_eq_true rfl, Nat.le_of_ble_eq_true rfl⟩) hK hP hD hS hA hm [0] rfl rfl 0 5 rfl rfl rfl hl.1 rfl (Nat.le_of_ble_eq_true rfl) dX5_contradicts_24 ⟨Nat.le_refl _, Nat.le_refl _⟩) hP hD hS hA [0] rfl rfl (fun H locs hP hD hS => ?_)
        have hP : va_P D vwCl [(zq, .inr (5, [.ref es, .ref yh, .ref tx, .ref gp, .ref gq, .int r9.2.1, .int r9.2.2.1, .int r9.2.2.2])), (es, .inr (2, [.ref esz, .ref esr, .ref esk, .ref esf, .ref esa, .ref esp, .ref est, .int estm])), (esz, .inl (k 0, 32, .inl eszo)), (esr, .inr (3, [.int 12, .int 11, .ref esrc, .int esrs])), (esrc, .inl (k 0, 132, .inl esrf)), (gp, .inr (1, [.ref gpa, .ref gpb, .ref gpc, .ref gpd, .int gpsz, .int gpsn, .int gpal, .int gpre])), (gpa, .inl (k 0, 32, .inl gpfa)), (gpb, .inl (k 0, 32, .inl gpfb)), (gpc, .inl (k 0, 12, .inl gpfc)), (gpd, .inl (k 0, 12, .inl gpfd))] H := hP
        have hD : va_D A [(zq, .inr (5, [.ref es, .ref yh, .ref tx, .ref gp, .ref gq, .int r9.2.1, .int r9.2.2.1, .int r9.2.2.2])), (es, .inr (2, [.ref esz, .ref esr, .ref esk, .ref esf, .ref esa, .ref esp, .ref est, .int estm])), (esz, .inl (k 0, 32, .inl eszo)), (esr, .inr (3, [.int 12, .int 11, .ref esrc, .int esrs])), (esrc, .inl (k 0, 132, .inl esrf)), (gp, .inr (1, [.ref gpa, .ref gpb, .ref gpc, .ref gpd, .int gpsz, .int gpsn, .int gpal, .int gpre])), (gpa, .inl (k 0, 32, .inl gpfa)), (gpb, .inl (k 0, 32, .inl gpfb)), (gpc, .inl (k 0, 12, .inl gpfc)), (gpd, .inl (k 0, 12, .inl gpfd))] := hD
        obtain rfl := Option.some.inj h
        exact W.iret (v := r9.1) hx hb hr (fun t ht9 hW => ⟨⟨_, (), rfl, rfl, zend ht9 hP⟩, hS.F ht9⟩) hS.2.2 dX5_contradicts_27
def f_X5_change (fu : Nat) (b0 : Int32) (b1 : Int32) (b2 : Int32) (eszo : Nat → Int32) (esrs : Int32) (esrf : Nat → Int32) (esks : Int32) (eskf : Nat → Int32) (gpsz : Int32) (gpsn : Int32) (gpal : Int32) (gpre : Int32) (gpfa : Nat → Int32) (gpfb : Nat → Int32) (gpfc : Nat → Int32) (gpfd : Nat → Int32) (gqsz : Int32) (gqsn : Int32) (gqal : Int32) (gqre : Int32) (gqfa : Nat → Int32) (gqfb : Nat → Int32) (gqfc : Nat → Int32) (gqfd : Nat → Int32) (a1 : Int32) : Option (Int32 × Int32 × Int32 × Int32 × Int32 × Int32 × Int32 × Int32 × (Nat → Int32) × (Nat → Int32) × (Nat → Int32) × (Nat → Int32) × Int32 × Int32 × Int32 × Int32 × (Nat → Int32) × (Nat → Int32) × (Nat → Int32) × (Nat → Int32)) :=
  (f_X5_within  a1 0 6).bind fun r1 => if (zB r1) = 0 then ((f_X5_fails b0 b1 b2 (-2)).bind fun r7 => some (r7.1, r7.2.1, r7.2.2.1, r7.2.2.2, gpsz, gpsn, gpal, gpre, gpfa, gpfb, gpfc, gpfd, gqsz, gqsn, gqal, gqre, gqfa, gqfb, gqfc, gqfd)) else ((f_X1_draw fu gpfa gpfb gpfc gpfd 11 esrs 132 esrf eszo ).bind fun r2 => (f_X1_draw fu gqfa gqfb gqfc gqfd 11 esks 132 eskf eszo ).bind fun r3 => if a1 = 0 then ((f_X1_differences fu r2.1 r2.2.1 r2.2.2.1 r2.2.2.2.1 r2.2.2.2.2.1 r2.2.2.2.2.2.1 r2.2.2.2.2.2.2.1 r2.2.2.2.2.2.2.2 r3.1 r3.2.1 r3.2.2.1 r3.2.2.2.1 r3.2.2.2.2.1 r3.2.2.2.2.2.1 r3.2.2.2.2.2.2.1 r3.2.2.2.2.2.2.2 ).bind fun r6 => some (r6.1, b0, b1, b2, r2.1, r6.2.1, r6.2.2.1, r6.2.2.2.1, r2.2.2.2.2.1, r2.2.2.2.2.2.1, r2.2.2.2.2.2.2.1, r2.2.2.2.2.2.2.2, r3.1, r6.2.2.2.2.1, r6.2.2.2.2.2.1, r6.2.2.2.2.2.2, r3.2.2.2.2.1, r3.2.2.2.2.2.1, r3.2.2.2.2.2.2.1, r3.2.2.2.2.2.2.2)) else ((f_X1_firstDifference fu r2.1 r2.2.1 r2.2.2.1 r2.2.2.2.1 r2.2.2.2.2.1 r2.2.2.2.2.2.1 r2.2.2.2.2.2.2.1 r2.2.2.2.2.2.2.2 r3.1 r3.2.1 r3.2.2.1 r3.2.2.2.1 r3.2.2.2.2.1 r3.2.2.2.2.2.1 r3.2.2.2.2.2.2.1 r3.2.2.2.2.2.2.2 ).bind fun r4 => if r4.1 = (-1) then (some ((-1), b0, b1, b2, r2.1, r4.2.1, r4.2.2.1, r4.2.2.2.1, r2.2.2.2.2.1, r2.2.2.2.2.2.1, r2.2.2.2.2.2.2.1, r2.2.2.2.2.2.2.2, r3.1, r4.2.2.2.2.1, r4.2.2.2.2.2.1, r4.2.2.2.2.2.2, r3.2.2.2.2.1, r3.2.2.2.2.2.1, r3.2.2.2.2.2.2.1, r3.2.2.2.2.2.2.2)) else ((f_X5_tellChange fu eszo esrs esrf esks eskf r4.1 a1).bind fun r5 => some (r5, b0, b1, b2, r2.1, r4.2.1, r4.2.2.1, r4.2.2.2.1, r2.2.2.2.2.1, r2.2.2.2.2.2.1, r2.2.2.2.2.2.2.1, r2.2.2.2.2.2.2.2, r3.1, r4.2.2.2.2.1, r4.2.2.2.2.2.1, r4.2.2.2.2.2.2, r3.2.2.2.2.1, r3.2.2.2.2.2.1, r3.2.2.2.2.2.2.1, r3.2.2.2.2.2.2.2))))
abbrev wk_X5_change : List Cond := Cond.code yX5_change cX5_change 3 (some .int) :: WB
abbrev rm_X5_change : Room := { frames := 6, cells := 0, slots := 0, locals := 151 }
set_option maxHeartbeats 4000000 in
set_option maxRecDepth 100000 in
theorem c_X5_change (l : Launch) (D : va_G) (k : Nat → Nat) (zq es yh tx gp gq esz esr esk esf esa esp est esrc eskc gpa gpb gpc gpd gqa gqb gqc gqd : Nat) (b0 : Int32) (b1 : Int32) (b2 : Int32) (estm : Int32) (eszo : Nat → Int32) (esrs : Int32) (esrf : Nat → Int32) (esks : Int32) (eskf : Nat → Int32) (gpsz : Int32) (gpsn : Int32) (gpal : Int32) (gpre : Int32) (gpfa : Nat → Int32) (gpfb : Nat → Int32) (gpfc : Nat → Int32) (gpfd : Nat → Int32) (gqsz : Int32) (gqsn : Int32) (gqal : Int32) (gqre : Int32) (gqfa : Nat → Int32) (gqfb : Nat → Int32) (gqfc : Nat → Int32) (gqfd : Nat → Int32) (a1 : Int32) (fu : Nat) {res : Int32 × Int32 × Int32 × Int32 × Int32 × Int32 × Int32 × Int32 × (Nat → Int32) × (Nat → Int32) × (Nat → Int32) × (Nat → Int32) × Int32 × Int32 × Int32 × Int32 × (Nat → Int32) × (Nat → Int32) × (Nat → Int32) × (Nat → Int32)} (h : f_X5_change fu b0 b1 b2 eszo esrs esrf esks eskf gpsz gpsn gpal gpre gpfa gpfb gpfc gpfd gqsz gqsn gqal gqre gqfa gqfb gqfc gqfd a1 = some res) : Ci l yX5_change wk_X5_change rm_X5_change D k [.ref zq, .int a1] [(zq, .inr (5, [.ref es, .ref yh, .ref tx, .ref gp, .ref gq, .int b0, .int b1, .int b2])), (es, .inr (2, [.ref esz, .ref esr, .ref esk, .ref esf, .ref esa, .ref esp, .ref est, .int estm])), (esz, .inl (k 0, 32, .inl eszo)), (esr, .inr (3, [.int 12, .int 11, .ref esrc, .int esrs])), (esrc, .inl (k 0, 132, .inl esrf)), (esk, .inr (3, [.int 12, .int 11, .ref eskc, .int esks])), (eskc, .inl (k 0, 132, .inl eskf)), (gp, .inr (1, [.ref gpa, .ref gpb, .ref gpc, .ref gpd, .int gpsz, .int gpsn, .int gpal, .int gpre])), (gpa, .inl (k 0, 32, .inl gpfa)), (gpb, .inl (k 0, 32, .inl gpfb)), (gpc, .inl (k 0, 12, .inl gpfc)), (gpd, .inl (k 0, 12, .inl gpfd)), (gq, .inr (1, [.ref gqa, .ref gqb, .ref gqc, .ref gqd, .int gqsz, .int gqsn, .int gqal, .int gqre])), (gqa, .inl (k 0, 32, .inl gqfa)), (gqb, .inl (k 0, 32, .inl gqfb)), (gqc, .inl (k 0, 12, .inl gqfc)), (gqd, .inl (k 0, 12, .inl gqfd))] [(zq, .inr (5, [.ref es, .ref yh, .ref tx, .ref gp, .ref gq, .int res.2.1, .int res.2.2.1, .int res.2.2.2.1])), (es, .inr (2, [.ref esz, .ref esr, .ref esk, .ref esf, .ref esa, .ref esp, .ref est, .int estm])), (esz, .inl (k 0, 32, .inl eszo)), (esr, .inr (3, [.int 12, .int 11, .ref esrc, .int esrs])), (esrc, .inl (k 0, 132, .inl esrf)), (esk, .inr (3, [.int 12, .int 11, .ref eskc, .int esks])), (eskc, .inl (k 0, 132, .inl eskf)), (gp, .inr (1, [.ref gpa, .ref gpb, .ref gpc, .ref gpd, .int res.2.2.2.2.1, .int res.2.2.2.2.2.1, .int res.2.2.2.2.2.2.1, .int res.2.2.2.2.2.2.2.1])), (gpa, .inl (k 0, 32, .inl res.2.2.2.2.2.2.2.2.1)), (gpb, .inl (k 0, 32, .inl res.2.2.2.2.2.2.2.2.2.1)), (gpc, .inl (k 0, 12, .inl res.2.2.2.2.2.2.2.2.2.2.1)), (gpd, .inl (k 0, 12, .inl res.2.2.2.2.2.2.2.2.2.2.2.1)), (gq, .inr (1, [.ref gqa, .ref gqb, .ref gqc, .ref gqd, .int res.2.2.2.2.2.2.2.2.2.2.2.2.1, .int res.2.2.2.2.2.2.2.2.2.2.2.2.2.1, .int res.2.2.2.2.2.2.2.2.2.2.2.2.2.2.1, .int res.2.2.2.2.2.2.2.2.2.2.2.2.2.2.2.1])), (gqa, .inl (k 0, 32, .inl res.2.2.2.2.2.2.2.2.2.2.2.2.2.2.2.2.1)), (gqb, .inl (k 0, 32, .inl res.2.2.2.2.2.2.2.2.2.2.2.2.2.2.2.2.2.1)), (gqc, .inl (k 0, 12, .inl res.2.2.2.2.2.2.2.2.2.2.2.2.2.2.2.2.2.2.1)), (gqd, .inl (k 0, 12, .inl res.2.2.2.2.2.2.2.2.2.2.2.2.2.2.2.2.2.2.2))] res.1 := by
  unfold Ci
  intro sz
  refine Met.ofW (cc := cX5_change) (maxL := 3) (ret := (some .int)) (by decide) rfl ?_
  intro p e s m args below meth c s₁ B hml hv
  obtain ⟨rfl, hsz, hP, hK, hD0, hm⟩ := hv
  have hx := B.exec
  have hb := B.bytes
  have hr := B.returns
  have ht : ∀ w ∈ WB, w.before _ s = true := fun w hw => atoms_spec (ws := wk_X5_change) B.pre w (List.mem_cons_of_mem _ hw)
  have hown : s.vm.findClass RX5 = some m.cls := findClass_of_methodNamed B.named
  have hlocks := B.notSynchronized
  subst hsz
  have hD := hD0.self (sz := s.heap.size)
  generalize hAe : va_A [(zq, .inr (5, [.ref es, .ref yh, .ref tx, .ref gp, .ref gq, .int b0, .int b1, .int b2])), (es, .inr (2, [.ref esz, .ref esr, .ref esk, .ref esf, .ref esa, .ref esp, .ref est, .int estm])), (esz, .inl (k 0, 32, .inl eszo)), (esr, .inr (3, [.int 12, .int 11, .ref esrc, .int esrs])), (esrc, .inl (k 0, 132, .inl esrf)), (esk, .inr (3, [.int 12, .int 11, .ref eskc, .int esks])), (eskc, .inl (k 0, 132, .inl eskf)), (gp, .inr (1, [.ref gpa, .ref gpb, .ref gpc, .ref gpd, .int gpsz, .int gpsn, .int gpal, .int gpre])), (gpa, .inl (k 0, 32, .inl gpfa)), (gpb, .inl (k 0, 32, .inl gpfb)), (gpc, .inl (k 0, 12, .inl gpfc)), (gpd, .inl (k 0, 12, .inl gpfd)), (gq, .inr (1, [.ref gqa, .ref gqb, .ref gqc, .ref gqd, .int gqsz, .int gqsn, .int gqal, .int gqre])), (gqa, .inl (k 0, 32, .inl gqfa)), (gqb, .inl (k 0, 32, .inl gqfb)), (gqc, .inl (k 0, 12, .inl gqfc)), (gqd, .inl (k 0, 12, .inl gqfd))] s.heap.size = A at hD hm ⊢
  have hA : ∀ q : Nat, s.heap.size ≤ q → A q := fun q h => by rw [← hAe]; exact Or.inr h
  have hS : va_S A s.heap s.heap [] := va_S.rf
  have hl := lv_entry ([.ref zq, .int a1]) (n := 3) (Nat.le_of_ble_eq_true rfl)
  rw [lg_entry_eq]
  generalize (lg_sl ([.ref zq, .int a1]) ++ List.replicate (3 - (lg_sl ([.ref zq, .int a1])).length) Slot.unset).toArray = ls at hl ⊢
  have hl : lv_has ls 3 [(0, .ref zq), (1, .int a1)] := hl
  obtain ⟨H, hH⟩ : ∃ H, H = s.heap := ⟨_, rfl⟩
  rw [← hH] at hP
  have hS : va_S A s.heap H [] := by rw [hH]; exact hS
  suffices hgo : W p l e _ s m _ below meth c H [] 0 0 _ _ by rw [hH] at hgo; exact hgo
  unfold f_X5_change at h
  refine lv_iload_n hx hb dX5_change_0 rfl (lv_at hl 1 rfl) ?_
  refine lv_iconst (v := 0) hx hb dX5_change_1 (by decide) ?_
  refine lv_bipush (v := 6) hx hb dX5_change_2 (by decide) ?_
  obtain ⟨r1, h1, h⟩ := zb h
  refine zi (zrS (As := [.int a1, .int 0, .int 6]) (rest := []) ⟨hx, hb, hml, hown, ht⟩ (c_X5_within l D k   a1 0 6 h1 _) (va_cwS 3 ht (gdS wb268 wb269 wb72 wb270) rfl rfl rfl (by decide +kernel) ⟨Nat.le_of_ble_eq_true rfl, Nat.le_of_ble_eq_true rfl⟩) hK hP hD hS hA hm [] rfl rfl rfl hl.1 rfl (Nat.le_of_ble_eq_true rfl) dX5_change_4 ⟨Nat.le_refl _, Nat.le_refl _⟩) hP hD hS hA [] rfl rfl (fun H locs hP hD hS => ?_)
  have hP : va_P D vwCl [(zq, .inr (5, [.ref es, .ref yh, .ref tx, .ref gp, .ref gq, .int b0, .int b1, .int b2])), (es, .inr (2, [.ref esz, .ref esr, .ref esk, .ref esf, .ref esa, .ref esp, .ref est, .int estm])), (esz, .inl (k 0, 32, .inl eszo)), (esr, .inr (3, [.int 12, .int 11, .ref esrc, .int esrs])), (esrc, .inl (k 0, 132, .inl esrf)), (esk, .inr (3, [.int 12, .int 11, .ref eskc, .int esks])), (eskc, .inl (k 0, 132, .inl eskf)), (gp, .inr (1, [.ref gpa, .ref gpb, .ref gpc, .ref gpd, .int gpsz, .int gpsn, .int gpal, .int gpre])), (gpa, .inl (k 0, 32, .inl gpfa)), (gpb, .inl (k 0, 32, .inl gpfb)), (gpc, .inl (k 0, 12, .inl gpfc)), (gpd, .inl (k 0, 12, .inl gpfd)), (gq, .inr (1, [.ref gqa, .ref gqb, .ref gqc, .ref gqd, .int gqsz, .int gqsn, .int gqal, .int gqre])), (gqa, .inl (k 0, 32, .inl gqfa)), (gqb, .inl (k 0, 32, .inl gqfb)), (gqc, .inl (k 0, 12, .inl gqfc)), (gqd, .inl (k 0, 12, .inl gqfd))] H := hP
  have hD : va_D A [(zq, .inr (5, [.ref es, .ref yh, .ref tx, .ref gp, .ref gq, .int b0, .int b1, .int b2])), (es, .inr (2, [.ref esz, .ref esr, .ref esk, .ref esf, .ref esa, .ref esp, .ref est, .int estm])), (esz, .inl (k 0, 32, .inl eszo)), (esr, .inr (3, [.int 12, .int 11, .ref esrc, .int esrs])), (esrc, .inl (k 0, 132, .inl esrf)), (esk, .inr (3, [.int 12, .int 11, .ref eskc, .int esks])), (eskc, .inl (k 0, 132, .inl eskf)), (gp, .inr (1, [.ref gpa, .ref gpb, .ref gpc, .ref gpd, .int gpsz, .int gpsn, .int gpal, .int gpre])), (gpa, .inl (k 0, 32, .inl gpfa)), (gpb, .inl (k 0, 32, .inl gpfb)), (gpc, .inl (k 0, 12, .inl gpfc)), (gpd, .inl (k 0, 12, .inl gpfd)), (gq, .inr (1, [.ref gqa, .ref gqb, .ref gqc, .ref gqd, .int gqsz, .int gqsn, .int gqal, .int gqre])), (gqa, .inl (k 0, 32, .inl gqfa)), (gqb, .inl (k 0, 32, .inl gqfb)), (gqc, .inl (k 0, 12, .inl gqfc)), (gqd, .inl (k 0, 12, .inl gqfd))] := hD
  refine lv_if_ne (tgt := 17) hx hb dX5_change_7 (by decide) (fun c3 => ?_) (fun c3 => ?_)
  · have h := zf h c3
    refine lv_aload_n hx hb dX5_change_17 rfl (lv_at hl 0 rfl) ?_
    refine va_get (D := D) (ci := 5) (v := .ref gp) (C := RX5) (T := TX5) (N := 8) hx hb ht hiX5 hown hK hP 0 rfl rfl 3 (by decide) (ht _ wb242) (fun _ h9 => h9) rfl dX5_change_18 ?_
    refine lv_aload_n hx hb dX5_change_21 rfl (lv_at hl 0 rfl) ?_
    refine va_get (D := D) (ci := 5) (v := .ref es) (C := RX5) (T := TX5) (N := 8) hx hb ht hiX5 hown hK hP 0 rfl rfl 0 (by decide) (ht _ wb239) (fun _ h9 => h9) rfl dX5_change_22 ?_
    refine va_getN (D := D) (ci := 2) (v := .ref esr) (C := RX2) (T := TX2) (N := 8) hx hb ht hiX2 hown hK hP 1 rfl rfl 1 (by decide) (va_Nw.use rfl (hm.1 _ (List.mem_of_getElem? (i := 2) rfl))) (fun _ h9 => h9) rfl dX5_change_25 ?_
    refine lv_aload_n hx hb dX5_change_28 rfl (lv_at hl 0 rfl) ?_
    refine va_get (D := D) (ci := 5) (v := .ref es) (C := RX5) (T := TX5) (N := 8) hx hb ht hiX5 hown hK hP 0 rfl rfl 0 (by decide) (ht _ wb239) (fun _ h9 => h9) rfl dX5_change_29 ?_
    refine va_getN (D := D) (ci := 2) (v := .ref esz) (C := RX2) (T := TX2) (N := 8) hx hb ht hiX2 hown hK hP 1 rfl rfl 0 (by decide) (va_Nw.use rfl (hm.1 _ (List.mem_of_getElem? (i := 1) rfl))) (fun _ h9 => h9) rfl dX5_change_32 ?_
    obtain ⟨r2, h2, h⟩ := zb h
    refine zv (zrV (C := RX1) (T := TX1) (N := 8) (As := [.ref esr, .ref esz]) (rest := []) ⟨hx, hb, hml, hown, ht⟩ (c_X1_draw l D k gp gpa gpb gpc gpd esr esrc esz gpsz gpsn gpal gpre gpfa gpfb gpfc gpfd 12 11 esrs 132 esrf eszo  fu h2 _) (cwV 2 ht (gdV wb408 wb409 wb410 wb79 wb411) rfl rfl rfl (by decide +kernel) ⟨Nat.le_of_ble_eq_true rfl, Nat.le_of_ble_eq_true rfl⟩) hK hP hD hS hA hm [7, 8, 9, 10, 11, 3, 4, 2] rfl rfl 7 1 rfl rfl rfl hl.1 rfl (Nat.le_of_ble_eq_true rfl) dX5_change_35 ⟨Nat.le_refl _, Nat.le_refl _⟩) hP hD hS hA [7, 8, 9, 10, 11, 3, 4, 2] rfl rfl (fun H locs hP hD hS => ?_)
    have hP : va_P D vwCl [(zq, .inr (5, [.ref es, .ref yh, .ref tx, .ref gp, .ref gq, .int b0, .int b1, .int b2])), (es, .inr (2, [.ref esz, .ref esr, .ref esk, .ref esf, .ref esa, .ref esp, .ref est, .int estm])), (esz, .inl (k 0, 32, .inl eszo)), (esr, .inr (3, [.int 12, .int 11, .ref esrc, .int esrs])), (esrc, .inl (k 0, 132, .inl esrf)), (esk, .inr (3, [.int 12, .int 11, .ref eskc, .int esks])), (eskc, .inl (k 0, 132, .inl eskf)), (gp, .inr (1, [.ref gpa, .ref gpb, .ref gpc, .ref gpd, .int r2.1, .int r2.2.1, .int r2.2.2.1, .int r2.2.2.2.1])), (gpa, .inl (k 0, 32, .inl r2.2.2.2.2.1)), (gpb, .inl (k 0, 32, .inl r2.2.2.2.2.2.1)), (gpc, .inl (k 0, 12, .inl r2.2.2.2.2.2.2.1)), (gpd, .inl (k 0, 12, .inl r2.2.2.2.2.2.2.2)), (gq, .inr (1, [.ref gqa, .ref gqb, .ref gqc, .ref gqd, .int gqsz, .int gqsn, .int gqal, .int gqre])), (gqa, .inl (k 0, 32, .inl gqfa)), (gqb, .inl (k 0, 32, .inl gqfb)), (gqc, .inl (k 0, 12, .inl gqfc)), (gqd, .inl (k 0, 12, .inl gqfd))] H := hP
    have hD : va_D A [(zq, .inr (5, [.ref es, .ref yh, .ref tx, .ref gp, .ref gq, .int b0, .int b1, .int b2])), (es, .inr (2, [.ref esz, .ref esr, .ref esk, .ref esf, .ref esa, .ref esp, .ref est, .int estm])), (esz, .inl (k 0, 32, .inl eszo)), (esr, .inr (3, [.int 12, .int 11, .ref esrc, .int esrs])), (esrc, .inl (k 0, 132, .inl esrf)), (esk, .inr (3, [.int 12, .int 11, .ref eskc, .int esks])), (eskc, .inl (k 0, 132, .inl eskf)), (gp, .inr (1, [.ref gpa, .ref gpb, .ref gpc, .ref gpd, .int r2.1, .int r2.2.1, .int r2.2.2.1, .int r2.2.2.2.1])), (gpa, .inl (k 0, 32, .inl r2.2.2.2.2.1)), (gpb, .inl (k 0, 32, .inl r2.2.2.2.2.2.1)), (gpc, .inl (k 0, 12, .inl r2.2.2.2.2.2.2.1)), (gpd, .inl (k 0, 12, .inl r2.2.2.2.2.2.2.2)), (gq, .inr (1, [.ref gqa, .ref gqb, .ref gqc, .ref gqd, .int gqsz, .int gqsn, .int gqal, .int gqre])), (gqa, .inl (k 0, 32, .inl gqfa)), (gqb, .inl (k 0, 32, .inl gqfb)), (gqc, .inl (k 0, 12, .inl gqfc)), (gqd, .inl (k 0, 12, .inl gqfd))] := hD
    refine lv_aload_n hx hb dX5_change_38 rfl (lv_at hl 0 rfl) ?_
    refine va_get (D := D) (ci := 5) (v := .ref gq) (C := RX5) (T := TX5) (N := 8) hx hb ht hiX5 hown hK hP 0 rfl rfl 4 (by decide) (ht _ wb243) (fun _ h9 => h9) rfl dX5_change_39 ?_
    refine lv_aload_n hx hb dX5_change_42 rfl (lv_at hl 0 rfl) ?_
    refine va_get (D := D) (ci := 5) (v := .ref es) (C := RX5) (T := TX5) (N := 8) hx hb ht hiX5 hown hK hP 0 rfl rfl 0 (by decide) (ht _ wb239) (fun _ h9 => h9) rfl dX5_change_43 ?_
    refine va_getN (D := D) (ci := 2) (v := .ref esk) (C := RX2) (T := TX2) (N := 8) hx hb ht hiX2 hown hK hP 1 rfl rfl 2 (by decide) (va_Nw.use rfl (hm.1 _ (List.mem_of_getElem? (i := 3) rfl))) (fun _ h9 => h9) rfl dX5_change_46 ?_
    refine lv_aload_n hx hb dX5_change_49 rfl (lv_at hl 0 rfl) ?_
    refine va_get (D := D) (ci := 5) (v := .ref es) (C := RX5) (T := TX5) (N := 8) hx hb ht hiX5 hown hK hP 0 rfl rfl 0 (by decide) (ht _ wb239) (fun _ h9 => h9) rfl dX5_change_50 ?_
    refine va_getN (D := D) (ci := 2) (v := .ref esz) (C := RX2) (T := TX2) (N := 8) hx hb ht hiX2 hown hK hP 1 rfl rfl 0 (by decide) (va_Nw.use rfl (hm.1 _ (List.mem_of_getElem? (i := 1) rfl))) (fun _ h9 => h9) rfl dX5_change_53 ?_
    obtain ⟨r3, h3, h⟩ := zb h
    refine zv (zrV (C := RX1) (T := TX1) (N := 8) (As := [.ref esk, .ref esz]) (rest := []) ⟨hx, hb, hml, hown, ht⟩ (c_X1_draw l D k gq gqa gqb gqc gqd esk eskc esz gqsz gqsn gqal gqre gqfa gqfb gqfc gqfd 12 11 esks 132 eskf eszo  fu h3 _) (cwV 2 ht (gdV wb408 wb409 wb410 wb79 wb411) rfl rfl rfl (by decide +kernel) ⟨Nat.le_of_ble_eq_true rfl, Nat.le_of_ble_eq_true rfl⟩) hK hP hD hS hA hm [12, 13, 14, 15, 16, 5, 6, 2] rfl rfl 12 1 rfl rfl rfl hl.1 rfl (Nat.le_of_ble_eq_true rfl) dX5_change_56 ⟨Nat.le_refl _, Nat.le_refl _⟩) hP hD hS hA [12, 13, 14, 15, 16, 5, 6, 2] rfl rfl (fun H locs hP hD hS => ?_)
    have hP : va_P D vwCl [(zq, .inr (5, [.ref es, .ref yh, .ref tx, .ref gp, .ref gq, .int b0, .int b1, .int b2])), (es, .inr (2, [.ref esz, .ref esr, .ref esk, .ref esf, .ref esa, .ref esp, .ref est, .int estm])), (esz, .inl (k 0, 32, .inl eszo)), (esr, .inr (3, [.int 12, .int 11, .ref esrc, .int esrs])), (esrc, .inl (k 0, 132, .inl esrf)), (esk, .inr (3, [.int 12, .int 11, .ref eskc, .int esks])), (eskc, .inl (k 0, 132, .inl eskf)), (gp, .inr (1, [.ref gpa, .ref gpb, .ref gpc, .ref gpd, .int r2.1, .int r2.2.1, .int r2.2.2.1, .int r2.2.2.2.1])), (gpa, .inl (k 0, 32, .inl r2.2.2.2.2.1)), (gpb, .inl (k 0, 32, .inl r2.2.2.2.2.2.1)), (gpc, .inl (k 0, 12, .inl r2.2.2.2.2.2.2.1)), (gpd, .inl (k 0, 12, .inl r2.2.2.2.2.2.2.2)), (gq, .inr (1, [.ref gqa, .ref gqb, .ref gqc, .ref gqd, .int r3.1, .int r3.2.1, .int r3.2.2.1, .int r3.2.2.2.1])), (gqa, .inl (k 0, 32, .inl r3.2.2.2.2.1)), (gqb, .inl (k 0, 32, .inl r3.2.2.2.2.2.1)), (gqc, .inl (k 0, 12, .inl r3.2.2.2.2.2.2.1)), (gqd, .inl (k 0, 12, .inl r3.2.2.2.2.2.2.2))] H := hP
    have hD : va_D A [(zq, .inr (5, [.ref es, .ref yh, .ref tx, .ref gp, .ref gq, .int b0, .int b1, .int b2])), (es, .inr (2, [.ref esz, .ref esr, .ref esk, .ref esf, .ref esa, .ref esp, .ref est, .int estm])), (esz, .inl (k 0, 32, .inl eszo)), (esr, .inr (3, [.int 12, .int 11, .ref esrc, .int esrs])), (esrc, .inl (k 0, 132, .inl esrf)), (esk, .inr (3, [.int 12, .int 11, .ref eskc, .int esks])), (eskc, .inl (k 0, 132, .inl eskf)), (gp, .inr (1, [.ref gpa, .ref gpb, .ref gpc, .ref gpd, .int r2.1, .int r2.2.1, .int r2.2.2.1, .int r2.2.2.2.1])), (gpa, .inl (k 0, 32, .inl r2.2.2.2.2.1)), (gpb, .inl (k 0, 32, .inl r2.2.2.2.2.2.1)), (gpc, .inl (k 0, 12, .inl r2.2.2.2.2.2.2.1)), (gpd, .inl (k 0, 12, .inl r2.2.2.2.2.2.2.2)), (gq, .inr (1, [.ref gqa, .ref gqb, .ref gqc, .ref gqd, .int r3.1, .int r3.2.1, .int r3.2.2.1, .int r3.2.2.2.1])), (gqa, .inl (k 0, 32, .inl r3.2.2.2.2.1)), (gqb, .inl (k 0, 32, .inl r3.2.2.2.2.2.1)), (gqc, .inl (k 0, 12, .inl r3.2.2.2.2.2.2.1)), (gqd, .inl (k 0, 12, .inl r3.2.2.2.2.2.2.2))] := hD
    refine lv_iload_n hx hb dX5_change_59 rfl (lv_at hl 1 rfl) ?_
    refine lv_if_ne (tgt := 75) hx hb dX5_change_60 (by decide) (fun c2 => ?_) (fun c2 => ?_)
    · have h := zf h c2
      refine lv_aload_n hx hb dX5_change_75 rfl (lv_at hl 0 rfl) ?_
      refine va_get (D := D) (ci := 5) (v := .ref gp) (C := RX5) (T := TX5) (N := 8) hx hb ht hiX5 hown hK hP 0 rfl rfl 3 (by decide) (ht _ wb242) (fun _ h9 => h9) rfl dX5_change_76 ?_
      refine lv_aload_n hx hb dX5_change_79 rfl (lv_at hl 0 rfl) ?_
      refine va_get (D := D) (ci := 5) (v := .ref gq) (C := RX5) (T := TX5) (N := 8) hx hb ht hiX5 hown hK hP 0 rfl rfl 4 (by decide) (ht _ wb243) (fun _ h9 => h9) rfl dX5_change_80 ?_
      obtain ⟨r4, h4, h⟩ := zb h
      refine zi (zrV (C := RX1) (T := TX1) (N := 8) (As := [.ref gq]) (rest := []) ⟨hx, hb, hml, hown, ht⟩ (c_X1_firstDifference l D k gp gpa gpb gpc gpd gq gqa gqb gqc gqd r2.1 r2.2.1 r2.2.2.1 r2.2.2.2.1 r2.2.2.2.2.1 r2.2.2.2.2.2.1 r2.2.2.2.2.2.2.1 r2.2.2.2.2.2.2.2 r3.1 r3.2.1 r3.2.2.1 r3.2.2.2.1 r3.2.2.2.2.1 r3.2.2.2.2.2.1 r3.2.2.2.2.2.2.1 r3.2.2.2.2.2.2.2  fu h4 _) (cwV 1 ht (gdV wb461 wb462 wb463 wb79 wb464) rfl rfl rfl (by decide +kernel) ⟨Nat.le_of_ble_eq_true rfl, Nat.le_of_ble_eq_true rfl⟩) hK hP hD hS hA hm [7, 8, 9, 10, 11, 12, 13, 14, 15, 16] rfl rfl 7 1 rfl rfl rfl hl.1 rfl (Nat.le_of_ble_eq_true rfl) dX5_change_83 ⟨Nat.le_refl _, Nat.le_refl _⟩) hP hD hS hA [7, 8, 9, 10, 11, 12, 13, 14, 15, 16] rfl rfl (fun H locs hP hD hS => ?_)
      have hP : va_P D vwCl [(zq, .inr (5, [.ref es, .ref yh, .ref tx, .ref gp, .ref gq, .int b0, .int b1, .int b2])), (es, .inr (2, [.ref esz, .ref esr, .ref esk, .ref esf, .ref esa, .ref esp, .ref est, .int estm])), (esz, .inl (k 0, 32, .inl eszo)), (esr, .inr (3, [.int 12, .int 11, .ref esrc, .int esrs])), (esrc, .inl (k 0, 132, .inl esrf)), (esk, .inr (3, [.int 12, .int 11, .ref eskc, .int esks])), (eskc, .inl (k 0, 132, .inl eskf)), (gp, .inr (1, [.ref gpa, .ref gpb, .ref gpc, .ref gpd, .int r2.1, .int r4.2.1, .int r4.2.2.1, .int r4.2.2.2.1])), (gpa, .inl (k 0, 32, .inl r2.2.2.2.2.1)), (gpb, .inl (k 0, 32, .inl r2.2.2.2.2.2.1)), (gpc, .inl (k 0, 12, .inl r2.2.2.2.2.2.2.1)), (gpd, .inl (k 0, 12, .inl r2.2.2.2.2.2.2.2)), (gq, .inr (1, [.ref gqa, .ref gqb, .ref gqc, .ref gqd, .int r3.1, .int r4.2.2.2.2.1, .int r4.2.2.2.2.2.1, .int r4.2.2.2.2.2.2])), (gqa, .inl (k 0, 32, .inl r3.2.2.2.2.1)), (gqb, .inl (k 0, 32, .inl r3.2.2.2.2.2.1)), (gqc, .inl (k 0, 12, .inl r3.2.2.2.2.2.2.1)), (gqd, .inl (k 0, 12, .inl r3.2.2.2.2.2.2.2))] H := hP
      have hD : va_D A [(zq, .inr (5, [.ref es, .ref yh, .ref tx, .ref gp, .ref gq, .int b0, .int b1, .int b2])), (es, .inr (2, [.ref esz, .ref esr, .ref esk, .ref esf, .ref esa, .ref esp, .ref est, .int estm])), (esz, .inl (k 0, 32, .inl eszo)), (esr, .inr (3, [.int 12, .int 11, .ref esrc, .int esrs])), (esrc, .inl (k 0, 132, .inl esrf)), (esk, .inr (3, [.int 12, .int 11, .ref eskc, .int esks])), (eskc, .inl (k 0, 132, .inl eskf)), (gp, .inr (1, [.ref gpa, .ref gpb, .ref gpc, .ref gpd, .int r2.1, .int r4.2.1, .int r4.2.2.1, .int r4.2.2.2.1])), (gpa, .inl (k 0, 32, .inl r2.2.2.2.2.1)), (gpb, .inl (k 0, 32, .inl r2.2.2.2.2.2.1)), (gpc, .inl (k 0, 12, .inl r2.2.2.2.2.2.2.1)), (gpd, .inl (k 0, 12, .inl r2.2.2.2.2.2.2.2)), (gq, .inr (1, [.ref gqa, .ref gqb, .ref gqc, .ref gqd, .int r3.1, .int r4.2.2.2.2.1, .int r4.2.2.2.2.2.1, .int r4.2.2.2.2.2.2])), (gqa, .inl (k 0, 32, .inl r3.2.2.2.2.1)), (gqb, .inl (k 0, 32, .inl r3.2.2.2.2.2.1)), (gqc, .inl (k 0, 12, .inl r3.2.2.2.2.2.2.1)), (gqd, .inl (k 0, 12, .inl r3.2.2.2.2.2.2.2))] := hD
      refine lv_istore_n (lv' := [(2, .int r4.1), (0, .ref zq), (1, .int a1)]) hx hb dX5_change_86 rfl hl (by decide) rfl (fun ls hl => ?_)
      refine lv_iload_n hx hb dX5_change_87 rfl (lv_at hl 0 rfl) ?_
      refine lv_iconst (v := (-1)) hx hb dX5_change_88 (by decide) ?_
      refine lv_icmp_ne (tgt := 96) hx hb dX5_change_89 (by decide) (fun c1 => ?_) (fun c1 => ?_)
      · have h := zf h c1
        refine lv_aload_n hx hb dX5_change_96 rfl (lv_at hl 1 rfl) ?_
        refine lv_iload_n hx hb dX5_change_97 rfl (lv_at hl 0 rfl) ?_
        refine lv_iload_n hx hb dX5_change_98 rfl (lv_at hl 2 rfl) ?_
        obtain ⟨r5, h5, h⟩ := zb h
        refine zi (zrV (C := RX5) (T := TX5) (N := 8) (As := [.int r4.1, .int a1]) (rest := []) ⟨hx, hb, hml, hown, ht⟩ (c_X5_tellChange l D k zq es yh tx gp gq esz esr esk esf esa esp est esrc eskc b0 b1 b2 estm eszo esrs esrf esks eskf r4.1 a1 fu h5 _) (cwV 2 ht (gdV wb488 wb490 wb10 wb72 wb491) rfl rfl rfl (by decide +kernel) ⟨Nat.le_of_ble_eq_true rfl, Nat.le_of_ble_eq_true rfl⟩) hK hP hD hS hA hm [0, 1, 2, 3, 4, 5, 6] rfl rfl 0 5 rfl rfl rfl hl.1 rfl (Nat.le_of_ble_eq_true rfl) dX5_change_99 ⟨Nat.le_refl _, Nat.le_refl _⟩) hP hD hS hA [0, 1, 2, 3, 4, 5, 6] rfl rfl (fun H locs hP hD hS => ?_)
        have hP : va_P D vwCl [(zq, .inr (5, [.ref es, .ref yh, .ref tx, .ref gp, .ref gq, .int b0, .int b1, .int b2])), (es, .inr (2, [.ref esz, .ref esr, .ref esk, .ref esf, .ref esa, .ref esp, .ref est, .int estm])), (esz, .inl (k 0, 32, .inl eszo)), (esr, .inr (3, [.int 12, .int 11, .ref esrc, .int esrs])), (esrc, .inl (k 0, 132, .inl esrf)), (esk, .inr (3, [.int 12, .int 11, .ref eskc, .int esks])), (eskc, .inl (k 0, 132, .inl eskf)), (gp, .inr (1, [.ref gpa, .ref gpb, .ref gpc, .ref gpd, .int r2.1, .int r4.2.1, .int r4.2.2.1, .int r4.2.2.2.1])), (gpa, .inl (k 0, 32, .inl r2.2.2.2.2.1)), (gpb, .inl (k 0, 32, .inl r2.2.2.2.2.2.1)), (gpc, .inl (k 0, 12, .inl r2.2.2.2.2.2.2.1)), (gpd, .inl (k 0, 12, .inl r2.2.2.2.2.2.2.2)), (gq, .inr (1, [.ref gqa, .ref gqb, .ref gqc, .ref gqd, .int r3.1, .int r4.2.2.2.2.1, .int r4.2.2.2.2.2.1, .int r4.2.2.2.2.2.2])), (gqa, .inl (k 0, 32, .inl r3.2.2.2.2.1)), (gqb, .inl (k 0, 32, .inl r3.2.2.2.2.2.1)), (gqc, .inl (k 0, 12, .inl r3.2.2.2.2.2.2.1)), (gqd, .inl (k 0, 12, .inl r3.2.2.2.2.2.2.2))] H := hP
        have hD : va_D A [(zq, .inr (5, [.ref es, .ref yh, .ref tx, .ref gp, .ref gq, .int b0, .int b1, .int b2])), (es, .inr (2, [.ref esz, .ref esr, .ref esk, .ref esf, .ref esa, .ref esp, .ref est, .int estm])), (esz, .inl (k 0, 32, .inl eszo)), (esr, .inr (3, [.int 12, .int 11, .ref esrc, .int esrs])), (esrc, .inl (k 0, 132, .inl esrf)), (esk, .inr (3, [.int 12, .int 11, .ref eskc, .int esks])), (eskc, .inl (k 0, 132, .inl eskf)), (gp, .inr (1, [.ref gpa, .ref gpb, .ref gpc, .ref gpd, .int r2.1, .int r4.2.1, .int r4.2.2.1, .int r4.2.2.2.1])), (gpa, .inl (k 0, 32, .inl r2.2.2.2.2.1)), (gpb, .inl (k 0, 32, .inl r2.2.2.2.2.2.1)), (gpc, .inl (k 0, 12, .inl r2.2.2.2.2.2.2.1)), (gpd, .inl (k 0, 12, .inl r2.2.2.2.2.2.2.2)), (gq, .inr (1, [.ref gqa, .ref gqb, .ref gqc, .ref gqd, .int r3.1, .int r4.2.2.2.2.1, .int r4.2.2.2.2.2.1, .int r4.2.2.2.2.2.2])), (gqa, .inl (k 0, 32, .inl r3.2.2.2.2.1)), (gqb, .inl (k 0, 32, .inl r3.2.2.2.2.2.1)), (gqc, .inl (k 0, 12, .inl r3.2.2.2.2.2.2.1)), (gqd, .inl (k 0, 12, .inl r3.2.2.2.2.2.2.2))] := hD
        obtain rfl := Option.some.inj h
        exact W.iret (v := r5) hx hb hr (fun t ht9 hW => ⟨⟨_, (), rfl, rfl, zend ht9 hP⟩, hS.F ht9⟩) hS.2.2 dX5_change_102
      · have h := zt h c1
        refine lv_iconst (v := (-1)) hx hb dX5_change_92 (by decide) ?_
        refine lv_goto (tgt := 102) hx hb dX5_change_93 (by decide) ?_
        obtain rfl := Option.some.inj h
        exact W.iret (v := (-1)) hx hb hr (fun t ht9 hW => ⟨⟨_, (), rfl, rfl, zend ht9 hP⟩, hS.F ht9⟩) hS.2.2 dX5_change_102
    · have h := zt h c2
      refine lv_aload_n hx hb dX5_change_63 rfl (lv_at hl 0 rfl) ?_
      refine va_get (D := D) (ci := 5) (v := .ref gp) (C := RX5) (T := TX5) (N := 8) hx hb ht hiX5 hown hK hP 0 rfl rfl 3 (by decide) (ht _ wb242) (fun _ h9 => h9) rfl dX5_change_64 ?_
      refine lv_aload_n hx hb dX5_change_67 rfl (lv_at hl 0 rfl) ?_
      refine va_get (D := D) (ci := 5) (v := .ref gq) (C := RX5) (T := TX5) (N := 8) hx hb ht hiX5 hown hK hP 0 rfl rfl 4 (by decide) (ht _ wb243) (fun _ h9 => h9) rfl dX5_change_68 ?_
      obtain ⟨r6, h6, h⟩ := zb h
      refine zi (zrV (C := RX1) (T := TX1) (N := 8) (As := [.ref gq]) (rest := []) ⟨hx, hb, hml, hown, ht⟩ (c_X1_differences l D k gp gpa gpb gpc gpd gq gqa gqb gqc gqd r2.1 r2.2.1 r2.2.2.1 r2.2.2.2.1 r2.2.2.2.2.1 r2.2.2.2.2.2.1 r2.2.2.2.2.2.2.1 r2.2.2.2.2.2.2.2 r3.1 r3.2.1 r3.2.2.1 r3.2.2.2.1 r3.2.2.2.2.1 r3.2.2.2.2.2.1 r3.2.2.2.2.2.2.1 r3.2.2.2.2.2.2.2  fu h6 _) (cwV 1 ht (gdV wb484 wb485 wb486 wb79 wb487) rfl rfl rfl (by decide +kernel) ⟨Nat.le_of_ble_eq_true rfl, Nat.le_of_ble_eq_true rfl⟩) hK hP hD hS hA hm [7, 8, 9, 10, 11, 12, 13, 14, 15, 16] rfl rfl 7 1 rfl rfl rfl hl.1 rfl (Nat.le_of_ble_eq_true rfl) dX5_change_71 ⟨Nat.le_refl _, Nat.le_refl _⟩) hP hD hS hA [7, 8, 9, 10, 11, 12, 13, 14, 15, 16] rfl rfl (fun H locs hP hD hS => ?_)
      have hP : va_P D vwCl [(zq, .inr (5, [.ref es, .ref yh, .ref tx, .ref gp, .ref gq, .int b0, .int b1, .int b2])), (es, .inr (2, [.ref esz, .ref esr, .ref esk, .ref esf, .ref esa, .ref esp, .ref est, .int estm])), (esz, .inl (k 0, 32, .inl eszo)), (esr, .inr (3, [.int 12, .int 11, .ref esrc, .int esrs])), (esrc, .inl (k 0, 132, .inl esrf)), (esk, .inr (3, [.int 12, .int 11, .ref eskc, .int esks])), (eskc, .inl (k 0, 132, .inl eskf)), (gp, .inr (1, [.ref gpa, .ref gpb, .ref gpc, .ref gpd, .int r2.1, .int r6.2.1, .int r6.2.2.1, .int r6.2.2.2.1])), (gpa, .inl (k 0, 32, .inl r2.2.2.2.2.1)), (gpb, .inl (k 0, 32, .inl r2.2.2.2.2.2.1)), (gpc, .inl (k 0, 12, .inl r2.2.2.2.2.2.2.1)), (gpd, .inl (k 0, 12, .inl r2.2.2.2.2.2.2.2)), (gq, .inr (1, [.ref gqa, .ref gqb, .ref gqc, .ref gqd, .int r3.1, .int r6.2.2.2.2.1, .int r6.2.2.2.2.2.1, .int r6.2.2.2.2.2.2])), (gqa, .inl (k 0, 32, .inl r3.2.2.2.2.1)), (gqb, .inl (k 0, 32, .inl r3.2.2.2.2.2.1)), (gqc, .inl (k 0, 12, .inl r3.2.2.2.2.2.2.1)), (gqd, .inl (k 0, 12, .inl r3.2.2.2.2.2.2.2))] H := hP
      have hD : va_D A [(zq, .inr (5, [.ref es, .ref yh, .ref tx, .ref gp, .ref gq, .int b0, .int b1, .int b2])), (es, .inr (2, [.ref esz, .ref esr, .ref esk, .ref esf, .ref esa, .ref esp, .ref est, .int estm])), (esz, .inl (k 0, 32, .inl eszo)), (esr, .inr (3, [.int 12, .int 11, .ref esrc, .int esrs])), (esrc, .inl (k 0, 132, .inl esrf)), (esk, .inr (3, [.int 12, .int 11, .ref eskc, .int esks])), (eskc, .inl (k 0, 132, .inl eskf)), (gp, .inr (1, [.ref gpa, .ref gpb, .ref gpc, .ref gpd, .int r2.1, .int r6.2.1, .int r6.2.2.1, .int r6.2.2.2.1])), (gpa, .inl (k 0, 32, .inl r2.2.2.2.2.1)), (gpb, .inl (k 0, 32, .inl r2.2.2.2.2.2.1)), (gpc, .inl (k 0, 12, .inl r2.2.2.2.2.2.2.1)), (gpd, .inl (k 0, 12, .inl r2.2.2.2.2.2.2.2)), (gq, .inr (1, [.ref gqa, .ref gqb, .ref gqc, .ref gqd, .int r3.1, .int r6.2.2.2.2.1, .int r6.2.2.2.2.2.1, .int r6.2.2.2.2.2.2])), (gqa, .inl (k 0, 32, .inl r3.2.2.2.2.1)), (gqb, .inl (k 0, 32, .inl r3.2.2.2.2.2.1)), (gqc, .inl (k 0, 12, .inl r3.2.2.2.2.2.2.1)), (gqd, .inl (k 0, 12, .inl r3.2.2.2.2.2.2.2))] := hD
      obtain rfl := Option.some.inj h
      exact W.iret (v := r6.1) hx hb hr (fun t ht9 hW => ⟨⟨_, (), rfl, rfl, zend ht9 hP⟩, hS.F ht9⟩) hS.2.2 dX5_change_74
  · have h := zt h c3
    refine lv_aload_n hx hb dX5_change_10 rfl (lv_at hl 0 rfl) ?_
    refine lv_bipush (v := (-2)) hx hb dX5_change_11 (by decide) ?_
    obtain ⟨r7, h7, h⟩ := zb h
    refine zi (zrV (C := RX5) (T := TX5) (N := 8) (As := [.int (-2)]) (rest := []) ⟨hx, hb, hml, hown, ht⟩ (c_X5_fails l D k zq es yh tx gp gq b0 b1 b2 (-2) h7 _) (cwV 1 ht (gdV wb271 wb273 wb0 wb72 wb274) rfl rfl rfl (by decide +kernel) ⟨Nat.le_of_ble_eq_true rfl, Nat.le_of_ble_eq_true rfl⟩) hK hP hD hS hA hm [0] rfl rfl 0 5 rfl rfl rfl hl.1 rfl (Nat.le_of_ble_eq_true rfl) dX5_change_13 ⟨Nat.le_refl _, Nat.le_refl _⟩) hP hD hS hA [0] rfl rfl (fun H locs hP hD hS => ?_)
    have hP : va_P D vwCl [(zq, .inr (5, [.ref es, .ref yh, .ref tx, .ref gp, .ref gq, .int r7.2.1, .int r7.2.2.1, .int r7.2.2.2])), (es, .inr (2, [.ref esz, .ref esr, .ref esk, .ref esf, .ref esa, .ref esp, .ref est, .int estm])), (esz, .inl (k 0, 32, .inl eszo)), (esr, .inr (3, [.int 12, .int 11, .ref esrc, .int esrs])), (esrc, .inl (k 0, 132, .inl esrf)), (esk, .inr (3, [.int 12, .int 11, .ref eskc, .int esks])), (eskc, .inl (k 0, 132, .inl eskf)), (gp, .inr (1, [.ref gpa, .ref gpb, .ref gpc, .ref gpd, .int gpsz, .int gpsn, .int gpal, .int gpre])), (gpa, .inl (k 0, 32, .inl gpfa)), (gpb, .inl (k 0, 32, .inl gpfb)), (gpc, .inl (k 0, 12, .inl gpfc)), (gpd, .inl (k 0, 12, .inl gpfd)), (gq, .inr (1, [.ref gqa, .ref gqb, .ref gqc, .ref gqd, .int gqsz, .int gqsn, .int gqal, .int gqre])), (gqa, .inl (k 0, 32, .inl gqfa)), (gqb, .inl (k 0, 32, .inl gqfb)), (gqc, .inl (k 0, 12, .inl gqfc)), (gqd, .inl (k 0, 12, .inl gqfd))] H := hP
    have hD : va_D A [(zq, .inr (5, [.ref es, .ref yh, .ref tx, .ref gp, .ref gq, .int r7.2.1, .int r7.2.2.1, .int r7.2.2.2])), (es, .inr (2, [.ref esz, .ref esr, .ref esk, .ref esf, .ref esa, .ref esp, .ref est, .int estm])), (esz, .inl (k 0, 32, .inl eszo)), (esr, .inr (3, [.int 12, .int 11, .ref esrc, .int esrs])), (esrc, .inl (k 0, 132, .inl esrf)), (esk, .inr (3, [.int 12, .int 11, .ref eskc, .int esks])), (eskc, .inl (k 0, 132, .inl eskf)), (gp, .inr (1, [.ref gpa, .ref gpb, .ref gpc, .ref gpd, .int gpsz, .int gpsn, .int gpal, .int gpre])), (gpa, .inl (k 0, 32, .inl gpfa)), (gpb, .inl (k 0, 32, .inl gpfb)), (gpc, .inl (k 0, 12, .inl gpfc)), (gpd, .inl (k 0, 12, .inl gpfd)), (gq, .inr (1, [.ref gqa, .ref gqb, .ref gqc, .ref gqd, .int gqsz, .int gqsn, .int gqal, .int gqre])), (gqa, .inl (k 0, 32, .inl gqfa)), (gqb, .inl (k 0, 32, .inl gqfb)), (gqc, .inl (k 0, 12, .inl gqfc)), (gqd, .inl (k 0, 12, .inl gqfd))] := hD
    obtain rfl := Option.some.inj h
    exact W.iret (v := r7.1) hx hb hr (fun t ht9 hW => ⟨⟨_, (), rfl, rfl, zend ht9 hP⟩, hS.F ht9⟩) hS.2.2 dX5_change_16
def f_X5_all (fu : Nat) (b0 : Int32) (b1 : Int32) (b2 : Int32) (eszo : Nat → Int32) (esrs : Int32) (esrf : Nat → Int32) (gpsz : Int32) (gpsn : Int32) (gpal : Int32) (gpre : Int32) (gpfa : Nat → Int32) (gpfb : Nat → Int32) (gpfc : Nat → Int32) (gpfd : Nat → Int32) (a1 : Int32) : Option (Int32 × Int32 × Int32 × Int32 × Int32 × Int32 × Int32 × Int32 × (Nat → Int32) × (Nat → Int32) × (Nat → Int32) × (Nat → Int32)) :=
  (f_X5_within  a1 0 2).bind fun r1 => if (zB r1) = 0 then ((f_X5_fails b0 b1 b2 (-2)).bind fun r4 => some (r4.1, r4.2.1, r4.2.2.1, r4.2.2.2, gpsz, gpsn, gpal, gpre, gpfa, gpfb, gpfc, gpfd)) else ((f_X1_draw fu gpfa gpfb gpfc gpfd 11 esrs 132 esrf eszo ).bind fun r2 => (f_X1_casesWithAction fu r2.1 r2.2.1 r2.2.2.1 r2.2.2.2.1 r2.2.2.2.2.1 r2.2.2.2.2.2.1 r2.2.2.2.2.2.2.1 r2.2.2.2.2.2.2.2 a1).bind fun r3 => some (r3.1, b0, b1, b2, r2.1, r3.2.1, r3.2.2.1, r3.2.2.2, r2.2.2.2.2.1, r2.2.2.2.2.2.1, r2.2.2.2.2.2.2.1, r2.2.2.2.2.2.2.2))
abbrev wk_X5_all : List Cond := Cond.code yX5_all cX5_all 2 (some .int) :: WB
abbrev rm_X5_all : Room := { frames := 5, cells := 0, slots := 0, locals := 120 }
set_option maxHeartbeats 4000000 in
set_option maxRecDepth 100000 in
theorem c_X5_all (l : Launch) (D : va_G) (k : Nat → Nat) (zq es yh tx gp gq esz esr esk esf esa esp est esrc gpa gpb gpc gpd : Nat) (b0 : Int32) (b1 : Int32) (b2 : Int32) (estm : Int32) (eszo : Nat → Int32) (esrs : Int32) (esrf : Nat → Int32) (gpsz : Int32) (gpsn : Int32) (gpal : Int32) (gpre : Int32) (gpfa : Nat → Int32) (gpfb : Nat → Int32) (gpfc : Nat → Int32) (gpfd : Nat → Int32) (a1 : Int32) (fu : Nat) {res : Int32 × Int32 × Int32 × Int32 × Int32 × Int32 × Int32 × Int32 × (Nat → Int32) × (Nat → Int32) × (Nat → Int32) × (Nat → Int32)} (h : f_X5_all fu b0 b1 b2 eszo esrs esrf gpsz gpsn gpal gpre gpfa gpfb gpfc gpfd a1 = some res) : Ci l yX5_all wk_X5_all rm_X5_all D k [.ref zq, .int a1] [(zq, .inr (5, [.ref es, .ref yh, .ref tx, .ref gp, .ref gq, .int b0, .int b1, .int b2])), (es, .inr (2, [.ref esz, .ref esr, .ref esk, .ref esf, .ref esa, .ref esp, .ref est, .int estm])), (esz, .inl (k 0, 32, .inl eszo)), (esr, .inr (3, [.int 12, .int 11, .ref esrc, .int esrs])), (esrc, .inl (k 0, 132, .inl esrf)), (gp, .inr (1, [.ref gpa, .ref gpb, .ref gpc, .ref gpd, .int gpsz, .int gpsn, .int gpal, .int gpre])), (gpa, .inl (k 0, 32, .inl gpfa)), (gpb, .inl (k 0, 32, .inl gpfb)), (gpc, .inl (k 0, 12, .inl gpfc)), (gpd, .inl (k 0, 12, .inl gpfd))] [(zq, .inr (5, [.ref es, .ref yh, .ref tx, .ref gp, .ref gq, .int res.2.1, .int res.2.2.1, .int res.2.2.2.1])), (es, .inr (2, [.ref esz, .ref esr, .ref esk, .ref esf, .ref esa, .ref esp, .ref est, .int estm])), (esz, .inl (k 0, 32, .inl eszo)), (esr, .inr (3, [.int 12, .int 11, .ref esrc, .int esrs])), (esrc, .inl (k 0, 132, .inl esrf)), (gp, .inr (1, [.ref gpa, .ref gpb, .ref gpc, .ref gpd, .int res.2.2.2.2.1, .int res.2.2.2.2.2.1, .int res.2.2.2.2.2.2.1, .int res.2.2.2.2.2.2.2.1])), (gpa, .inl (k 0, 32, .inl res.2.2.2.2.2.2.2.2.1)), (gpb, .inl (k 0, 32, .inl res.2.2.2.2.2.2.2.2.2.1)), (gpc, .inl (k 0, 12, .inl res.2.2.2.2.2.2.2.2.2.2.1)), (gpd, .inl (k 0, 12, .inl res.2.2.2.2.2.2.2.2.2.2.2))] res.1 := by
  unfold Ci
  intro sz
  refine Met.ofW (cc := cX5_all) (maxL := 2) (ret := (some .int)) (by decide) rfl ?_
  intro p e s m args below meth c s₁ B hml hv
  obtain ⟨rfl, hsz, hP, hK, hD0, hm⟩ := hv
  have hx := B.exec
  have hb := B.bytes
  have hr := B.returns
  have ht : ∀ w ∈ WB, w.before _ s = true := fun w hw => atoms_spec (ws := wk_X5_all) B.pre w (List.mem_cons_of_mem _ hw)
  have hown : s.vm.findClass RX5 = some m.cls := findClass_of_methodNamed B.named
  have hlocks := B.notSynchronized
  subst hsz
  have hD := hD0.self (sz := s.heap.size)
  generalize hAe : va_A [(zq, .inr (5, [.ref es, .ref yh, .ref tx, .ref gp, .ref gq, .int b0, .int b1, .int b2])), (es, .inr (2, [.ref esz, .ref esr, .ref esk, .ref esf, .ref esa, .ref esp, .ref est, .int estm])), (esz, .inl (k 0, 32, .inl eszo)), (esr, .inr (3, [.int 12, .int 11, .ref esrc, .int esrs])), (esrc, .inl (k 0, 132, .inl esrf)), (gp, .inr (1, [.ref gpa, .ref gpb, .ref gpc, .ref gpd, .int gpsz, .int gpsn, .int gpal, .int gpre])), (gpa, .inl (k 0, 32, .inl gpfa)), (gpb, .inl (k 0, 32, .inl gpfb)), (gpc, .inl (k 0, 12, .inl gpfc)), (gpd, .inl (k 0, 12, .inl gpfd))] s.heap.size = A at hD hm ⊢
  have hA : ∀ q : Nat, s.heap.size ≤ q → A q := fun q h => by rw [← hAe]; exact Or.inr h
  have hS : va_S A s.heap s.heap [] := va_S.rf
  have hl := lv_entry ([.ref zq, .int a1]) (n := 2) (Nat.le_of_ble_eq_true rfl)
  rw [lg_entry_eq]
  generalize (lg_sl ([.ref zq, .int a1]) ++ List.replicate (2 - (lg_sl ([.ref zq, .int a1])).length) Slot.unset).toArray = ls at hl ⊢
  have hl : lv_has ls 2 [(0, .ref zq), (1, .int a1)] := hl
  obtain ⟨H, hH⟩ : ∃ H, H = s.heap := ⟨_, rfl⟩
  rw [← hH] at hP
  have hS : va_S A s.heap H [] := by rw [hH]; exact hS
  suffices hgo : W p l e _ s m _ below meth c H [] 0 0 _ _ by rw [hH] at hgo; exact hgo
  unfold f_X5_all at h
  refine lv_iload_n hx hb dX5_all_0 rfl (lv_at hl 1 rfl) ?_
  refine lv_iconst (v := 0) hx hb dX5_all_1 (by decide) ?_
  refine lv_iconst (v := 2) hx hb dX5_all_2 (by decide) ?_
  obtain ⟨r1, h1, h⟩ := zb h
  refine zi (zrS (As := [.int a1, .int 0, .int 2]) (rest := []) ⟨hx, hb, hml, hown, ht⟩ (c_X5_within l D k   a1 0 2 h1 _) (va_cwS 3 ht (gdS wb268 wb269 wb72 wb270) rfl rfl rfl (by decide +kernel) ⟨Nat.le_of_ble_eq_true rfl, Nat.le_of_ble_eq_true rfl⟩) hK hP hD hS hA hm [] rfl rfl rfl hl.1 rfl (Nat.le_of_ble_eq_true rfl) dX5_all_3 ⟨Nat.le_refl _, Nat.le_refl _⟩) hP hD hS hA [] rfl rfl (fun H locs hP hD hS => ?_)
  have hP : va_P D vwCl [(zq, .inr (5, [.ref es, .ref yh, .ref tx, .ref gp, .ref gq, .int b0, .int b1, .int b2])), (es, .inr (2, [.ref esz, .ref esr, .ref esk, .ref esf, .ref esa, .ref esp, .ref est, .int estm])), (esz, .inl (k 0, 32, .inl eszo)), (esr, .inr (3, [.int 12, .int 11, .ref esrc, .int esrs])), (esrc, .inl (k 0, 132, .inl esrf)), (gp, .inr (1, [.ref gpa, .ref gpb, .ref gpc, .ref gpd, .int gpsz, .int gpsn, .int gpal, .int gpre])), (gpa, .inl (k 0, 32, .inl gpfa)), (gpb, .inl (k 0, 32, .inl gpfb)), (gpc, .inl (k 0, 12, .inl gpfc)), (gpd, .inl (k 0, 12, .inl gpfd))] H := hP
  have hD : va_D A [(zq, .inr (5, [.ref es, .ref yh, .ref tx, .ref gp, .ref gq, .int b0, .int b1, .int b2])), (es, .inr (2, [.ref esz, .ref esr, .ref esk, .ref esf, .ref esa, .ref esp, .ref est, .int estm])), (esz, .inl (k 0, 32, .inl eszo)), (esr, .inr (3, [.int 12, .int 11, .ref esrc, .int esrs])), (esrc, .inl (k 0, 132, .inl esrf)), (gp, .inr (1, [.ref gpa, .ref gpb, .ref gpc, .ref gpd, .int gpsz, .int gpsn, .int gpal, .int gpre])), (gpa, .inl (k 0, 32, .inl gpfa)), (gpb, .inl (k 0, 32, .inl gpfb)), (gpc, .inl (k 0, 12, .inl gpfc)), (gpd, .inl (k 0, 12, .inl gpfd))] := hD
  refine lv_if_ne (tgt := 16) hx hb dX5_all_6 (by decide) (fun c1 => ?_) (fun c1 => ?_)
  · have h := zf h c1
    refine lv_aload_n hx hb dX5_all_16 rfl (lv_at hl 0 rfl) ?_
    refine va_get (D := D) (ci := 5) (v := .ref gp) (C := RX5) (T := TX5) (N := 8) hx hb ht hiX5 hown hK hP 0 rfl rfl 3 (by decide) (ht _ wb242) (fun _ h9 => h9) rfl dX5_all_17 ?_
    refine lv_aload_n hx hb dX5_all_20 rfl (lv_at hl 0 rfl) ?_
    refine va_get (D := D) (ci := 5) (v := .ref es) (C := RX5) (T := TX5) (N := 8) hx hb ht hiX5 hown hK hP 0 rfl rfl 0 (by decide) (ht _ wb239) (fun _ h9 => h9) rfl dX5_all_21 ?_
    refine va_getN (D := D) (ci := 2) (v := .ref esr) (C := RX2) (T := TX2) (N := 8) hx hb ht hiX2 hown hK hP 1 rfl rfl 1 (by decide) (va_Nw.use rfl (hm.1 _ (List.mem_of_getElem? (i := 2) rfl))) (fun _ h9 => h9) rfl dX5_all_24 ?_
    refine lv_aload_n hx hb dX5_all_27 rfl (lv_at hl 0 rfl) ?_
    refine va_get (D := D) (ci := 5) (v := .ref es) (C := RX5) (T := TX5) (N := 8) hx hb ht hiX5 hown hK hP 0 rfl rfl 0 (by decide) (ht _ wb239) (fun _ h9 => h9) rfl dX5_all_28 ?_
    refine va_getN (D := D) (ci := 2) (v := .ref esz) (C := RX2) (T := TX2) (N := 8) hx hb ht hiX2 hown hK hP 1 rfl rfl 0 (by decide) (va_Nw.use rfl (hm.1 _ (List.mem_of_getElem? (i := 1) rfl))) (fun _ h9 => h9) rfl dX5_all_31 ?_
    obtain ⟨r2, h2, h⟩ := zb h
    refine zv (zrV (C := RX1) (T := TX1) (N := 8) (As := [.ref esr, .ref esz]) (rest := []) ⟨hx, hb, hml, hown, ht⟩ (c_X1_draw l D k gp gpa gpb gpc gpd esr esrc esz gpsz gpsn gpal gpre gpfa gpfb gpfc gpfd 12 11 esrs 132 esrf eszo  fu h2 _) (cwV 2 ht (gdV wb408 wb409 wb410 wb79 wb411) rfl rfl rfl (by decide +kernel) ⟨Nat.le_of_ble_eq_true rfl, Nat.le_of_ble_eq_true rfl⟩) hK hP hD hS hA hm [5, 6, 7, 8, 9, 3, 4, 2] rfl rfl 5 1 rfl rfl rfl hl.1 rfl (Nat.le_of_ble_eq_true rfl) dX5_all_34 ⟨Nat.le_refl _, Nat.le_refl _⟩) hP hD hS hA [5, 6, 7, 8, 9, 3, 4, 2] rfl rfl (fun H locs hP hD hS => ?_)
    have hP : va_P D vwCl [(zq, .inr (5, [.ref es, .ref yh, .ref tx, .ref gp, .ref gq, .int b0, .int b1, .int b2])), (es, .inr (2, [.ref esz, .ref esr, .ref esk, .ref esf, .ref esa, .ref esp, .ref est, .int estm])), (esz, .inl (k 0, 32, .inl eszo)), (esr, .inr (3, [.int 12, .int 11, .ref esrc, .int esrs])), (esrc, .inl (k 0, 132, .inl esrf)), (gp, .inr (1, [.ref gpa, .ref gpb, .ref gpc, .ref gpd, .int r2.1, .int r2.2.1, .int r2.2.2.1, .int r2.2.2.2.1])), (gpa, .inl (k 0, 32, .inl r2.2.2.2.2.1)), (gpb, .inl (k 0, 32, .inl r2.2.2.2.2.2.1)), (gpc, .inl (k 0, 12, .inl r2.2.2.2.2.2.2.1)), (gpd, .inl (k 0, 12, .inl r2.2.2.2.2.2.2.2))] H := hP
    have hD : va_D A [(zq, .inr (5, [.ref es, .ref yh, .ref tx, .ref gp, .ref gq, .int b0, .int b1, .int b2])), (es, .inr (2, [.ref esz, .ref esr, .ref esk, .ref esf, .ref esa, .ref esp, .ref est, .int estm])), (esz, .inl (k 0, 32, .inl eszo)), (esr, .inr (3, [.int 12, .int 11, .ref esrc, .int esrs])), (esrc, .inl (k 0, 132, .inl esrf)), (gp, .inr (1, [.ref gpa, .ref gpb, .ref gpc, .ref gpd, .int r2.1, .int r2.2.1, .int r2.2.2.1, .int r2.2.2.2.1])), (gpa, .inl (k 0, 32, .inl r2.2.2.2.2.1)), (gpb, .inl (k 0, 32, .inl r2.2.2.2.2.2.1)), (gpc, .inl (k 0, 12, .inl r2.2.2.2.2.2.2.1)), (gpd, .inl (k 0, 12, .inl r2.2.2.2.2.2.2.2))] := hD
    refine lv_aload_n hx hb dX5_all_37 rfl (lv_at hl 0 rfl) ?_
    refine va_get (D := D) (ci := 5) (v := .ref gp) (C := RX5) (T := TX5) (N := 8) hx hb ht hiX5 hown hK hP 0 rfl rfl 3 (by decide) (ht _ wb242) (fun _ h9 => h9) rfl dX5_all_38 ?_
    refine lv_iload_n hx hb dX5_all_41 rfl (lv_at hl 1 rfl) ?_
    obtain ⟨r3, h3, h⟩ := zb h
    refine zi (zrV (C := RX1) (T := TX1) (N := 8) (As := [.int a1]) (rest := []) ⟨hx, hb, hml, hown, ht⟩ (c_X1_casesWithAction l D k gp gpa gpb gpc gpd r2.1 r2.2.1 r2.2.2.1 r2.2.2.2.1 r2.2.2.2.2.1 r2.2.2.2.2.2.1 r2.2.2.2.2.2.2.1 r2.2.2.2.2.2.2.2 a1 fu h3 _) (cwV 1 ht (gdV wb502 wb503 wb504 wb79 wb505) rfl rfl rfl (by decide +kernel) ⟨Nat.le_of_ble_eq_true rfl, Nat.le_of_ble_eq_true rfl⟩) hK hP hD hS hA hm [5, 6, 7, 8, 9] rfl rfl 5 1 rfl rfl rfl hl.1 rfl (Nat.le_of_ble_eq_true rfl) dX5_all_42 ⟨Nat.le_refl _, Nat.le_refl _⟩) hP hD hS hA [5, 6, 7, 8, 9] rfl rfl (fun H locs hP hD hS => ?_)
    have hP : va_P D vwCl [(zq, .inr (5, [.ref es, .ref yh, .ref tx, .ref gp, .ref gq, .int b0, .int b1, .int b2])), (es, .inr (2, [.ref esz, .ref esr, .ref esk, .ref esf, .ref esa, .ref esp, .ref est, .int estm])), (esz, .inl (k 0, 32, .inl eszo)), (esr, .inr (3, [.int 12, .int 11, .ref esrc, .int esrs])), (esrc, .inl (k 0, 132, .inl esrf)), (gp, .inr (1, [.ref gpa, .ref gpb, .ref gpc, .ref gpd, .int r2.1, .int r3.2.1, .int r3.2.2.1, .int r3.2.2.2])), (gpa, .inl (k 0, 32, .inl r2.2.2.2.2.1)), (gpb, .inl (k 0, 32, .inl r2.2.2.2.2.2.1)), (gpc, .inl (k 0, 12, .inl r2.2.2.2.2.2.2.1)), (gpd, .inl (k 0, 12, .inl r2.2.2.2.2.2.2.2))] H := hP
    have hD : va_D A [(zq, .inr (5, [.ref es, .ref yh, .ref tx, .ref gp, .ref gq, .int b0, .int b1, .int b2])), (es, .inr (2, [.ref esz, .ref esr, .ref esk, .ref esf, .ref esa, .ref esp, .ref est, .int estm])), (esz, .inl (k 0, 32, .inl eszo)), (esr, .inr (3, [.int 12, .int 11, .ref esrc, .int esrs])), (esrc, .inl (k 0, 132, .inl esrf)), (gp, .inr (1, [.ref gpa, .ref gpb, .ref gpc, .ref gpd, .int r2.1, .int r3.2.1, .int r3.2.2.1, .int r3.2.2.2])), (gpa, .inl (k 0, 32, .inl r2.2.2.2.2.1)), (gpb, .inl (k 0, 32, .inl r2.2.2.2.2.2.1)), (gpc, .inl (k 0, 12, .inl r2.2.2.2.2.2.2.1)), (gpd, .inl (k 0, 12, .inl r2.2.2.2.2.2.2.2))] := hD
    obtain rfl := Option.some.inj h
    exact W.iret (v := r3.1) hx hb hr (fun t ht9 hW => ⟨⟨_, (), rfl, rfl, zend ht9 hP⟩, hS.F ht9⟩) hS.2.2 dX5_all_45
  · have h := zt h c1
    refine lv_aload_n hx hb dX5_all_9 rfl (lv_at hl 0 rfl) ?_
    refine lv_bipush (v := (-2)) hx hb dX5_all_10 (by decide) ?_
    obtain ⟨r4, h4, h⟩ := zb h
    refine zi (zrV (C := RX5) (T := TX5) (N := 8) (As := [.int (-2)]) (rest := []) ⟨hx, hb, hml, hown, ht⟩ (c_X5_fails l D k zq es yh tx gp gq b0 b1 b2 (-2) h4 _) (cwV 1 ht (gdV wb271 wb273 wb0 wb72 wb274) rfl rfl rfl (by decide +kernel) ⟨Nat.le_of_ble_eq_true rfl, Nat.le_of_ble_eq_true rfl⟩) hK hP hD hS hA hm [0] rfl rfl 0 5 rfl rfl rfl hl.1 rfl (Nat.le_of_ble_eq_true rfl) dX5_all_12 ⟨Nat.le_refl _, Nat.le_refl _⟩) hP hD hS hA [0] rfl rfl (fun H locs hP hD hS => ?_)
    have hP : va_P D vwCl [(zq, .inr (5, [.ref es, .ref yh, .ref tx, .ref gp, .ref gq, .int r4.2.1, .int r4.2.2.1, .int r4.2.2.2])), (es, .inr (2, [.ref esz, .ref esr, .ref esk, .ref esf, .ref esa, .ref esp, .ref est, .int estm])), (esz, .inl (k 0, 32, .inl eszo)), (esr, .inr (3, [.int 12, .int 11, .ref esrc, .int esrs])), (esrc, .inl (k 0, 132, .inl esrf)), (gp, .inr (1, [.ref gpa, .ref gpb, .ref gpc, .ref gpd, .int gpsz, .int gpsn, .int gpal, .int gpre])), (gpa, .inl (k 0, 32, .inl gpfa)), (gpb, .inl (k 0, 32, .inl gpfb)), (gpc, .inl (k 0, 12, .inl gpfc)), (gpd, .inl (k 0, 12, .inl gpfd))] H := hP
    have hD : va_D A [(zq, .inr (5, [.ref es, .ref yh, .ref tx, .ref gp, .ref gq, .int r4.2.1, .int r4.2.2.1, .int r4.2.2.2])), (es, .inr (2, [.ref esz, .ref esr, .ref esk, .ref esf, .ref esa, .ref esp, .ref est, .int estm])), (esz, .inl (k 0, 32, .inl eszo)), (esr, .inr (3, [.int 12, .int 11, .ref esrc, .int esrs])), (esrc, .inl (k 0, 132, .inl esrf)), (gp, .inr (1, [.ref gpa, .ref gpb, .ref gpc, .ref gpd, .int gpsz, .int gpsn, .int gpal, .int gpre])), (gpa, .inl (k 0, 32, .inl gpfa)), (gpb, .inl (k 0, 32, .inl gpfb)), (gpc, .inl (k 0, 12, .inl gpfc)), (gpd, .inl (k 0, 12, .inl gpfd))] := hD
    obtain rfl := Option.some.inj h
    exact W.iret (v := r4.1) hx hb hr (fun t ht9 hW => ⟨⟨_, (), rfl, rfl, zend ht9 hP⟩, hS.F ht9⟩) hS.2.2 dX5_all_15
def f_X5_flow (b0 : Int32) (b1 : Int32) (b2 : Int32) (esfs : Int32) (esff : Nat → Int32) (a1 : Int32) (a2 : Int32) : Option (Int32 × Int32 × Int32 × Int32) :=
  if a1 < 0 then ((f_X5_fails b0 b1 b2 (-2)).bind fun r1 => some (r1.1, r1.2.1, r1.2.2.1, r1.2.2.2)) else ((f_X5_within  a2 0 6).bind fun r2 => if (zB r2) = 0 then ((f_X5_fails b0 b1 b2 (-2)).bind fun r5 => some (r5.1, r5.2.1, r5.2.2.1, r5.2.2.2)) else ((f_X5_isFlow esfs a1).bind fun r3 => if (zB r3) = 0 then (some ((-1), b0, b1, b2)) else ((f_X3_get 7 esfs 56 esff a1 a2).bind fun r4 => some (r4, b0, b1, b2))))
abbrev wk_X5_flow : List Cond := Cond.code yX5_flow cX5_flow 3 (some .int) :: WB
abbrev rm_X5_flow : Room := { frames := 2, cells := 0, slots := 0, locals := 44 }
set_option maxHeartbeats 4000000 in
set_option maxRecDepth 100000 in
theorem c_X5_flow (l : Launch) (D : va_G) (k : Nat → Nat) (zq es yh tx gp gq esz esr esk esf esa esp est esfc : Nat) (b0 : Int32) (b1 : Int32) (b2 : Int32) (estm : Int32) (esfs : Int32) (esff : Nat → Int32) (a1 : Int32) (a2 : Int32) {res : Int32 × Int32 × Int32 × Int32} (h : f_X5_flow b0 b1 b2 esfs esff a1 a2 = some res) : Ci l yX5_flow wk_X5_flow rm_X5_flow D k [.ref zq, .int a1, .int a2] [(zq, .inr (5, [.ref es, .ref yh, .ref tx, .ref gp, .ref gq, .int b0, .int b1, .int b2])), (es, .inr (2, [.ref esz, .ref esr, .ref esk, .ref esf, .ref esa, .ref esp, .ref est, .int estm])), (esf, .inr (3, [.int 8, .int 7, .ref esfc, .int esfs])), (esfc, .inl (k 0, 56, .inl esff))] [(zq, .inr (5, [.ref es, .ref yh, .ref tx, .ref gp, .ref gq, .int res.2.1, .int res.2.2.1, .int res.2.2.2])), (es, .inr (2, [.ref esz, .ref esr, .ref esk, .ref esf, .ref esa, .ref esp, .ref est, .int estm])), (esf, .inr (3, [.int 8, .int 7, .ref esfc, .int esfs])), (esfc, .inl (k 0, 56, .inl esff))] res.1 := by
  unfold Ci
  intro sz
  refine Met.ofW (cc := cX5_flow) (maxL := 3) (ret := (some .int)) (by decide) rfl ?_
  intro p e s m args below meth c s₁ B hml hv
  obtain ⟨rfl, hsz, hP, hK, hD0, hm⟩ := hv
  have hx := B.exec
  have hb := B.bytes
  have hr := B.returns
  have ht : ∀ w ∈ WB, w.before _ s = true := fun w hw => atoms_spec (ws := wk_X5_flow) B.pre w (List.mem_cons_of_mem _ hw)
  have hown : s.vm.findClass RX5 = some m.cls := findClass_of_methodNamed B.named
  have hlocks := B.notSynchronized
  subst hsz
  have hD := hD0.self (sz := s.heap.size)
  generalize hAe : va_A [(zq, .inr (5, [.ref es, .ref yh, .ref tx, .ref gp, .ref gq, .int b0, .int b1, .int b2])), (es, .inr (2, [.ref esz, .ref esr, .ref esk, .ref esf, .ref esa, .ref esp, .ref est, .int estm])), (esf, .inr (3, [.int 8, .int 7, .ref esfc, .int esfs])), (esfc, .inl (k 0, 56, .inl esff))] s.heap.size = A at hD hm ⊢
  have hA : ∀ q : Nat, s.heap.size ≤ q → A q := fun q h => by rw [← hAe]; exact Or.inr h
  have hS : va_S A s.heap s.heap [] := va_S.rf
  have hl := lv_entry ([.ref zq, .int a1, .int a2]) (n := 3) (Nat.le_of_ble_eq_true rfl)
  rw [lg_entry_eq]
  generalize (lg_sl ([.ref zq, .int a1, .int a2]) ++ List.replicate (3 - (lg_sl ([.ref zq, .int a1, .int a2])).length) Slot.unset).toArray = ls at hl ⊢
  have hl : lv_has ls 3 [(0, .ref zq), (1, .int a1), (2, .int a2)] := hl
  obtain ⟨H, hH⟩ : ∃ H, H = s.heap := ⟨_, rfl⟩
  rw [← hH] at hP
  have hS : va_S A s.heap H [] := by rw [hH]; exact hS
  suffices hgo : W p l e _ s m _ below meth c H [] 0 0 _ _ by rw [hH] at hgo; exact hgo
  unfold f_X5_flow at h
  refine lv_iload_n hx hb dX5_flow_0 rfl (lv_at hl 1 rfl) ?_
  refine lv_if_lt (tgt := 14) hx hb dX5_flow_1 (by decide) (fun c3 => ?_) (fun c3 => ?_)
  · have h := zt h c3
    refine lv_aload_n hx hb dX5_flow_14 rfl (lv_at hl 0 rfl) ?_
    refine lv_bipush (v := (-2)) hx hb dX5_flow_15 (by decide) ?_
    obtain ⟨r1, h1, h⟩ := zb h
    refine zi (zrV (C := RX5) (T := TX5) (N := 8) (As := [.int (-2)]) (rest := []) ⟨hx, hb, hml, hown, ht⟩ (c_X5_fails l D k zq es yh tx gp gq b0 b1 b2 (-2) h1 _) (cwV 1 ht (gdV wb271 wb273 wb0 wb72 wb274) rfl rfl rfl (by decide +kernel) ⟨Nat.le_of_ble_eq_true rfl, Nat.le_of_ble_eq_true rfl⟩) hK hP hD hS hA hm [0] rfl rfl 0 5 rfl rfl rfl hl.1 rfl (Nat.le_of_ble_eq_true rfl) dX5_flow_17 ⟨Nat.le_refl _, Nat.le_refl _⟩) hP hD hS hA [0] rfl rfl (fun H locs hP hD hS => ?_)
    have hP : va_P D vwCl [(zq, .inr (5, [.ref es, .ref yh, .ref tx, .ref gp, .ref gq, .int r1.2.1, .int r1.2.2.1, .int r1.2.2.2])), (es, .inr (2, [.ref esz, .ref esr, .ref esk, .ref esf, .ref esa, .ref esp, .ref est, .int estm])), (esf, .inr (3, [.int 8, .int 7, .ref esfc, .int esfs])), (esfc, .inl (k 0, 56, .inl esff))] H := hP
    have hD : va_D A [(zq, .inr (5, [.ref es, .ref yh, .ref tx, .ref gp, .ref gq, .int r1.2.1, .int r1.2.2.1, .int r1.2.2.2])), (es, .inr (2, [.ref esz, .ref esr, .ref esk, .ref esf, .ref esa, .ref esp, .ref est, .int estm])), (esf, .inr (3, [.int 8, .int 7, .ref esfc, .int esfs])), (esfc, .inl (k 0, 56, .inl esff))] := hD
    obtain rfl := Option.some.inj h
    exact W.iret (v := r1.1) hx hb hr (fun t ht9 hW => ⟨⟨_, (), rfl, rfl, zend ht9 hP⟩, hS.F ht9⟩) hS.2.2 dX5_flow_20
  · have h := zf h c3
    refine lv_iload_n hx hb dX5_flow_4 rfl (lv_at hl 2 rfl) ?_
    refine lv_iconst (v := 0) hx hb dX5_flow_5 (by decide) ?_
    refine lv_bipush (v := 6) hx hb dX5_flow_6 (by decide) ?_
    obtain ⟨r2, h2, h⟩ := zb h
    refine zi (zrS (As := [.int a2, .int 0, .int 6]) (rest := []) ⟨hx, hb, hml, hown, ht⟩ (c_X5_within l D k   a2 0 6 h2 _) (va_cwS 3 ht (gdS wb268 wb269 wb72 wb270) rfl rfl rfl (by decide +kernel) ⟨Nat.le_of_ble_eq_true rfl, Nat.le_of_ble_eq_true rfl⟩) hK hP hD hS hA hm [] rfl rfl rfl hl.1 rfl (Nat.le_of_ble_eq_true rfl) dX5_flow_8 ⟨Nat.le_refl _, Nat.le_refl _⟩) hP hD hS hA [] rfl rfl (fun H locs hP hD hS => ?_)
    have hP : va_P D vwCl [(zq, .inr (5, [.ref es, .ref yh, .ref tx, .ref gp, .ref gq, .int b0, .int b1, .int b2])), (es, .inr (2, [.ref esz, .ref esr, .ref esk, .ref esf, .ref esa, .ref esp, .ref est, .int estm])), (esf, .inr (3, [.int 8, .int 7, .ref esfc, .int esfs])), (esfc, .inl (k 0, 56, .inl esff))] H := hP
    have hD : va_D A [(zq, .inr (5, [.ref es, .ref yh, .ref tx, .ref gp, .ref gq, .int b0, .int b1, .int b2])), (es, .inr (2, [.ref esz, .ref esr, .ref esk, .ref esf, .ref esa, .ref esp, .ref est, .int estm])), (esf, .inr (3, [.int 8, .int 7, .ref esfc, .int esfs])), (esfc, .inl (k 0, 56, .inl esff))] := hD
    refine lv_if_ne (tgt := 21) hx hb dX5_flow_11 (by decide) (fun c2 => ?_) (fun c2 => ?_)
    · have h := zf h c2
      refine lv_aload_n hx hb dX5_flow_21 rfl (lv_at hl 0 rfl) ?_
      refine lv_iload_n hx hb dX5_flow_22 rfl (lv_at hl 1 rfl) ?_
      obtain ⟨r3, h3, h⟩ := zb h
      refine zi (zrV (C := RX5) (T := TX5) (N := 8) (As := [.int a1]) (rest := []) ⟨hx, hb, hml, hown, ht⟩ (c_X5_isFlow l D k zq es yh tx gp gq esz esr esk esf esa esp est esfc b0 b1 b2 estm esfs esff a1 h3 _) (cwV 1 ht (gdV wb560 wb562 wb17 wb72 wb563) rfl rfl rfl (by decide +kernel) ⟨Nat.le_of_ble_eq_true rfl, Nat.le_of_ble_eq_true rfl⟩) hK hP hD hS hA hm [0, 1, 2, 3] rfl rfl 0 5 rfl rfl rfl hl.1 rfl (Nat.le_of_ble_eq_true rfl) dX5_flow_23 ⟨Nat.le_refl _, Nat.le_refl _⟩) hP hD hS hA [0, 1, 2, 3] rfl rfl (fun H locs hP hD hS => ?_)
      have hP : va_P D vwCl [(zq, .inr (5, [.ref es, .ref yh, .ref tx, .ref gp, .ref gq, .int b0, .int b1, .int b2])), (es, .inr (2, [.ref esz, .ref esr, .ref esk, .ref esf, .ref esa, .ref esp, .ref est, .int estm])), (esf, .inr (3, [.int 8, .int 7, .ref esfc, .int esfs])), (esfc, .inl (k 0, 56, .inl esff))] H := hP
      have hD : va_D A [(zq, .inr (5, [.ref es, .ref yh, .ref tx, .ref gp, .ref gq, .int b0, .int b1, .int b2])), (es, .inr (2, [.ref esz, .ref esr, .ref esk, .ref esf, .ref esa, .ref esp, .ref est, .int estm])), (esf, .inr (3, [.int 8, .int 7, .ref esfc, .int esfs])), (esfc, .inl (k 0, 56, .inl esff))] := hD
      refine lv_if_eq (tgt := 44) hx hb dX5_flow_26 (by decide) (fun c1 => ?_) (fun c1 => ?_)
      · have h := zt h c1
        refine lv_iconst (v := (-1)) hx hb dX5_flow_44 (by decide) ?_
        obtain rfl := Option.some.inj h
        exact W.iret (v := (-1)) hx hb hr (fun t ht9 hW => ⟨⟨_, (), rfl, rfl, zend ht9 hP⟩, hS.F ht9⟩) hS.2.2 dX5_flow_45
      · have h := zf h c1
        refine lv_aload_n hx hb dX5_flow_29 rfl (lv_at hl 0 rfl) ?_
        refine va_get (D := D) (ci := 5) (v := .ref es) (C := RX5) (T := TX5) (N := 8) hx hb ht hiX5 hown hK hP 0 rfl rfl 0 (by decide) (ht _ wb239) (fun _ h9 => h9) rfl dX5_flow_30 ?_
        refine va_getN (D := D) (ci := 2) (v := .ref esf) (C := RX2) (T := TX2) (N := 8) hx hb ht hiX2 hown hK hP 1 rfl rfl 3 (by decide) (va_Nw.use rfl (hm.1 _ (List.mem_of_getElem? (i := 4) rfl))) (fun _ h9 => h9) rfl dX5_flow_33 ?_
        refine lv_iload_n hx hb dX5_flow_36 rfl (lv_at hl 1 rfl) ?_
        refine lv_iload_n hx hb dX5_flow_37 rfl (lv_at hl 2 rfl) ?_
        obtain ⟨r4, h4, h⟩ := zb h
        refine zi (zrV (C := RX3) (T := TX3) (N := 4) (As := [.int a1, .int a2]) (rest := []) ⟨hx, hb, hml, hown, ht⟩ (c_X3_get l D k esf esfc 8 7 esfs 56 esff a1 a2 h4 _) (cwV 2 ht (gdV wb343 wb344 wb345 wb74 wb346) rfl rfl rfl (by decide +kernel) ⟨Nat.le_of_ble_eq_true rfl, Nat.le_of_ble_eq_true rfl⟩) hK hP hD hS hA hm [2, 3] rfl rfl 2 3 rfl rfl rfl hl.1 rfl (Nat.le_of_ble_eq_true rfl) dX5_flow_38 ⟨Nat.le_refl _, Nat.le_refl _⟩) hP hD hS hA [2, 3] rfl rfl (fun H locs hP hD hS => ?_)
        have hP : va_P D vwCl [(zq, .inr (5, [.ref es, .ref yh, .ref tx, .ref gp, .ref gq, .int b0, .int b1, .int b2])), (es, .inr (2, [.ref esz, .ref esr, .ref esk, .ref esf, .ref esa, .ref esp, .ref est, .int estm])), (esf, .inr (3, [.int 8, .int 7, .ref esfc, .int esfs])), (esfc, .inl (k 0, 56, .inl esff))] H := hP
        have hD : va_D A [(zq, .inr (5, [.ref es, .ref yh, .ref tx, .ref gp, .ref gq, .int b0, .int b1, .int b2])), (es, .inr (2, [.ref esz, .ref esr, .ref esk, .ref esf, .ref esa, .ref esp, .ref est, .int estm])), (esf, .inr (3, [.int 8, .int 7, .ref esfc, .int esfs])), (esfc, .inl (k 0, 56, .inl esff))] := hD
        refine lv_goto (tgt := 45) hx hb dX5_flow_41 (by decide) ?_
        obtain rfl := Option.some.inj h
        exact W.iret (v := r4) hx hb hr (fun t ht9 hW => ⟨⟨_, (), rfl, rfl, zend ht9 hP⟩, hS.F ht9⟩) hS.2.2 dX5_flow_45
    · have h := zt h c2
      refine lv_aload_n hx hb dX5_flow_14 rfl (lv_at hl 0 rfl) ?_
      refine lv_bipush (v := (-2)) hx hb dX5_flow_15 (by decide) ?_
      obtain ⟨r5, h5, h⟩ := zb h
      refine zi (zrV (C := RX5) (T := TX5) (N := 8) (As := [.int (-2)]) (rest := []) ⟨hx, hb, hml, hown, ht⟩ (c_X5_fails l D k zq es yh tx gp gq b0 b1 b2 (-2) h5 _) (cwV 1 ht (gdV wb271 wb273 wb0 wb72 wb274) rfl rfl rfl (by decide +kernel) ⟨Nat.le_of_ble_eq_true rfl, Nat.le_of_ble_eq_true rfl⟩) hK hP hD hS hA hm [0] rfl rfl 0 5 rfl rfl rfl hl.1 rfl (Nat.le_of_ble_eq_true rfl) dX5_flow_17 ⟨Nat.le_refl _, Nat.le_refl _⟩) hP hD hS hA [0] rfl rfl (fun H locs hP hD hS => ?_)
      have hP : va_P D vwCl [(zq, .inr (5, [.ref es, .ref yh, .ref tx, .ref gp, .ref gq, .int r5.2.1, .int r5.2.2.1, .int r5.2.2.2])), (es, .inr (2, [.ref esz, .ref esr, .ref esk, .ref esf, .ref esa, .ref esp, .ref est, .int estm])), (esf, .inr (3, [.int 8, .int 7, .ref esfc, .int esfs])), (esfc, .inl (k 0, 56, .inl esff))] H := hP
      have hD : va_D A [(zq, .inr (5, [.ref es, .ref yh, .ref tx, .ref gp, .ref gq, .int r5.2.1, .int r5.2.2.1, .int r5.2.2.2])), (es, .inr (2, [.ref esz, .ref esr, .ref esk, .ref esf, .ref esa, .ref esp, .ref est, .int estm])), (esf, .inr (3, [.int 8, .int 7, .ref esfc, .int esfs])), (esfc, .inl (k 0, 56, .inl esff))] := hD
      obtain rfl := Option.some.inj h
      exact W.iret (v := r5.1) hx hb hr (fun t ht9 hW => ⟨⟨_, (), rfl, rfl, zend ht9 hP⟩, hS.F ht9⟩) hS.2.2 dX5_flow_20
def f_X5_count (b0 : Int32) (b1 : Int32) (b2 : Int32) (estm : Int32) (esrs : Int32) (esfs : Int32) (esas : Int32) (estf : Nat → Int32) (a1 : Int32) : Option (Int32 × Int32 × Int32 × Int32) :=
  (f_X5_within  a1 0 9).bind fun r1 => if (zB r1) = 0 then ((f_X5_fails b0 b1 b2 (-2)).bind fun r5 => some (r5.1, r5.2.1, r5.2.2.1, r5.2.2.2)) else (if a1 = 0 then ((f_X3_size esrs ).bind fun r4 => some (r4, b0, b1, b2)) else (if a1 = 1 then ((f_X3_size esfs ).bind fun r3 => some (r3, b0, b1, b2)) else (if a1 = 2 then ((f_X3_size esas ).bind fun r2 => some (r2, b0, b1, b2)) else (if a1 = 3 then (some (estm, b0, b1, b2)) else (if zok (a1 - 4) 6 then (some (estf (Int32.toNatClampNeg (a1 - 4)), b0, b1, b2)) else none)))))
abbrev wk_X5_count : List Cond := Cond.code yX5_count cX5_count 2 (some .int) :: WB
abbrev rm_X5_count : Room := { frames := 1, cells := 0, slots := 0, locals := 22 }
set_option maxHeartbeats 4000000 in
set_option maxRecDepth 100000 in
theorem c_X5_count (l : Launch) (D : va_G) (k : Nat → Nat) (zq es yh tx gp gq esz esr esk esf esa esp est esrc esfc esac : Nat) (b0 : Int32) (b1 : Int32) (b2 : Int32) (estm : Int32) (esrs : Int32) (esrf : Nat → Int32) (esfs : Int32) (esff : Nat → Int32) (esas : Int32) (esaf : Nat → Int32) (estf : Nat → Int32) (a1 : Int32) {res : Int32 × Int32 × Int32 × Int32} (h : f_X5_count b0 b1 b2 estm esrs esfs esas estf a1 = some res) : Ci l yX5_count wk_X5_count rm_X5_count D k [.ref zq, .int a1] [(zq, .inr (5, [.ref es, .ref yh, .ref tx, .ref gp, .ref gq, .int b0, .int b1, .int b2])), (es, .inr (2, [.ref esz, .ref esr, .ref esk, .ref esf, .ref esa, .ref esp, .ref est, .int estm])), (esr, .inr (3, [.int 12, .int 11, .ref esrc, .int esrs])), (esrc, .inl (k 0, 132, .inl esrf)), (esf, .inr (3, [.int 8, .int 7, .ref esfc, .int esfs])), (esfc, .inl (k 0, 56, .inl esff)), (esa, .inr (3, [.int 6, .int 5, .ref esac, .int esas])), (esac, .inl (k 0, 30, .inl esaf)), (est, .inl (k 0, 6, .inl estf))] [(zq, .inr (5, [.ref es, .ref yh, .ref tx, .ref gp, .ref gq, .int res.2.1, .int res.2.2.1, .int res.2.2.2])), (es, .inr (2, [.ref esz, .ref esr, .ref esk, .ref esf, .ref esa, .ref esp, .ref est, .int estm])), (esr, .inr (3, [.int 12, .int 11, .ref esrc, .int esrs])), (esrc, .inl (k 0, 132, .inl esrf)), (esf, .inr (3, [.int 8, .int 7, .ref esfc, .int esfs])), (esfc, .inl (k 0, 56, .inl esff)), (esa, .inr (3, [.int 6, .int 5, .ref esac, .int esas])), (esac, .inl (k 0, 30, .inl esaf)), (est, .inl (k 0, 6, .inl estf))] res.1 := by
  unfold Ci
  intro sz
  refine Met.ofW (cc := cX5_count) (maxL := 2) (ret := (some .int)) (by decide) rfl ?_
  intro p e s m args below meth c s₁ B hml hv
  obtain ⟨rfl, hsz, hP, hK, hD0, hm⟩ := hv
  have hx := B.exec
  have hb := B.bytes
  have hr := B.returns
  have ht : ∀ w ∈ WB, w.before _ s = true := fun w hw => atoms_spec (ws := wk_X5_count) B.pre w (List.mem_cons_of_mem _ hw)
  have hown : s.vm.findClass RX5 = some m.cls := findClass_of_methodNamed B.named
  have hlocks := B.notSynchronized
  subst hsz
  have hD := hD0.self (sz := s.heap.size)
  generalize hAe : va_A [(zq, .inr (5, [.ref es, .ref yh, .ref tx, .ref gp, .ref gq, .int b0, .int b1, .int b2])), (es, .inr (2, [.ref esz, .ref esr, .ref esk, .ref esf, .ref esa, .ref esp, .ref est, .int estm])), (esr, .inr (3, [.int 12, .int 11, .ref esrc, .int esrs])), (esrc, .inl (k 0, 132, .inl esrf)), (esf, .inr (3, [.int 8, .int 7, .ref esfc, .int esfs])), (esfc, .inl (k 0, 56, .inl esff)), (esa, .inr (3, [.int 6, .int 5, .ref esac, .int esas])), (esac, .inl (k 0, 30, .inl esaf)), (est, .inl (k 0, 6, .inl estf))] s.heap.size = A at hD hm ⊢
  have hA : ∀ q : Nat, s.heap.size ≤ q → A q := fun q h => by rw [← hAe]; exact Or.inr h
  have hS : va_S A s.heap s.heap [] := va_S.rf
  have hl := lv_entry ([.ref zq, .int a1]) (n := 2) (Nat.le_of_ble_eq_true rfl)
  rw [lg_entry_eq]
  generalize (lg_sl ([.ref zq, .int a1]) ++ List.replicate (2 - (lg_sl ([.ref zq, .int a1])).length) Slot.unset).toArray = ls at hl ⊢
  have hl : lv_has ls 2 [(0, .ref zq), (1, .int a1)] := hl
  obtain ⟨H, hH⟩ : ∃ H, H = s.heap := ⟨_, rfl⟩
  rw [← hH] at hP
  have hS : va_S A s.heap H [] := by rw [hH]; exact hS
  suffices hgo : W p l e _ s m _ below meth c H [] 0 0 _ _ by rw [hH] at hgo; exact hgo
  unfold f_X5_count at h
  refine lv_iload_n hx hb dX5_count_0 rfl (lv_at hl 1 rfl) ?_
  refine lv_iconst (v := 0) hx hb dX5_count_1 (by decide) ?_
  refine lv_bipush (v := 9) hx hb dX5_count_2 (by decide) ?_
  obtain ⟨r1, h1, h⟩ := zb h
  refine zi (zrS (As := [.int a1, .int 0, .int 9]) (rest := []) ⟨hx, hb, hml, hown, ht⟩ (c_X5_within l D k   a1 0 9 h1 _) (va_cwS 3 ht (gdS wb268 wb269 wb72 wb270) rfl rfl rfl (by decide +kernel) ⟨Nat.le_of_ble_eq_true rfl, Nat.le_of_ble_eq_true rfl⟩) hK hP hD hS hA hm [] rfl rfl rfl hl.1 rfl (Nat.le_of_ble_eq_true rfl) dX5_count_4 ⟨Nat.le_refl _, Nat.le_refl _⟩) hP hD hS hA [] rfl rfl (fun H locs hP hD hS => ?_)
  have hP : va_P D vwCl [(zq, .inr (5, [.ref es, .ref yh, .ref tx, .ref gp, .ref gq, .int b0, .int b1, .int b2])), (es, .inr (2, [.ref esz, .ref esr, .ref esk, .ref esf, .ref esa, .ref esp, .ref est, .int estm])), (esr, .inr (3, [.int 12, .int 11, .ref esrc, .int esrs])), (esrc, .inl (k 0, 132, .inl esrf)), (esf, .inr (3, [.int 8, .int 7, .ref esfc, .int esfs])), (esfc, .inl (k 0, 56, .inl esff)), (esa, .inr (3, [.int 6, .int 5, .ref esac, .int esas])), (esac, .inl (k 0, 30, .inl esaf)), (est, .inl (k 0, 6, .inl estf))] H := hP
  have hD : va_D A [(zq, .inr (5, [.ref es, .ref yh, .ref tx, .ref gp, .ref gq, .int b0, .int b1, .int b2])), (es, .inr (2, [.ref esz, .ref esr, .ref esk, .ref esf, .ref esa, .ref esp, .ref est, .int estm])), (esr, .inr (3, [.int 12, .int 11, .ref esrc, .int esrs])), (esrc, .inl (k 0, 132, .inl esrf)), (esf, .inr (3, [.int 8, .int 7, .ref esfc, .int esfs])), (esfc, .inl (k 0, 56, .inl esff)), (esa, .inr (3, [.int 6, .int 5, .ref esac, .int esas])), (esac, .inl (k 0, 30, .inl esaf)), (est, .inl (k 0, 6, .inl estf))] := hD
  refine lv_if_ne (tgt := 17) hx hb dX5_count_7 (by decide) (fun c5 => ?_) (fun c5 => ?_)
  · have h := zf h c5
    refine lv_iload_n hx hb dX5_count_17 rfl (lv_at hl 1 rfl) ?_
    by_cases c1 : a1 = 0
    · have h := zt h c1
      refine lv_tableIn (off := 30) (tgt := 48) hx hb dX5_count_18 (by rw [c1]; decide) (by rw [c1]; decide) (by rw [c1]; rfl) (by decide) ?_
      refine lv_aload_n hx hb dX5_count_48 rfl (lv_at hl 0 rfl) ?_
      refine va_get (D := D) (ci := 5) (v := .ref es) (C := RX5) (T := TX5) (N := 8) hx hb ht hiX5 hown hK hP 0 rfl rfl 0 (by decide) (ht _ wb239) (fun _ h9 => h9) rfl dX5_count_49 ?_
      refine va_getN (D := D) (ci := 2) (v := .ref esr) (C := RX2) (T := TX2) (N := 8) hx hb ht hiX2 hown hK hP 1 rfl rfl 1 (by decide) (va_Nw.use rfl (hm.1 _ (List.mem_of_getElem? (i := 2) rfl))) (fun _ h9 => h9) rfl dX5_count_52 ?_
      obtain ⟨r4, h4, h⟩ := zb h
      refine zi (zrV (C := RX3) (T := TX3) (N := 4) (As := []) (rest := []) ⟨hx, hb, hml, hown, ht⟩ (c_X3_size l D k esr esrc 12 11 esrs 132 esrf  h4 _) (cwV 0 ht (gdV wb304 wb305 wb306 wb74 wb307) rfl rfl rfl (by decide +kernel) ⟨Nat.le_of_ble_eq_true rfl, Nat.le_of_ble_eq_true rfl⟩) hK hP hD hS hA hm [2, 3] rfl rfl 2 3 rfl rfl rfl hl.1 rfl (Nat.le_of_ble_eq_true rfl) dX5_count_55 ⟨Nat.le_refl _, Nat.le_refl _⟩) hP hD hS hA [2, 3] rfl rfl (fun H locs hP hD hS => ?_)
      have hP : va_P D vwCl [(zq, .inr (5, [.ref es, .ref yh, .ref tx, .ref gp, .ref gq, .int b0, .int b1, .int b2])), (es, .inr (2, [.ref esz, .ref esr, .ref esk, .ref esf, .ref esa, .ref esp, .ref est, .int estm])), (esr, .inr (3, [.int 12, .int 11, .ref esrc, .int esrs])), (esrc, .inl (k 0, 132, .inl esrf)), (esf, .inr (3, [.int 8, .int 7, .ref esfc, .int esfs])), (esfc, .inl (k 0, 56, .inl esff)), (esa, .inr (3, [.int 6, .int 5, .ref esac, .int esas])), (esac, .inl (k 0, 30, .inl esaf)), (est, .inl (k 0, 6, .inl estf))] H := hP
      have hD : va_D A [(zq, .inr (5, [.ref es, .ref yh, .ref tx, .ref gp, .ref gq, .int b0, .int b1, .int b2])), (es, .inr (2, [.ref esz, .ref esr, .ref esk, .ref esf, .ref esa, .ref esp, .ref est, .int estm])), (esr, .inr (3, [.int 12, .int 11, .ref esrc, .int esrs])), (esrc, .inl (k 0, 132, .inl esrf)), (esf, .inr (3, [.int 8, .int 7, .ref esfc, .int esfs])), (esfc, .inl (k 0, 56, .inl esff)), (esa, .inr (3, [.int 6, .int 5, .ref esac, .int esas])), (esac, .inl (k 0, 30, .inl esaf)), (est, .inl (k 0, 6, .inl estf))] := hD
      obtain rfl := Option.some.inj h
      exact W.iret (v := r4) hx hb hr (fun t ht9 hW => ⟨⟨_, (), rfl, rfl, zend ht9 hP⟩, hS.F ht9⟩) hS.2.2 dX5_count_58
    · have h := zf h c1
      by_cases c2 : a1 = 1
      · have h := zt h c2
        refine lv_tableIn (off := 41) (tgt := 59) hx hb dX5_count_18 (by rw [c2]; decide) (by rw [c2]; decide) (by rw [c2]; rfl) (by decide) ?_
        refine lv_aload_n hx hb dX5_count_59 rfl (lv_at hl 0 rfl) ?_
        refine va_get (D := D) (ci := 5) (v := .ref es) (C := RX5) (T := TX5) (N := 8) hx hb ht hiX5 hown hK hP 0 rfl rfl 0 (by decide) (ht _ wb239) (fun _ h9 => h9) rfl dX5_count_60 ?_
        refine va_getN (D := D) (ci := 2) (v := .ref esf) (C := RX2) (T := TX2) (N := 8) hx hb ht hiX2 hown hK hP 1 rfl rfl 3 (by decide) (va_Nw.use rfl (hm.1 _ (List.mem_of_getElem? (i := 4) rfl))) (fun _ h9 => h9) rfl dX5_count_63 ?_
        obtain ⟨r3, h3, h⟩ := zb h
        refine zi (zrV (C := RX3) (T := TX3) (N := 4) (As := []) (rest := []) ⟨hx, hb, hml, hown, ht⟩ (c_X3_size l D k esf esfc 8 7 esfs 56 esff  h3 _) (cwV 0 ht (gdV wb304 wb305 wb306 wb74 wb307) rfl rfl rfl (by decide +kernel) ⟨Nat.le_of_ble_eq_true rfl, Nat.le_of_ble_eq_true rfl⟩) hK hP hD hS hA hm [4, 5] rfl rfl 4 3 rfl rfl rfl hl.1 rfl (Nat.le_of_ble_eq_true rfl) dX5_count_66 ⟨Nat.le_refl _, Nat.le_refl _⟩) hP hD hS hA [4, 5] rfl rfl (fun H locs hP hD hS => ?_)
        have hP : va_P D vwCl [(zq, .inr (5, [.ref es, .ref yh, .ref tx, .ref gp, .ref gq, .int b0, .int b1, .int b2])), (es, .inr (2, [.ref esz, .ref esr, .ref esk, .ref esf, .ref esa, .ref esp, .ref est, .int estm])), (esr, .inr (3, [.int 12, .int 11, .ref esrc, .int esrs])), (esrc, .inl (k 0, 132, .inl esrf)), (esf, .inr (3, [.int 8, .int 7, .ref esfc, .int esfs])), (esfc, .inl (k 0, 56, .inl esff)), (esa, .inr (3, [.int 6, .int 5, .ref esac, .int esas])), (esac, .inl (k 0, 30, .inl esaf)), (est, .inl (k 0, 6, .inl estf))] H := hP
        have hD : va_D A [(zq, .inr (5, [.ref es, .ref yh, .ref tx, .ref gp, .ref gq, .int b0, .int b1, .int b2])), (es, .inr (2, [.ref esz, .ref esr, .ref esk, .ref esf, .ref esa, .ref esp, .ref est, .int estm])), (esr, .inr (3, [.int 12, .int 11, .ref esrc, .int esrs])), (esrc, .inl (k 0, 132, .inl esrf)), (esf, .inr (3, [.int 8, .int 7, .ref esfc, .int esfs])), (esfc, .inl (k 0, 56, .inl esff)), (esa, .inr (3, [.int 6, .int 5, .ref esac, .int esas])), (esac, .inl (k 0, 30, .inl esaf)), (est, .inl (k 0, 6, .inl estf))] := hD
        obtain rfl := Option.some.inj h
        exact W.iret (v := r3) hx hb hr (fun t ht9 hW => ⟨⟨_, (), rfl, rfl, zend ht9 hP⟩, hS.F ht9⟩) hS.2.2 dX5_count_69
      · have h := zf h c2
        by_cases c3 : a1 = 2
        · have h := zt h c3
          refine lv_tableIn (off := 52) (tgt := 70) hx hb dX5_count_18 (by rw [c3]; decide) (by rw [c3]; decide) (by rw [c3]; rfl) (by decide) ?_
          refine lv_aload_n hx hb dX5_count_70 rfl (lv_at hl 0 rfl) ?_
          refine va_get (D := D) (ci := 5) (v := .ref es) (C := RX5) (T := TX5) (N := 8) hx hb ht hiX5 hown hK hP 0 rfl rfl 0 (by decide) (ht _ wb239) (fun _ h9 => h9) rfl dX5_count_71 ?_
          refine va_getN (D := D) (ci := 2) (v := .ref esa) (C := RX2) (T := TX2) (N := 8) hx hb ht hiX2 hown hK hP 1 rfl rfl 4 (by decide) (va_Nw.use rfl (hm.1 _ (List.mem_of_getElem? (i := 5) rfl))) (fun _ h9 => h9) rfl dX5_count_74 ?_
          obtain ⟨r2, h2, h⟩ := zb h
          refine zi (zrV (C := RX3) (T := TX3) (N := 4) (As := []) (rest := []) ⟨hx, hb, hml, hown, ht⟩ (c_X3_size l D k esa esac 6 5 esas 30 esaf  h2 _) (cwV 0 ht (gdV wb304 wb305 wb306 wb74 wb307) rfl rfl rfl (by decide +kernel) ⟨Nat.le_of_ble_eq_true rfl, Nat.le_of_ble_eq_true rfl⟩) hK hP hD hS hA hm [6, 7] rfl rfl 6 3 rfl rfl rfl hl.1 rfl (Nat.le_of_ble_eq_true rfl) dX5_count_77 ⟨Nat.le_refl _, Nat.le_refl _⟩) hP hD hS hA [6, 7] rfl rfl (fun H locs hP hD hS => ?_)
          have hP : va_P D vwCl [(zq, .inr (5, [.ref es, .ref yh, .ref tx, .ref gp, .ref gq, .int b0, .int b1, .int b2])), (es, .inr (2, [.ref esz, .ref esr, .ref esk, .ref esf, .ref esa, .ref esp, .ref est, .int estm])), (esr, .inr (3, [.int 12, .int 11, .ref esrc, .int esrs])), (esrc, .inl (k 0, 132, .inl esrf)), (esf, .inr (3, [.int 8, .int 7, .ref esfc, .int esfs])), (esfc, .inl (k 0, 56, .inl esff)), (esa, .inr (3, [.int 6, .int 5, .ref esac, .int esas])), (esac, .inl (k 0, 30, .inl esaf)), (est, .inl (k 0, 6, .inl estf))] H := hP
          have hD : va_D A [(zq, .inr (5, [.ref es, .ref yh, .ref tx, .ref gp, .ref gq, .int b0, .int b1, .int b2])), (es, .inr (2, [.ref esz, .ref esr, .ref esk, .ref esf, .ref esa, .ref esp, .ref est, .int estm])), (esr, .inr (3, [.int 12, .int 11, .ref esrc, .int esrs])), (esrc, .inl (k 0, 132, .inl esrf)), (esf, .inr (3, [.int 8, .int 7, .ref esfc, .int esfs])), (esfc, .inl (k 0, 56, .inl esff)), (esa, .inr (3, [.int 6, .int 5, .ref esac, .int esas])), (esac, .inl (k 0, 30, .inl esaf)), (est, .inl (k 0, 6, .inl estf))] := hD
          obtain rfl := Option.some.inj h
          exact W.iret (v := r2) hx hb hr (fun t ht9 hW => ⟨⟨_, (), rfl, rfl, zend ht9 hP⟩, hS.F ht9⟩) hS.2.2 dX5_count_80
        · have h := zf h c3
          by_cases c4 : a1 = 3
          · have h := zt h c4
            refine lv_tableIn (off := 63) (tgt := 81) hx hb dX5_count_18 (by rw [c4]; decide) (by rw [c4]; decide) (by rw [c4]; rfl) (by decide) ?_
            refine lv_aload_n hx hb dX5_count_81 rfl (lv_at hl 0 rfl) ?_
            refine va_get (D := D) (ci := 5) (v := .ref es) (C := RX5) (T := TX5) (N := 8) hx hb ht hiX5 hown hK hP 0 rfl rfl 0 (by decide) (ht _ wb239) (fun _ h9 => h9) rfl dX5_count_82 ?_
            refine va_getN (D := D) (ci := 2) (v := .int estm) (C := RX2) (T := TX2) (N := 8) hx hb ht hiX2 hown hK hP 1 rfl rfl 7 (by decide) (va_Nw.use rfl (hm.1 _ (List.mem_of_getElem? (i := 8) rfl))) (fun _ h9 => h9) rfl dX5_count_85 ?_
            obtain rfl := Option.some.inj h
            exact W.iret (v := estm) hx hb hr (fun t ht9 hW => ⟨⟨_, (), rfl, rfl, zend ht9 hP⟩, hS.F ht9⟩) hS.2.2 dX5_count_88
          · have h := zf h c4
            refine lv_tableOut (tgt := 89) hx hb dX5_count_18 (by have e0 : (Int32.toInt a1) ≠ 0 := fun q => c1 (Int32.toInt_inj.mp (by rw [q]; rfl)); have e1 : (Int32.toInt a1) ≠ 1 := fun q => c2 (Int32.toInt_inj.mp (by rw [q]; rfl)); have e2 : (Int32.toInt a1) ≠ 2 := fun q => c3 (Int32.toInt_inj.mp (by rw [q]; rfl)); have e3 : (Int32.toInt a1) ≠ 3 := fun q => c4 (Int32.toInt_inj.mp (by rw [q]; rfl)); omega) (by decide) ?_
            refine lv_aload_n hx hb dX5_count_89 rfl (lv_at hl 0 rfl) ?_
            refine va_get (D := D) (ci := 5) (v := .ref es) (C := RX5) (T := TX5) (N := 8) hx hb ht hiX5 hown hK hP 0 rfl rfl 0 (by decide) (ht _ wb239) (fun _ h9 => h9) rfl dX5_count_90 ?_
            refine va_getN (D := D) (ci := 2) (v := .ref est) (C := RX2) (T := TX2) (N := 8) hx hb ht hiX2 hown hK hP 1 rfl rfl 6 (by decide) (va_Nw.use rfl (hm.1 _ (List.mem_of_getElem? (i := 7) rfl))) (fun _ h9 => h9) rfl dX5_count_93 ?_
            refine lv_iload_n hx hb dX5_count_96 rfl (lv_at hl 1 rfl) ?_
            refine lv_iconst (v := 4) hx hb dX5_count_97 (by decide) ?_
            refine lv_isub hx hb dX5_count_98 ?_
            obtain ⟨hi1, h⟩ := zg h
            refine va_iald hx hb hK hP 8 0 rfl rfl hi1 dX5_count_99 ?_
            obtain rfl := Option.some.inj h
            exact W.iret (v := estf (Int32.toNatClampNeg (a1 - 4))) hx hb hr (fun t ht9 hW => ⟨⟨_, (), rfl, rfl, zend ht9 hP⟩, hS.F ht9⟩) hS.2.2 dX5_count_100
  · have h := zt h c5
    refine lv_aload_n hx hb dX5_count_10 rfl (lv_at hl 0 rfl) ?_
    refine lv_bipush (v := (-2)) hx hb dX5_count_11 (by decide) ?_
    obtain ⟨r5, h5, h⟩ := zb h
    refine zi (zrV (C := RX5) (T := TX5) (N := 8) (As := [.int (-2)]) (rest := []) ⟨hx, hb, hml, hown, ht⟩ (c_X5_fails l D k zq es yh tx gp gq b0 b1 b2 (-2) h5 _) (cwV 1 ht (gdV wb271 wb273 wb0 wb72 wb274) rfl rfl rfl (by decide +kernel) ⟨Nat.le_of_ble_eq_true rfl, Nat.le_of_ble_eq_true rfl⟩) hK hP hD hS hA hm [0] rfl rfl 0 5 rfl rfl rfl hl.1 rfl (Nat.le_of_ble_eq_true rfl) dX5_count_13 ⟨Nat.le_refl _, Nat.le_refl _⟩) hP hD hS hA [0] rfl rfl (fun H locs hP hD hS => ?_)
    have hP : va_P D vwCl [(zq, .inr (5, [.ref es, .ref yh, .ref tx, .ref gp, .ref gq, .int r5.2.1, .int r5.2.2.1, .int r5.2.2.2])), (es, .inr (2, [.ref esz, .ref esr, .ref esk, .ref esf, .ref esa, .ref esp, .ref est, .int estm])), (esr, .inr (3, [.int 12, .int 11, .ref esrc, .int esrs])), (esrc, .inl (k 0, 132, .inl esrf)), (esf, .inr (3, [.int 8, .int 7, .ref esfc, .int esfs])), (esfc, .inl (k 0, 56, .inl esff)), (esa, .inr (3, [.int 6, .int 5, .ref esac, .int esas])), (esac, .inl (k 0, 30, .inl esaf)), (est, .inl (k 0, 6, .inl estf))] H := hP
    have hD : va_D A [(zq, .inr (5, [.ref es, .ref yh, .ref tx, .ref gp, .ref gq, .int r5.2.1, .int r5.2.2.1, .int r5.2.2.2])), (es, .inr (2, [.ref esz, .ref esr, .ref esk, .ref esf, .ref esa, .ref esp, .ref est, .int estm])), (esr, .inr (3, [.int 12, .int 11, .ref esrc, .int esrs])), (esrc, .inl (k 0, 132, .inl esrf)), (esf, .inr (3, [.int 8, .int 7, .ref esfc, .int esfs])), (esfc, .inl (k 0, 56, .inl esff)), (esa, .inr (3, [.int 6, .int 5, .ref esac, .int esas])), (esac, .inl (k 0, 30, .inl esaf)), (est, .inl (k 0, 6, .inl estf))] := hD
    obtain rfl := Option.some.inj h
    exact W.iret (v := r5.1) hx hb hr (fun t ht9 hW => ⟨⟨_, (), rfl, rfl, zend ht9 hP⟩, hS.F ht9⟩) hS.2.2 dX5_count_16
def f_X5_type (b0 : Int32) (b1 : Int32) (b2 : Int32) (txn : Int32) (txbf : Nat → Int32) (a1 : Int32) : Option (Int32 × Int32 × Int32 × Int32 × Int32 × (Nat → Int32)) :=
  (f_X5_within  a1 0 127).bind fun r1 => if (zB r1) = 0 then ((f_X5_fails b0 b1 b2 (-2)).bind fun r6 => some (r6.1, r6.2.1, r6.2.2.1, r6.2.2.2, txn, txbf)) else ((f_X4_length txn ).bind fun r2 => if r2 < 120 then ((f_X4_append txn txbf a1).bind fun r3 => (f_X4_length r3.1 ).bind fun r4 => some (r4, b0, b1, b2, r3.1, r3.2)) else ((f_X5_fails b0 b1 b2 (-4)).bind fun r5 => some (r5.1, r5.2.1, r5.2.2.1, r5.2.2.2, txn, txbf)))
abbrev wk_X5_type : List Cond := Cond.code yX5_type cX5_type 2 (some .int) :: WB
abbrev rm_X5_type : Room := { frames := 2, cells := 0, slots := 0, locals := 43 }
set_option maxHeartbeats 4000000 in
set_option maxRecDepth 100000 in
theorem c_X5_type (l : Launch) (D : va_G) (k : Nat → Nat) (zq es yh tx gp gq txb txt : Nat) (b0 : Int32) (b1 : Int32) (b2 : Int32) (txn : Int32) (txp : Int32) (txg : Int32) (txe : Int32) (txbf : Nat → Int32) (a1 : Int32) {res : Int32 × Int32 × Int32 × Int32 × Int32 × (Nat → Int32)} (h : f_X5_type b0 b1 b2 txn txbf a1 = some res) : Ci l yX5_type wk_X5_type rm_X5_type D k [.ref zq, .int a1] [(zq, .inr (5, [.ref es, .ref yh, .ref tx, .ref gp, .ref gq, .int b0, .int b1, .int b2])), (tx, .inr (4, [.ref txb, .ref txt, .int txn, .int txp, .int txg, .int txe])), (txb, .inl (k 0, 120, .inl txbf))] [(zq, .inr (5, [.ref es, .ref yh, .ref tx, .ref gp, .ref gq, .int res.2.1, .int res.2.2.1, .int res.2.2.2.1])), (tx, .inr (4, [.ref txb, .ref txt, .int res.2.2.2.2.1, .int txp, .int txg, .int txe])), (txb, .inl (k 0, 120, .inl res.2.2.2.2.2))] res.1 := by
  unfold Ci
  intro sz
  refine Met.ofW (cc := cX5_type) (maxL := 2) (ret := (some .int)) (by decide) rfl ?_
  intro p e s m args below meth c s₁ B hml hv
  obtain ⟨rfl, hsz, hP, hK, hD0, hm⟩ := hv
  have hx := B.exec
  have hb := B.bytes
  have hr := B.returns
  have ht : ∀ w ∈ WB, w.before _ s = true := fun w hw => atoms_spec (ws := wk_X5_type) B.pre w (List.mem_cons_of_mem _ hw)
  have hown : s.vm.findClass RX5 = some m.cls := findClass_of_methodNamed B.named
  have hlocks := B.notSynchronized
  subst hsz
  have hD := hD0.self (sz := s.heap.size)
  generalize hAe : va_A [(zq, .inr (5, [.ref es, .ref yh, .ref tx, .ref gp, .ref gq, .int b0, .int b1, .int b2])), (tx, .inr (4, [.ref txb, .ref txt, .int txn, .int txp, .int txg, .int txe])), (txb, .inl (k 0, 120, .inl txbf))] s.heap.size = A at hD hm ⊢
  have hA : ∀ q : Nat, s.heap.size ≤ q → A q := fun q h => by rw [← hAe]; exact Or.inr h
  have hS : va_S A s.heap s.heap [] := va_S.rf
  have hl := lv_entry ([.ref zq, .int a1]) (n := 2) (Nat.le_of_ble_eq_true rfl)
  rw [lg_entry_eq]
  generalize (lg_sl ([.ref zq, .int a1]) ++ List.replicate (2 - (lg_sl ([.ref zq, .int a1])).length) Slot.unset).toArray = ls at hl ⊢
  have hl : lv_has ls 2 [(0, .ref zq), (1, .int a1)] := hl
  obtain ⟨H, hH⟩ : ∃ H, H = s.heap := ⟨_, rfl⟩
  rw [← hH] at hP
  have hS : va_S A s.heap H [] := by rw [hH]; exact hS
  suffices hgo : W p l e _ s m _ below meth c H [] 0 0 _ _ by rw [hH] at hgo; exact hgo
  unfold f_X5_type at h
  refine lv_iload_n hx hb dX5_type_0 rfl (lv_at hl 1 rfl) ?_
  refine lv_iconst (v := 0) hx hb dX5_type_1 (by decide) ?_
  refine lv_bipush (v := 127) hx hb dX5_type_2 (by decide) ?_
  obtain ⟨r1, h1, h⟩ := zb h
  refine zi (zrS (As := [.int a1, .int 0, .int 127]) (rest := []) ⟨hx, hb, hml, hown, ht⟩ (c_X5_within l D k   a1 0 127 h1 _) (va_cwS 3 ht (gdS wb268 wb269 wb72 wb270) rfl rfl rfl (by decide +kernel) ⟨Nat.le_of_ble_eq_true rfl, Nat.le_of_ble_eq_true rfl⟩) hK hP hD hS hA hm [] rfl rfl rfl hl.1 rfl (Nat.le_of_ble_eq_true rfl) dX5_type_4 ⟨Nat.le_refl _, Nat.le_refl _⟩) hP hD hS hA [] rfl rfl (fun H locs hP hD hS => ?_)
  have hP : va_P D vwCl [(zq, .inr (5, [.ref es, .ref yh, .ref tx, .ref gp, .ref gq, .int b0, .int b1, .int b2])), (tx, .inr (4, [.ref txb, .ref txt, .int txn, .int txp, .int txg, .int txe])), (txb, .inl (k 0, 120, .inl txbf))] H := hP
  have hD : va_D A [(zq, .inr (5, [.ref es, .ref yh, .ref tx, .ref gp, .ref gq, .int b0, .int b1, .int b2])), (tx, .inr (4, [.ref txb, .ref txt, .int txn, .int txp, .int txg, .int txe])), (txb, .inl (k 0, 120, .inl txbf))] := hD
  refine lv_if_ne (tgt := 17) hx hb dX5_type_7 (by decide) (fun c2 => ?_) (fun c2 => ?_)
  · have h := zf h c2
    refine lv_aload_n hx hb dX5_type_17 rfl (lv_at hl 0 rfl) ?_
    refine va_get (D := D) (ci := 5) (v := .ref tx) (C := RX5) (T := TX5) (N := 8) hx hb ht hiX5 hown hK hP 0 rfl rfl 2 (by decide) (ht _ wb241) (fun _ h9 => h9) rfl dX5_type_18 ?_
    obtain ⟨r2, h2, h⟩ := zb h
    refine zi (zrV (C := RX4) (T := TX4) (N := 6) (As := []) (rest := []) ⟨hx, hb, hml, hown, ht⟩ (c_X4_length l D k tx txb txt txn txp txg txe  h2 _) (cwV 0 ht (gdV wb596 wb597 wb598 wb78 wb599) rfl rfl rfl (by decide +kernel) ⟨Nat.le_of_ble_eq_true rfl, Nat.le_of_ble_eq_true rfl⟩) hK hP hD hS hA hm [1] rfl rfl 1 4 rfl rfl rfl hl.1 rfl (Nat.le_of_ble_eq_true rfl) dX5_type_21 ⟨Nat.le_refl _, Nat.le_refl _⟩) hP hD hS hA [1] rfl rfl (fun H locs hP hD hS => ?_)
    have hP : va_P D vwCl [(zq, .inr (5, [.ref es, .ref yh, .ref tx, .ref gp, .ref gq, .int b0, .int b1, .int b2])), (tx, .inr (4, [.ref txb, .ref txt, .int txn, .int txp, .int txg, .int txe])), (txb, .inl (k 0, 120, .inl txbf))] H := hP
    have hD : va_D A [(zq, .inr (5, [.ref es, .ref yh, .ref tx, .ref gp, .ref gq, .int b0, .int b1, .int b2])), (tx, .inr (4, [.ref txb, .ref txt, .int txn, .int txp, .int txg, .int txe])), (txb, .inl (k 0, 120, .inl txbf))] := hD
    refine lv_bipush (v := 120) hx hb dX5_type_24 (by decide) ?_
    refine lv_icmp_lt (tgt := 36) hx hb dX5_type_26 (by decide) (fun c1 => ?_) (fun c1 => ?_)
    · have h := zt h c1
      refine lv_aload_n hx hb dX5_type_36 rfl (lv_at hl 0 rfl) ?_
      refine va_get (D := D) (ci := 5) (v := .ref tx) (C := RX5) (T := TX5) (N := 8) hx hb ht hiX5 hown hK hP 0 rfl rfl 2 (by decide) (ht _ wb241) (fun _ h9 => h9) rfl dX5_type_37 ?_
      refine lv_iload_n hx hb dX5_type_40 rfl (lv_at hl 1 rfl) ?_
      obtain ⟨r3, h3, h⟩ := zb h
      refine zv (zrV (C := RX4) (T := TX4) (N := 6) (As := [.int a1]) (rest := []) ⟨hx, hb, hml, hown, ht⟩ (c_X4_append l D k tx txb txt txn txp txg txe txbf a1 h3 _) (cwV 1 ht (gdV wb600 wb601 wb602 wb78 wb603) rfl rfl rfl (by decide +kernel) ⟨Nat.le_of_ble_eq_true rfl, Nat.le_of_ble_eq_true rfl⟩) hK hP hD hS hA hm [1, 2] rfl rfl 1 4 rfl rfl rfl hl.1 rfl (Nat.le_of_ble_eq_true rfl) dX5_type_41 ⟨Nat.le_refl _, Nat.le_refl _⟩) hP hD hS hA [1, 2] rfl rfl (fun H locs hP hD hS => ?_)
      have hP : va_P D vwCl [(zq, .inr (5, [.ref es, .ref yh, .ref tx, .ref gp, .ref gq, .int b0, .int b1, .int b2])), (tx, .inr (4, [.ref txb, .ref txt, .int r3.1, .int txp, .int txg, .int txe])), (txb, .inl (k 0, 120, .inl r3.2))] H := hP
      have hD : va_D A [(zq, .inr (5, [.ref es, .ref yh, .ref tx, .ref gp, .ref gq, .int b0, .int b1, .int b2])), (tx, .inr (4, [.ref txb, .ref txt, .int r3.1, .int txp, .int txg, .int txe])), (txb, .inl (k 0, 120, .inl r3.2))] := hD
      refine lv_aload_n hx hb dX5_type_44 rfl (lv_at hl 0 rfl) ?_
      refine va_get (D := D) (ci := 5) (v := .ref tx) (C := RX5) (T := TX5) (N := 8) hx hb ht hiX5 hown hK hP 0 rfl rfl 2 (by decide) (ht _ wb241) (fun _ h9 => h9) rfl dX5_type_45 ?_
      obtain ⟨r4, h4, h⟩ := zb h
      refine zi (zrV (C := RX4) (T := TX4) (N := 6) (As := []) (rest := []) ⟨hx, hb, hml, hown, ht⟩ (c_X4_length l D k tx txb txt r3.1 txp txg txe  h4 _) (cwV 0 ht (gdV wb596 wb597 wb598 wb78 wb599) rfl rfl rfl (by decide +kernel) ⟨Nat.le_of_ble_eq_true rfl, Nat.le_of_ble_eq_true rfl⟩) hK hP hD hS hA hm [1] rfl rfl 1 4 rfl rfl rfl hl.1 rfl (Nat.le_of_ble_eq_true rfl) dX5_type_48 ⟨Nat.le_refl _, Nat.le_refl _⟩) hP hD hS hA [1] rfl rfl (fun H locs hP hD hS => ?_)
      have hP : va_P D vwCl [(zq, .inr (5, [.ref es, .ref yh, .ref tx, .ref gp, .ref gq, .int b0, .int b1, .int b2])), (tx, .inr (4, [.ref txb, .ref txt, .int r3.1, .int txp, .int txg, .int txe])), (txb, .inl (k 0, 120, .inl r3.2))] H := hP
      have hD : va_D A [(zq, .inr (5, [.ref es, .ref yh, .ref tx, .ref gp, .ref gq, .int b0, .int b1, .int b2])), (tx, .inr (4, [.ref txb, .ref txt, .int r3.1, .int txp, .int txg, .int txe])), (txb, .inl (k 0, 120, .inl r3.2))] := hD
      obtain rfl := Option.some.inj h
      exact W.iret (v := r4) hx hb hr (fun t ht9 hW => ⟨⟨_, (), rfl, rfl, zend ht9 hP⟩, hS.F ht9⟩) hS.2.2 dX5_type_51
    · have h := zf h c1
      refine lv_aload_n hx hb dX5_type_29 rfl (lv_at hl 0 rfl) ?_
      refine lv_bipush (v := (-4)) hx hb dX5_type_30 (by decide) ?_
      obtain ⟨r5, h5, h⟩ := zb h
      refine zi (zrV (C := RX5) (T := TX5) (N := 8) (As := [.int (-4)]) (rest := []) ⟨hx, hb, hml, hown, ht⟩ (c_X5_fails l D k zq es yh tx gp gq b0 b1 b2 (-4) h5 _) (cwV 1 ht (gdV wb271 wb273 wb0 wb72 wb274) rfl rfl rfl (by decide +kernel) ⟨Nat.le_of_ble_eq_true rfl, Nat.le_of_ble_eq_true rfl⟩) hK hP hD hS hA hm [0] rfl rfl 0 5 rfl rfl rfl hl.1 rfl (Nat.le_of_ble_eq_true rfl) dX5_type_32 ⟨Nat.le_refl _, Nat.le_refl _⟩) hP hD hS hA [0] rfl rfl (fun H locs hP hD hS => ?_)
      have hP : va_P D vwCl [(zq, .inr (5, [.ref es, .ref yh, .ref tx, .ref gp, .ref gq, .int r5.2.1, .int r5.2.2.1, .int r5.2.2.2])), (tx, .inr (4, [.ref txb, .ref txt, .int txn, .int txp, .int txg, .int txe])), (txb, .inl (k 0, 120, .inl txbf))] H := hP
      have hD : va_D A [(zq, .inr (5, [.ref es, .ref yh, .ref tx, .ref gp, .ref gq, .int r5.2.1, .int r5.2.2.1, .int r5.2.2.2])), (tx, .inr (4, [.ref txb, .ref txt, .int txn, .int txp, .int txg, .int txe])), (txb, .inl (k 0, 120, .inl txbf))] := hD
      obtain rfl := Option.some.inj h
      exact W.iret (v := r5.1) hx hb hr (fun t ht9 hW => ⟨⟨_, (), rfl, rfl, zend ht9 hP⟩, hS.F ht9⟩) hS.2.2 dX5_type_35
  · have h := zt h c2
    refine lv_aload_n hx hb dX5_type_10 rfl (lv_at hl 0 rfl) ?_
    refine lv_bipush (v := (-2)) hx hb dX5_type_11 (by decide) ?_
    obtain ⟨r6, h6, h⟩ := zb h
    refine zi (zrV (C := RX5) (T := TX5) (N := 8) (As := [.int (-2)]) (rest := []) ⟨hx, hb, hml, hown, ht⟩ (c_X5_fails l D k zq es yh tx gp gq b0 b1 b2 (-2) h6 _) (cwV 1 ht (gdV wb271 wb273 wb0 wb72 wb274) rfl rfl rfl (by decide +kernel) ⟨Nat.le_of_ble_eq_true rfl, Nat.le_of_ble_eq_true rfl⟩) hK hP hD hS hA hm [0] rfl rfl 0 5 rfl rfl rfl hl.1 rfl (Nat.le_of_ble_eq_true rfl) dX5_type_13 ⟨Nat.le_refl _, Nat.le_refl _⟩) hP hD hS hA [0] rfl rfl (fun H locs hP hD hS => ?_)
    have hP : va_P D vwCl [(zq, .inr (5, [.ref es, .ref yh, .ref tx, .ref gp, .ref gq, .int r6.2.1, .int r6.2.2.1, .int r6.2.2.2])), (tx, .inr (4, [.ref txb, .ref txt, .int txn, .int txp, .int txg, .int txe])), (txb, .inl (k 0, 120, .inl txbf))] H := hP
    have hD : va_D A [(zq, .inr (5, [.ref es, .ref yh, .ref tx, .ref gp, .ref gq, .int r6.2.1, .int r6.2.2.1, .int r6.2.2.2])), (tx, .inr (4, [.ref txb, .ref txt, .int txn, .int txp, .int txg, .int txe])), (txb, .inl (k 0, 120, .inl txbf))] := hD
    obtain rfl := Option.some.inj h
    exact W.iret (v := r6.1) hx hb hr (fun t ht9 hW => ⟨⟨_, (), rfl, rfl, zend ht9 hP⟩, hS.F ht9⟩) hS.2.2 dX5_type_16
def f_X5_clear (txn : Int32)  : Option (Int32 × Int32) :=
  (f_X4_length txn ).bind fun r1 => (f_X4_empty  ).bind fun r2 => some (r1, r2)
abbrev wk_X5_clear : List Cond := Cond.code yX5_clear cX5_clear 2 (some .int) :: WB
abbrev rm_X5_clear : Room := { frames := 1, cells := 0, slots := 0, locals := 20 }
set_option maxHeartbeats 4000000 in
set_option maxRecDepth 100000 in
theorem c_X5_clear (l : Launch) (D : va_G) (k : Nat → Nat) (zq es yh tx gp gq txb txt : Nat) (b0 : Int32) (b1 : Int32) (b2 : Int32) (txn : Int32) (txp : Int32) (txg : Int32) (txe : Int32)  {res : Int32 × Int32} (h : f_X5_clear txn  = some res) : Ci l yX5_clear wk_X5_clear rm_X5_clear D k [.ref zq] [(zq, .inr (5, [.ref es, .ref yh, .ref tx, .ref gp, .ref gq, .int b0, .int b1, .int b2])), (tx, .inr (4, [.ref txb, .ref txt, .int txn, .int txp, .int txg, .int txe]))] [(zq, .inr (5, [.ref es, .ref yh, .ref tx, .ref gp, .ref gq, .int b0, .int b1, .int b2])), (tx, .inr (4, [.ref txb, .ref txt, .int res.2, .int txp, .int txg, .int txe]))] res.1 := by
  unfold Ci
  intro sz
  refine Met.ofW (cc := cX5_clear) (maxL := 2) (ret := (some .int)) (by decide) rfl ?_
  intro p e s m args below meth c s₁ B hml hv
  obtain ⟨rfl, hsz, hP, hK, hD0, hm⟩ := hv
  have hx := B.exec
  have hb := B.bytes
  have hr := B.returns
  have ht : ∀ w ∈ WB, w.before _ s = true := fun w hw => atoms_spec (ws := wk_X5_clear) B.pre w (List.mem_cons_of_mem _ hw)
  have hown : s.vm.findClass RX5 = some m.cls := findClass_of_methodNamed B.named
  have hlocks := B.notSynchronized
  subst hsz
  have hD := hD0.self (sz := s.heap.size)
  generalize hAe : va_A [(zq, .inr (5, [.ref es, .ref yh, .ref tx, .ref gp, .ref gq, .int b0, .int b1, .int b2])), (tx, .inr (4, [.ref txb, .ref txt, .int txn, .int txp, .int txg, .int txe]))] s.heap.size = A at hD hm ⊢
  have hA : ∀ q : Nat, s.heap.size ≤ q → A q := fun q h => by rw [← hAe]; exact Or.inr h
  have hS : va_S A s.heap s.heap [] := va_S.rf
  have hl := lv_entry ([.ref zq]) (n := 2) (Nat.le_of_ble_eq_true rfl)
  rw [lg_entry_eq]
  generalize (lg_sl ([.ref zq]) ++ List.replicate (2 - (lg_sl ([.ref zq])).length) Slot.unset).toArray = ls at hl ⊢
  have hl : lv_has ls 2 [(0, .ref zq)] := hl
  obtain ⟨H, hH⟩ : ∃ H, H = s.heap := ⟨_, rfl⟩
  rw [← hH] at hP
  have hS : va_S A s.heap H [] := by rw [hH]; exact hS
  suffices hgo : W p l e _ s m _ below meth c H [] 0 0 _ _ by rw [hH] at hgo; exact hgo
  unfold f_X5_clear at h
  refine lv_aload_n hx hb dX5_clear_0 rfl (lv_at hl 0 rfl) ?_
  refine va_get (D := D) (ci := 5) (v := .ref tx) (C := RX5) (T := TX5) (N := 8) hx hb ht hiX5 hown hK hP 0 rfl rfl 2 (by decide) (ht _ wb241) (fun _ h9 => h9) rfl dX5_clear_1 ?_
  obtain ⟨r1, h1, h⟩ := zb h
  refine zi (zrV (C := RX4) (T := TX4) (N := 6) (As := []) (rest := []) ⟨hx, hb, hml, hown, ht⟩ (c_X4_length l D k tx txb txt txn txp txg txe  h1 _) (cwV 0 ht (gdV wb596 wb597 wb598 wb78 wb599) rfl rfl rfl (by decide +kernel) ⟨Nat.le_of_ble_eq_true rfl, Nat.le_of_ble_eq_true rfl⟩) hK hP hD hS hA hm [1] rfl rfl 1 4 rfl rfl rfl hl.1 rfl (Nat.le_of_ble_eq_true rfl) dX5_clear_4 ⟨Nat.le_refl _, Nat.le_refl _⟩) hP hD hS hA [1] rfl rfl (fun H locs hP hD hS => ?_)
  have hP : va_P D vwCl [(zq, .inr (5, [.ref es, .ref yh, .ref tx, .ref gp, .ref gq, .int b0, .int b1, .int b2])), (tx, .inr (4, [.ref txb, .ref txt, .int txn, .int txp, .int txg, .int txe]))] H := hP
  have hD : va_D A [(zq, .inr (5, [.ref es, .ref yh, .ref tx, .ref gp, .ref gq, .int b0, .int b1, .int b2])), (tx, .inr (4, [.ref txb, .ref txt, .int txn, .int txp, .int txg, .int txe]))] := hD
  refine lv_istore_n (lv' := [(1, .int r1), (0, .ref zq)]) hx hb dX5_clear_7 rfl hl (by decide) rfl (fun ls hl => ?_)
  refine lv_aload_n hx hb dX5_clear_8 rfl (lv_at hl 1 rfl) ?_
  refine va_get (D := D) (ci := 5) (v := .ref tx) (C := RX5) (T := TX5) (N := 8) hx hb ht hiX5 hown hK hP 0 rfl rfl 2 (by decide) (ht _ wb241) (fun _ h9 => h9) rfl dX5_clear_9 ?_
  obtain ⟨r2, h2, h⟩ := zb h
  refine zv (zrV (C := RX4) (T := TX4) (N := 6) (As := []) (rest := []) ⟨hx, hb, hml, hown, ht⟩ (c_X4_empty l D k tx txb txt txn txp txg txe  h2 _) (cwV 0 ht (gdV wb609 wb610 wb611 wb78 wb612) rfl rfl rfl (by decide +kernel) ⟨Nat.le_of_ble_eq_true rfl, Nat.le_of_ble_eq_true rfl⟩) hK hP hD hS hA hm [1] rfl rfl 1 4 rfl rfl rfl hl.1 rfl (Nat.le_of_ble_eq_true rfl) dX5_clear_12 ⟨Nat.le_refl _, Nat.le_refl _⟩) hP hD hS hA [1] rfl rfl (fun H locs hP hD hS => ?_)
  have hP : va_P D vwCl [(zq, .inr (5, [.ref es, .ref yh, .ref tx, .ref gp, .ref gq, .int b0, .int b1, .int b2])), (tx, .inr (4, [.ref txb, .ref txt, .int r2, .int txp, .int txg, .int txe]))] H := hP
  have hD : va_D A [(zq, .inr (5, [.ref es, .ref yh, .ref tx, .ref gp, .ref gq, .int b0, .int b1, .int b2])), (tx, .inr (4, [.ref txb, .ref txt, .int r2, .int txp, .int txg, .int txe]))] := hD
  refine lv_iload_n hx hb dX5_clear_15 rfl (lv_at hl 0 rfl) ?_
  obtain rfl := Option.some.inj h
  exact W.iret (v := r1) hx hb hr (fun t ht9 hW => ⟨⟨_, (), rfl, rfl, zend ht9 hP⟩, hS.F ht9⟩) hS.2.2 dX5_clear_16
def f_X5_told (b0 : Int32) (b1 : Int32) (b2 : Int32) (txn : Int32) (yhs : Int32) (a1 : Int32) : Option (Int32 × Int32 × Int32 × Int32) :=
  if a1 = 0 then (some (b0, b0, b1, b2)) else (if a1 = 1 then (some (b1, b0, b1, b2)) else (if a1 = 2 then (some (b2, b0, b1, b2)) else (if a1 = 3 then ((f_X4_length txn ).bind fun r3 => some (r3, b0, b1, b2)) else (if a1 = 4 then ((f_X0_size yhs ).bind fun r2 => some (r2, b0, b1, b2)) else ((f_X5_fails b0 b1 b2 (-2)).bind fun r1 => some (r1.1, r1.2.1, r1.2.2.1, r1.2.2.2))))))
abbrev wk_X5_told : List Cond := Cond.code yX5_told cX5_told 2 (some .int) :: WB
abbrev rm_X5_told : Room := { frames := 1, cells := 0, slots := 0, locals := 21 }
set_option maxHeartbeats 4000000 in
set_option maxRecDepth 100000 in
theorem c_X5_told (l : Launch) (D : va_G) (k : Nat → Nat) (zq es yh tx gp gq txb txt yhr : Nat) (b0 : Int32) (b1 : Int32) (b2 : Int32) (txn : Int32) (txp : Int32) (txg : Int32) (txe : Int32) (yhs : Int32) (yhn : Int32) (a1 : Int32) {res : Int32 × Int32 × Int32 × Int32} (h : f_X5_told b0 b1 b2 txn yhs a1 = some res) : Ci l yX5_told wk_X5_told rm_X5_told D k [.ref zq, .int a1] [(zq, .inr (5, [.ref es, .ref yh, .ref tx, .ref gp, .ref gq, .int b0, .int b1, .int b2])), (tx, .inr (4, [.ref txb, .ref txt, .int txn, .int txp, .int txg, .int txe])), (yh, .inr (0, [.ref yhr, .int yhs, .int yhn]))] [(zq, .inr (5, [.ref es, .ref yh, .ref tx, .ref gp, .ref gq, .int res.2.1, .int res.2.2.1, .int res.2.2.2])), (tx, .inr (4, [.ref txb, .ref txt, .int txn, .int txp, .int txg, .int txe])), (yh, .inr (0, [.ref yhr, .int yhs, .int yhn]))] res.1 := by
  unfold Ci
  intro sz
  refine Met.ofW (cc := cX5_told) (maxL := 2) (ret := (some .int)) (by decide) rfl ?_
  intro p e s m args below meth c s₁ B hml hv
  obtain ⟨rfl, hsz, hP, hK, hD0, hm⟩ := hv
  have hx := B.exec
  have hb := B.bytes
  have hr := B.returns
  have ht : ∀ w ∈ WB, w.before _ s = true := fun w hw => atoms_spec (ws := wk_X5_told) B.pre w (List.mem_cons_of_mem _ hw)
  have hown : s.vm.findClass RX5 = some m.cls := findClass_of_methodNamed B.named
  have hlocks := B.notSynchronized
  subst hsz
  have hD := hD0.self (sz := s.heap.size)
  generalize hAe : va_A [(zq, .inr (5, [.ref es, .ref yh, .ref tx, .ref gp, .ref gq, .int b0, .int b1, .int b2])), (tx, .inr (4, [.ref txb, .ref txt, .int txn, .int txp, .int txg, .int txe])), (yh, .inr (0, [.ref yhr, .int yhs, .int yhn]))] s.heap.size = A at hD hm ⊢
  have hA : ∀ q : Nat, s.heap.size ≤ q → A q := fun q h => by rw [← hAe]; exact Or.inr h
  have hS : va_S A s.heap s.heap [] := va_S.rf
  have hl := lv_entry ([.ref zq, .int a1]) (n := 2) (Nat.le_of_ble_eq_true rfl)
  rw [lg_entry_eq]
  generalize (lg_sl ([.ref zq, .int a1]) ++ List.replicate (2 - (lg_sl ([.ref zq, .int a1])).length) Slot.unset).toArray = ls at hl ⊢
  have hl : lv_has ls 2 [(0, .ref zq), (1, .int a1)] := hl
  obtain ⟨H, hH⟩ : ∃ H, H = s.heap := ⟨_, rfl⟩
  rw [← hH] at hP
  have hS : va_S A s.heap H [] := by rw [hH]; exact hS
  suffices hgo : W p l e _ s m _ below meth c H [] 0 0 _ _ by rw [hH] at hgo; exact hgo
  unfold f_X5_told at h
  refine lv_iload_n hx hb dX5_told_0 rfl (lv_at hl 1 rfl) ?_
  by_cases c1 : a1 = 0
  · have h := zt h c1
    refine lv_tableIn (off := 35) (tgt := 36) hx hb dX5_told_1 (by rw [c1]; decide) (by rw [c1]; decide) (by rw [c1]; rfl) (by decide) ?_
    refine lv_aload_n hx hb dX5_told_36 rfl (lv_at hl 0 rfl) ?_
    refine va_get (D := D) (ci := 5) (v := .int b0) (C := RX5) (T := TX5) (N := 8) hx hb ht hiX5 hown hK hP 0 rfl rfl 5 (by decide) (ht _ wb244) (fun _ h9 => h9) rfl dX5_told_37 ?_
    obtain rfl := Option.some.inj h
    exact W.iret (v := b0) hx hb hr (fun t ht9 hW => ⟨⟨_, (), rfl, rfl, zend ht9 hP⟩, hS.F ht9⟩) hS.2.2 dX5_told_40
  · have h := zf h c1
    by_cases c2 : a1 = 1
    · have h := zt h c2
      refine lv_tableIn (off := 40) (tgt := 41) hx hb dX5_told_1 (by rw [c2]; decide) (by rw [c2]; decide) (by rw [c2]; rfl) (by decide) ?_
      refine lv_aload_n hx hb dX5_told_41 rfl (lv_at hl 0 rfl) ?_
      refine va_get (D := D) (ci := 5) (v := .int b1) (C := RX5) (T := TX5) (N := 8) hx hb ht hiX5 hown hK hP 0 rfl rfl 6 (by decide) (ht _ wb245) (fun _ h9 => h9) rfl dX5_told_42 ?_
      obtain rfl := Option.some.inj h
      exact W.iret (v := b1) hx hb hr (fun t ht9 hW => ⟨⟨_, (), rfl, rfl, zend ht9 hP⟩, hS.F ht9⟩) hS.2.2 dX5_told_45
    · have h := zf h c2
      by_cases c3 : a1 = 2
      · have h := zt h c3
        refine lv_tableIn (off := 45) (tgt := 46) hx hb dX5_told_1 (by rw [c3]; decide) (by rw [c3]; decide) (by rw [c3]; rfl) (by decide) ?_
        refine lv_aload_n hx hb dX5_told_46 rfl (lv_at hl 0 rfl) ?_
        refine va_get (D := D) (ci := 5) (v := .int b2) (C := RX5) (T := TX5) (N := 8) hx hb ht hiX5 hown hK hP 0 rfl rfl 7 (by decide) (ht _ wb246) (fun _ h9 => h9) rfl dX5_told_47 ?_
        obtain rfl := Option.some.inj h
        exact W.iret (v := b2) hx hb hr (fun t ht9 hW => ⟨⟨_, (), rfl, rfl, zend ht9 hP⟩, hS.F ht9⟩) hS.2.2 dX5_told_50
      · have h := zf h c3
        by_cases c4 : a1 = 3
        · have h := zt h c4
          refine lv_tableIn (off := 50) (tgt := 51) hx hb dX5_told_1 (by rw [c4]; decide) (by rw [c4]; decide) (by rw [c4]; rfl) (by decide) ?_
          refine lv_aload_n hx hb dX5_told_51 rfl (lv_at hl 0 rfl) ?_
          refine va_get (D := D) (ci := 5) (v := .ref tx) (C := RX5) (T := TX5) (N := 8) hx hb ht hiX5 hown hK hP 0 rfl rfl 2 (by decide) (ht _ wb241) (fun _ h9 => h9) rfl dX5_told_52 ?_
          obtain ⟨r3, h3, h⟩ := zb h
          refine zi (zrV (C := RX4) (T := TX4) (N := 6) (As := []) (rest := []) ⟨hx, hb, hml, hown, ht⟩ (c_X4_length l D k tx txb txt txn txp txg txe  h3 _) (cwV 0 ht (gdV wb596 wb597 wb598 wb78 wb599) rfl rfl rfl (by decide +kernel) ⟨Nat.le_of_ble_eq_true rfl, Nat.le_of_ble_eq_true rfl⟩) hK hP hD hS hA hm [1] rfl rfl 1 4 rfl rfl rfl hl.1 rfl (Nat.le_of_ble_eq_true rfl) dX5_told_55 ⟨Nat.le_refl _, Nat.le_refl _⟩) hP hD hS hA [1] rfl rfl (fun H locs hP hD hS => ?_)
          have hP : va_P D vwCl [(zq, .inr (5, [.ref es, .ref yh, .ref tx, .ref gp, .ref gq, .int b0, .int b1, .int b2])), (tx, .inr (4, [.ref txb, .ref txt, .int txn, .int txp, .int txg, .int txe])), (yh, .inr (0, [.ref yhr, .int yhs, .int yhn]))] H := hP
          have hD : va_D A [(zq, .inr (5, [.ref es, .ref yh, .ref tx, .ref gp, .ref gq, .int b0, .int b1, .int b2])), (tx, .inr (4, [.ref txb, .ref txt, .int txn, .int txp, .int txg, .int txe])), (yh, .inr (0, [.ref yhr, .int yhs, .int yhn]))] := hD
          obtain rfl := Option.some.inj h
          exact W.iret (v := r3) hx hb hr (fun t ht9 hW => ⟨⟨_, (), rfl, rfl, zend ht9 hP⟩, hS.F ht9⟩) hS.2.2 dX5_told_58
        · have h := zf h c4
          by_cases c5 : a1 = 4
          · have h := zt h c5
            refine lv_tableIn (off := 58) (tgt := 59) hx hb dX5_told_1 (by rw [c5]; decide) (by rw [c5]; decide) (by rw [c5]; rfl) (by decide) ?_
            refine lv_aload_n hx hb dX5_told_59 rfl (lv_at hl 0 rfl) ?_
            refine va_get (D := D) (ci := 5) (v := .ref yh) (C := RX5) (T := TX5) (N := 8) hx hb ht hiX5 hown hK hP 0 rfl rfl 1 (by decide) (ht _ wb240) (fun _ h9 => h9) rfl dX5_told_60 ?_
            obtain ⟨r2, h2, h⟩ := zb h
            refine zi (zrV (C := RX0) (T := TX0) (N := 3) (As := []) (rest := []) ⟨hx, hb, hml, hown, ht⟩ (c_X0_size l D k yh yhr yhs yhn  h2 _) (cwV 0 ht (gdV wb734 wb735 wb736 wb77 wb737) rfl rfl rfl (by decide +kernel) ⟨Nat.le_of_ble_eq_true rfl, Nat.le_of_ble_eq_true rfl⟩) hK hP hD hS hA hm [2] rfl rfl 2 0 rfl rfl rfl hl.1 rfl (Nat.le_of_ble_eq_true rfl) dX5_told_63 ⟨Nat.le_refl _, Nat.le_refl _⟩) hP hD hS hA [2] rfl rfl (fun H locs hP hD hS => ?_)
            have hP : va_P D vwCl [(zq, .inr (5, [.ref es, .ref yh, .ref tx, .ref gp, .ref gq, .int b0, .int b1, .int b2])), (tx, .inr (4, [.ref txb, .ref txt, .int txn, .int txp, .int txg, .int txe])), (yh, .inr (0, [.ref yhr, .int yhs, .int yhn]))] H := hP
            have hD : va_D A [(zq, .inr (5, [.ref es, .ref yh, .ref tx, .ref gp, .ref gq, .int b0, .int b1, .int b2])), (tx, .inr (4, [.ref txb, .ref txt, .int txn, .int txp, .int txg, .int txe])), (yh, .inr (0, [.ref yhr, .int yhs, .int yhn]))] := hD
            obtain rfl := Option.some.inj h
            exact W.iret (v := r2) hx hb hr (fun t ht9 hW => ⟨⟨_, (), rfl, rfl, zend ht9 hP⟩, hS.F ht9⟩) hS.2.2 dX5_told_66
          · have h := zf h c5
            refine lv_tableOut (tgt := 67) hx hb dX5_told_1 (by have e0 : (Int32.toInt a1) ≠ 0 := fun q => c1 (Int32.toInt_inj.mp (by rw [q]; rfl)); have e1 : (Int32.toInt a1) ≠ 1 := fun q => c2 (Int32.toInt_inj.mp (by rw [q]; rfl)); have e2 : (Int32.toInt a1) ≠ 2 := fun q => c3 (Int32.toInt_inj.mp (by rw [q]; rfl)); have e3 : (Int32.toInt a1) ≠ 3 := fun q => c4 (Int32.toInt_inj.mp (by rw [q]; rfl)); have e4 : (Int32.toInt a1) ≠ 4 := fun q => c5 (Int32.toInt_inj.mp (by rw [q]; rfl)); omega) (by decide) ?_
            refine lv_aload_n hx hb dX5_told_67 rfl (lv_at hl 0 rfl) ?_
            refine lv_bipush (v := (-2)) hx hb dX5_told_68 (by decide) ?_
            obtain ⟨r1, h1, h⟩ := zb h
            refine zi (zrV (C := RX5) (T := TX5) (N := 8) (As := [.int (-2)]) (rest := []) ⟨hx, hb, hml, hown, ht⟩ (c_X5_fails l D k zq es yh tx gp gq b0 b1 b2 (-2) h1 _) (cwV 1 ht (gdV wb271 wb273 wb0 wb72 wb274) rfl rfl rfl (by decide +kernel) ⟨Nat.le_of_ble_eq_true rfl, Nat.le_of_ble_eq_true rfl⟩) hK hP hD hS hA hm [0] rfl rfl 0 5 rfl rfl rfl hl.1 rfl (Nat.le_of_ble_eq_true rfl) dX5_told_70 ⟨Nat.le_refl _, Nat.le_refl _⟩) hP hD hS hA [0] rfl rfl (fun H locs hP hD hS => ?_)
            have hP : va_P D vwCl [(zq, .inr (5, [.ref es, .ref yh, .ref tx, .ref gp, .ref gq, .int r1.2.1, .int r1.2.2.1, .int r1.2.2.2])), (tx, .inr (4, [.ref txb, .ref txt, .int txn, .int txp, .int txg, .int txe])), (yh, .inr (0, [.ref yhr, .int yhs, .int yhn]))] H := hP
            have hD : va_D A [(zq, .inr (5, [.ref es, .ref yh, .ref tx, .ref gp, .ref gq, .int r1.2.1, .int r1.2.2.1, .int r1.2.2.2])), (tx, .inr (4, [.ref txb, .ref txt, .int txn, .int txp, .int txg, .int txe])), (yh, .inr (0, [.ref yhr, .int yhs, .int yhn]))] := hD
            obtain rfl := Option.some.inj h
            exact W.iret (v := r1.1) hx hb hr (fun t ht9 hW => ⟨⟨_, (), rfl, rfl, zend ht9 hP⟩, hS.F ht9⟩) hS.2.2 dX5_told_73
def f_X5_digest_L6 (fu : Nat) (K : Int64 → Int32 → Int32 → Int32 → Int32 → Option (Int64 × Int32 × Int32 × Int32)) (txn : Int32) (yhs : Int32) : Nat → Int64 → Int32 → Int32 → Int32 → Int32 → Option (Int64 × Int32 × Int32 × Int32)
  | 0, _, _, _, _, _ => none
  | n + 1, v1, v3, b0, b1, b2 =>
  if 4 < v3 then (K v1 v3 b0 b1 b2) else ((f_X5_told b0 b1 b2 txn yhs v3).bind fun r1 => f_X5_digest_L6 fu K txn yhs n ((31 * v1) + (Int32.toInt64 r1.1)) (v3 + 1) r1.2.1 r1.2.2.1 r1.2.2.2)
def f_X5_digest_L32 (fu : Nat) (K : Int64 → Int32 → Int32 → Int32 → Int32 → Option (Int64 × Int32 × Int32 × Int32)) (estm : Int32) (esrs : Int32) (esfs : Int32) (esas : Int32) (estf : Nat → Int32) : Nat → Int64 → Int32 → Int32 → Int32 → Int32 → Option (Int64 × Int32 × Int32 × Int32)
  | 0, _, _, _, _, _ => none
  | n + 1, v1, v3, b0, b1, b2 =>
  if 10 ≤ v3 then (K v1 v3 b0 b1 b2) else ((f_X5_count b0 b1 b2 estm esrs esfs esas estf v3).bind fun r2 => f_X5_digest_L32 fu K estm esrs esfs esas estf n ((31 * v1) + (Int32.toInt64 r2.1)) (v3 + 1) r2.2.1 r2.2.2.1 r2.2.2.2)
def f_X5_digest_L59 (fu : Nat) (K : Int64 → Int32 → Option (Int64 × Int32 × Int32 × Int32)) (eszo : Nat → Int32) : Nat → Int64 → Int32 → Option (Int64 × Int32 × Int32 × Int32)
  | 0, _, _ => none
  | n + 1, v1, v3 =>
  if 32 ≤ v3 then (K v1 v3) else (if zok v3 32 then (f_X5_digest_L59 fu K eszo n ((31 * v1) + (Int32.toInt64 (eszo (Int32.toNatClampNeg v3)))) (v3 + 1)) else none)
def f_X5_digest_L114 (fu : Nat) (K : Int64 → Int32 → Option (Int64 × Int32 × Int32 × Int32)) (espf : Nat → Int32) : Nat → Int64 → Int32 → Option (Int64 × Int32 × Int32 × Int32)
  | 0, _, _ => none
  | n + 1, v1, v3 =>
  if 7 ≤ v3 then (K v1 v3) else (if zok v3 7 then (f_X5_digest_L114 fu K espf n ((31 * v1) + (Int32.toInt64 (espf (Int32.toNatClampNeg v3)))) (v3 + 1)) else none)
def f_X5_digest (fu : Nat) (b0 : Int32) (b1 : Int32) (b2 : Int32) (estm : Int32) (eszo : Nat → Int32) (esrs : Int32) (esrf : Nat → Int32) (esfs : Int32) (esff : Nat → Int32) (esas : Int32) (espf : Nat → Int32) (estf : Nat → Int32) (txn : Int32) (yhs : Int32)  : Option (Int64 × Int32 × Int32 × Int32) :=
  f_X5_digest_L6 fu (fun (x1 : Int64) (x2 : Int32) (x3 : Int32) (x4 : Int32) (x5 : Int32) => f_X5_digest_L32 fu (fun (x6 : Int64) (x7 : Int32) (x8 : Int32) (x9 : Int32) (x10 : Int32) => f_X5_digest_L59 fu (fun (x11 : Int64) (x12 : Int32) => (f_X3_mixInto fu 11 esrs 132 esrf x11).bind fun r3 => (f_X3_mixInto fu 7 esfs 56 esff r3).bind fun r4 => f_X5_digest_L114 fu (fun (x13 : Int64) (x14 : Int32) => some (x13, x8, x9, x10)) espf fu r4 0) eszo fu x6 0) estm esrs esfs esas estf fu x1 0 x3 x4 x5) txn yhs fu 2573 0 b0 b1 b2
abbrev wk_X5_digest : List Cond := Cond.code yX5_digest cX5_digest 4 (some .long) :: WB
abbrev rm_X5_digest : Room := { frames := 3, cells := 0, slots := 0, locals := 70 }
set_option maxHeartbeats 4000000 in
set_option maxRecDepth 100000 in
theorem c_X5_digest (l : Launch) (D : va_G) (k : Nat → Nat) (zq es yh tx gp gq esz esr esk esf esa esp est esrc esfc esac txb txt yhr : Nat) (b0 : Int32) (b1 : Int32) (b2 : Int32) (estm : Int32) (eszo : Nat → Int32) (esrs : Int32) (esrf : Nat → Int32) (esfs : Int32) (esff : Nat → Int32) (esas : Int32) (esaf : Nat → Int32) (espf : Nat → Int32) (estf : Nat → Int32) (txn : Int32) (txp : Int32) (txg : Int32) (txe : Int32) (yhs : Int32) (yhn : Int32)  (fu : Nat) {res : Int64 × Int32 × Int32 × Int32} (h : f_X5_digest fu b0 b1 b2 estm eszo esrs esrf esfs esff esas espf estf txn yhs  = some res) : Cl l yX5_digest wk_X5_digest rm_X5_digest D k [.ref zq] [(zq, .inr (5, [.ref es, .ref yh, .ref tx, .ref gp, .ref gq, .int b0, .int b1, .int b2])), (es, .inr (2, [.ref esz, .ref esr, .ref esk, .ref esf, .ref esa, .ref esp, .ref est, .int estm])), (esz, .inl (k 0, 32, .inl eszo)), (esr, .inr (3, [.int 12, .int 11, .ref esrc, .int esrs])), (esrc, .inl (k 0, 132, .inl esrf)), (esf, .inr (3, [.int 8, .int 7, .ref esfc, .int esfs])), (esfc, .inl (k 0, 56, .inl esff)), (esa, .inr (3, [.int 6, .int 5, .ref esac, .int esas])), (esac, .inl (k 0, 30, .inl esaf)), (esp, .inl (k 0, 7, .inl espf)), (est, .inl (k 0, 6, .inl estf)), (tx, .inr (4, [.ref txb, .ref txt, .int txn, .int txp, .int txg, .int txe])), (yh, .inr (0, [.ref yhr, .int yhs, .int yhn]))] [(zq, .inr (5, [.ref es, .ref yh, .ref tx, .ref gp, .ref gq, .int res.2.1, .int res.2.2.1, .int res.2.2.2])), (es, .inr (2, [.ref esz, .ref esr, .ref esk, .ref esf, .ref esa, .ref esp, .ref est, .int estm])), (esz, .inl (k 0, 32, .inl eszo)), (esr, .inr (3, [.int 12, .int 11, .ref esrc, .int esrs])), (esrc, .inl (k 0, 132, .inl esrf)), (esf, .inr (3, [.int 8, .int 7, .ref esfc, .int esfs])), (esfc, .inl (k 0, 56, .inl esff)), (esa, .inr (3, [.int 6, .int 5, .ref esac, .int esas])), (esac, .inl (k 0, 30, .inl esaf)), (esp, .inl (k 0, 7, .inl espf)), (est, .inl (k 0, 6, .inl estf)), (tx, .inr (4, [.ref txb, .ref txt, .int txn, .int txp, .int txg, .int txe])), (yh, .inr (0, [.ref yhr, .int yhs, .int yhn]))] res.1 := by
  unfold Cl
  intro sz
  refine Met.ofW (cc := cX5_digest) (maxL := 4) (ret := (some .long)) (by decide) rfl ?_
  intro p e s m args below meth c s₁ B hml hv
  obtain ⟨rfl, hsz, hP, hK, hD0, hm⟩ := hv
  have hx := B.exec
  have hb := B.bytes
  have hr := B.returns
  have ht : ∀ w ∈ WB, w.before _ s = true := fun w hw => atoms_spec (ws := wk_X5_digest) B.pre w (List.mem_cons_of_mem _ hw)
  have hown : s.vm.findClass RX5 = some m.cls := findClass_of_methodNamed B.named
  have hlocks := B.notSynchronized
  subst hsz
  have hD := hD0.self (sz := s.heap.size)
  generalize hAe : va_A [(zq, .inr (5, [.ref es, .ref yh, .ref tx, .ref gp, .ref gq, .int b0, .int b1, .int b2])), (es, .inr (2, [.ref esz, .ref esr, .ref esk, .ref esf, .ref esa, .ref esp, .ref est, .int estm])), (esz, .inl (k 0, 32, .inl eszo)), (esr, .inr (3, [.int 12, .int 11, .ref esrc, .int esrs])), (esrc, .inl (k 0, 132, .inl esrf)), (esf, .inr (3, [.int 8, .int 7, .ref esfc, .int esfs])), (esfc, .inl (k 0, 56, .inl esff)), (esa, .inr (3, [.int 6, .int 5, .ref esac, .int esas])), (esac, .inl (k 0, 30, .inl esaf)), (esp, .inl (k 0, 7, .inl espf)), (est, .inl (k 0, 6, .inl estf)), (tx, .inr (4, [.ref txb, .ref txt, .int txn, .int txp, .int txg, .int txe])), (yh, .inr (0, [.ref yhr, .int yhs, .int yhn]))] s.heap.size = A at hD hm ⊢
  have hA : ∀ q : Nat, s.heap.size ≤ q → A q := fun q h => by rw [← hAe]; exact Or.inr h
  have hS : va_S A s.heap s.heap [] := va_S.rf
  have hl := lv_entry ([.ref zq]) (n := 4) (Nat.le_of_ble_eq_true rfl)
  rw [lg_entry_eq]
  generalize (lg_sl ([.ref zq]) ++ List.replicate (4 - (lg_sl ([.ref zq])).length) Slot.unset).toArray = ls at hl ⊢
  have hl : lv_has ls 4 [(0, .ref zq)] := hl
  obtain ⟨H, hH⟩ : ∃ H, H = s.heap := ⟨_, rfl⟩
  rw [← hH] at hP
  have hS : va_S A s.heap H [] := by rw [hH]; exact hS
  suffices hgo : W p l e _ s m _ below meth c H [] 0 0 _ _ by rw [hH] at hgo; exact hgo
  unfold f_X5_digest at h
  refine lv_ldc2 (v := 2573) hx hb hown (ht _ wb750) dX5_digest_0 ?_
  refine lv_lstore_n (lv' := [(1, .long 2573), (0, .ref zq)]) hx hb dX5_digest_3 rfl hl (by decide) rfl (fun ls hl => ?_)
  refine lv_iconst (v := 0) hx hb dX5_digest_4 (by decide) ?_
  refine lv_istore_n (lv' := [(3, .int 0), (1, .long 2573), (0, .ref zq)]) hx hb dX5_digest_5 rfl hl (by decide) rfl (fun ls hl => ?_)
  have loop6 : ∀ (estm : Int32) (eszo : Nat → Int32) (esrs : Int32) (esrf : Nat → Int32) (esfs : Int32) (esff : Nat → Int32) (esas : Int32) (esaf : Nat → Int32) (espf : Nat → Int32) (estf : Nat → Int32) (txn : Int32) (txp : Int32) (txg : Int32) (txe : Int32) (yhs : Int32) (yhn : Int32), ∀ (K : Int64 → Int32 → Int32 → Int32 → Int32 → Option (Int64 × Int32 × Int32 × Int32)), (∀ (v1 : Int64) (v3 : Int32) (b0 : Int32) (b1 : Int32) (b2 : Int32), K v1 v3 b0 b1 b2 = some res → ∀ (H : Heap) (locs : List Loc), va_P D vwCl [(zq, .inr (5, [.ref es, .ref yh, .ref tx, .ref gp, .ref gq, .int b0, .int b1, .int b2])), (es, .inr (2, [.ref esz, .ref esr, .ref esk, .ref esf, .ref esa, .ref esp, .ref est, .int estm])), (esz, .inl (k 0, 32, .inl eszo)), (esr, .inr (3, [.int 12, .int 11, .ref esrc, .int esrs])), (esrc, .inl (k 0, 132, .inl esrf)), (esf, .inr (3, [.int 8, .int 7, .ref esfc, .int esfs])), (esfc, .inl (k 0, 56, .inl esff)), (esa, .inr (3, [.int 6, .int 5, .ref esac, .int esas])), (esac, .inl (k 0, 30, .inl esaf)), (esp, .inl (k 0, 7, .inl espf)), (est, .inl (k 0, 6, .inl estf)), (tx, .inr (4, [.ref txb, .ref txt, .int txn, .int txp, .int txg, .int txe])), (yh, .inr (0, [.ref yhr, .int yhs, .int yhn]))] H → va_D A [(zq, .inr (5, [.ref es, .ref yh, .ref tx, .ref gp, .ref gq, .int b0, .int b1, .int b2])), (es, .inr (2, [.ref esz, .ref esr, .ref esk, .ref esf, .ref esa, .ref esp, .ref est, .int estm])), (esz, .inl (k 0, 32, .inl eszo)), (esr, .inr (3, [.int 12, .int 11, .ref esrc, .int esrs])), (esrc, .inl (k 0, 132, .inl esrf)), (esf, .inr (3, [.int 8, .int 7, .ref esfc, .int esfs])), (esfc, .inl (k 0, 56, .inl esff)), (esa, .inr (3, [.int 6, .int 5, .ref esac, .int esas])), (esac, .inl (k 0, 30, .inl esaf)), (esp, .inl (k 0, 7, .inl espf)), (est, .inl (k 0, 6, .inl estf)), (tx, .inr (4, [.ref txb, .ref txt, .int txn, .int txp, .int txg, .int txe])), (yh, .inr (0, [.ref yhr, .int yhs, .int yhn]))] → va_S A s.heap H locs → ∀ ls : Array Slot, lv_has ls 4 [(0, .ref zq), (1, .long v1), (3, .int v3)] → W p l e (headSpec wk_X5_digest rm_X5_digest).room s m ([.ref zq] : List Value).toArray below meth c H locs 0 0 (MQ below (va_Ql (fun xq9 (_ : Unit) => xq9 = res.1) (fun _ tq9 => va_P D vwCl [(zq, .inr (5, [.ref es, .ref yh, .ref tx, .ref gp, .ref gq, .int res.2.1, .int res.2.2.1, .int res.2.2.2])), (es, .inr (2, [.ref esz, .ref esr, .ref esk, .ref esf, .ref esa, .ref esp, .ref est, .int estm])), (esz, .inl (k 0, 32, .inl eszo)), (esr, .inr (3, [.int 12, .int 11, .ref esrc, .int esrs])), (esrc, .inl (k 0, 132, .inl esrf)), (esf, .inr (3, [.int 8, .int 7, .ref esfc, .int esfs])), (esfc, .inl (k 0, 56, .inl esff)), (esa, .inr (3, [.int 6, .int 5, .ref esac, .int esas])), (esac, .inl (k 0, 30, .inl esaf)), (esp, .inl (k 0, 7, .inl espf)), (est, .inl (k 0, 6, .inl estf)), (tx, .inr (4, [.ref txb, .ref txt, .int txn, .int txp, .int txg, .int txe])), (yh, .inr (0, [.ref yhr, .int yhs, .int yhn]))] tq9.heap) A) ([.ref zq] : List Value).toArray s 0 0 A) (F0 m 30 ls [])) → ∀ (n : Nat) (v1 : Int64) (v3 : Int32) (b0 : Int32) (b1 : Int32) (b2 : Int32), f_X5_digest_L6 fu K txn yhs n v1 v3 b0 b1 b2 = some res → ∀ (H : Heap) (locs : List Loc), va_P D vwCl [(zq, .inr (5, [.ref es, .ref yh, .ref tx, .ref gp, .ref gq, .int b0, .int b1, .int b2])), (es, .inr (2, [.ref esz, .ref esr, .ref esk, .ref esf, .ref esa, .ref esp, .ref est, .int estm])), (esz, .inl (k 0, 32, .inl eszo)), (esr, .inr (3, [.int 12, .int 11, .ref esrc, .int esrs])), (esrc, .inl (k 0, 132, .inl esrf)), (esf, .inr (3, [.int 8, .int 7, .ref esfc, .int esfs])), (esfc, .inl (k 0, 56, .inl esff)), (esa, .inr (3, [.int 6, .int 5, .ref esac, .int esas])), (esac, .inl (k 0, 30, .inl esaf)), (esp, .inl (k 0, 7, .inl espf)), (est, .inl (k 0, 6, .inl estf)), (tx, .inr (4, [.ref txb, .ref txt, .int txn, .int txp, .int txg, .int txe])), (yh, .inr (0, [.ref yhr, .int yhs, .int yhn]))] H → va_D A [(zq, .inr (5, [.ref es, .ref yh, .ref tx, .ref gp, .ref gq, .int b0, .int b1, .int b2])), (es, .inr (2, [.ref esz, .ref esr, .ref esk, .ref esf, .ref esa, .ref esp, .ref est, .int estm])), (esz, .inl (k 0, 32, .inl eszo)), (esr, .inr (3, [.int 12, .int 11, .ref esrc, .int esrs])), (esrc, .inl (k 0, 132, .inl esrf)), (esf, .inr (3, [.int 8, .int 7, .ref esfc, .int esfs])), (esfc, .inl (k 0, 56, .inl esff)), (esa, .inr (3, [.int 6, .int 5, .ref esac, .int esas])), (esac, .inl (k 0, 30, .inl esaf)), (esp, .inl (k 0, 7, .inl espf)), (est, .inl (k 0, 6, .inl estf)), (tx, .inr (4, [.ref txb, .ref txt, .int txn, .int txp, .int txg, .int txe])), (yh, .inr (0, [.ref yhr, .int yhs, .int yhn]))] → va_S A s.heap H locs → ∀ ls : Array Slot, lv_has ls 4 [(0, .ref zq), (1, .long v1), (3, .int v3)] → W p l e (headSpec wk_X5_digest rm_X5_digest).room s m ([.ref zq] : List Value).toArray below meth c H locs 0 0 (MQ below (va_Ql (fun xq9 (_ : Unit) => xq9 = res.1) (fun _ tq9 => va_P D vwCl [(zq, .inr (5, [.ref es, .ref yh, .ref tx, .ref gp, .ref gq, .int res.2.1, .int res.2.2.1, .int res.2.2.2])), (es, .inr (2, [.ref esz, .ref esr, .ref esk, .ref esf, .ref esa, .ref esp, .ref est, .int estm])), (esz, .inl (k 0, 32, .inl eszo)), (esr, .inr (3, [.int 12, .int 11, .ref esrc, .int esrs])), (esrc, .inl (k 0, 132, .inl esrf)), (esf, .inr (3, [.int 8, .int 7, .ref esfc, .int esfs])), (esfc, .inl (k 0, 56, .inl esff)), (esa, .inr (3, [.int 6, .int 5, .ref esac, .int esas])), (esac, .inl (k 0, 30, .inl esaf)), (esp, .inl (k 0, 7, .inl espf)), (est, .inl (k 0, 6, .inl estf)), (tx, .inr (4, [.ref txb, .ref txt, .int txn, .int txp, .int txg, .int txe])), (yh, .inr (0, [.ref yhr, .int yhs, .int yhn]))] tq9.heap) A) ([.ref zq] : List Value).toArray s 0 0 A) (F0 m 6 ls []) := by
    intro estm eszo esrs esrf esfs esff esas esaf espf estf txn txp txg txe yhs yhn K hKK n
    induction n with
    | zero =>
      intro v1 v3 b0 b1 b2 h
      rw [f_X5_digest_L6] at h
      cases h
    | succ n ih =>
      intro v1 v3 b0 b1 b2 h H locs hP hD hS ls hl
      rw [f_X5_digest_L6] at h
      refine lv_iload_n hx hb dX5_digest_6 rfl (lv_at hl 2 rfl) ?_
      refine lv_iconst (v := 4) hx hb dX5_digest_7 (by decide) ?_
      refine lv_icmp_gt (tgt := 30) hx hb dX5_digest_8 (by decide) (fun c1 => ?_) (fun c1 => ?_)
      · have h := zt h c1
        exact hKK _ _ _ _ _ h _ _ hP hD hS _ (lv_sub hl [0, 1, 2] rfl)
      · have h := zf h c1
        refine lv_ldc2 (v := 31) hx hb hown (ht _ wb751) dX5_digest_11 ?_
        refine lv_lload_n hx hb dX5_digest_14 rfl (lv_at hl 1 rfl) ?_
        refine lv_lmul hx hb dX5_digest_15 ?_
        refine lv_aload_n hx hb dX5_digest_16 rfl (lv_at hl 0 rfl) ?_
        refine lv_iload_n hx hb dX5_digest_17 rfl (lv_at hl 2 rfl) ?_
        obtain ⟨r1, h1, h⟩ := zb h
        refine zi (zrV (C := RX5) (T := TX5) (N := 8) (As := [.int v3]) (rest := [.long (31 * v1)]) ⟨hx, hb, hml, hown, ht⟩ (c_X5_told l D k zq es yh tx gp gq txb txt yhr b0 b1 b2 txn txp txg txe yhs yhn v3 h1 _) (cwV 1 ht (gdV wb752 wb743 wb744 wb72 wb745) rfl rfl rfl (by decide +kernel) ⟨Nat.le_of_ble_eq_true rfl, Nat.le_of_ble_eq_true rfl⟩) hK hP hD hS hA hm [0, 11, 12] rfl rfl 0 5 rfl rfl rfl hl.1 rfl (Nat.le_of_ble_eq_true rfl) dX5_digest_18 ⟨Nat.le_refl _, Nat.le_refl _⟩) hP hD hS hA [0, 11, 12] rfl rfl (fun H locs hP hD hS => ?_)
        have hP : va_P D vwCl [(zq, .inr (5, [.ref es, .ref yh, .ref tx, .ref gp, .ref gq, .int r1.2.1, .int r1.2.2.1, .int r1.2.2.2])), (es, .inr (2, [.ref esz, .ref esr, .ref esk, .ref esf, .ref esa, .ref esp, .ref est, .int estm])), (esz, .inl (k 0, 32, .inl eszo)), (esr, .inr (3, [.int 12, .int 11, .ref esrc, .int esrs])), (esrc, .inl (k 0, 132, .inl esrf)), (esf, .inr (3, [.int 8, .int 7, .ref esfc, .int esfs])), (esfc, .inl (k 0, 56, .inl esff)), (esa, .inr (3, [.int 6, .int 5, .ref esac, .int esas])), (esac, .inl (k 0, 30, .inl esaf)), (esp, .inl (k 0, 7, .inl espf)), (est, .inl (k 0, 6, .inl estf)), (tx, .inr (4, [.ref txb, .ref txt, .int txn, .int txp, .int txg, .int txe])), (yh, .inr (0, [.ref yhr, .int yhs, .int yhn]))] H := hP
        have hD : va_D A [(zq, .inr (5, [.ref es, .ref yh, .ref tx, .ref gp, .ref gq, .int r1.2.1, .int r1.2.2.1, .int r1.2.2.2])), (es, .inr (2, [.ref esz, .ref esr, .ref esk, .ref esf, .ref esa, .ref esp, .ref est, .int estm])), (esz, .inl (k 0, 32, .inl eszo)), (esr, .inr (3, [.int 12, .int 11, .ref esrc, .int esrs])), (esrc, .inl (k 0, 132, .inl esrf)), (esf, .inr (3, [.int 8, .int 7, .ref esfc, .int esfs])), (esfc, .inl (k 0, 56, .inl esff)), (esa, .inr (3, [.int 6, .int 5, .ref esac, .int esas])), (esac, .inl (k 0, 30, .inl esaf)), (esp, .inl (k 0, 7, .inl espf)), (est, .inl (k 0, 6, .inl estf)), (tx, .inr (4, [.ref txb, .ref txt, .int txn, .int txp, .int txg, .int txe])), (yh, .inr (0, [.ref yhr, .int yhs, .int yhn]))] := hD
        refine lv_i2l (v := Int32.toInt64 r1.1) hx hb dX5_digest_21 rfl ?_
        refine lv_ladd hx hb dX5_digest_22 ?_
        refine lv_lstore_n (lv' := [(1, .long ((31 * v1) + (Int32.toInt64 r1.1))), (0, .ref zq), (3, .int v3)]) hx hb dX5_digest_23 rfl hl (by decide) rfl (fun ls hl => ?_)
        refine lv_iinc (v := v3 + 1) (lv' := [(3, .int (v3 + 1)), (1, .long ((31 * v1) + (Int32.toInt64 r1.1))), (0, .ref zq)]) hx hb dX5_digest_24 hl (k := 2) rfl rfl (by decide) rfl (fun ls hl => ?_)
        refine lv_goto (tgt := 6) hx hb dX5_digest_27 (by decide) ?_
        exact ih _ _ _ _ _ h _ _ hP hD hS _ (lv_sub hl [2, 1, 0] rfl)
  refine loop6 _ _ _ _ _ _ _ _ _ _ _ _ _ _ _ _ _ ?_ fu _ _ _ _ _ h _ _ hP hD hS _ (lv_sub hl [2, 1, 0] rfl)
  intro x1 x2 x3 x4 x5 h H locs hP hD hS ls hl
  try dsimp only at h
  have hP : va_P D vwCl [(zq, .inr (5, [.ref es, .ref yh, .ref tx, .ref gp, .ref gq, .int x3, .int x4, .int x5])), (es, .inr (2, [.ref esz, .ref esr, .ref esk, .ref esf, .ref esa, .ref esp, .ref est, .int estm])), (esz, .inl (k 0, 32, .inl eszo)), (esr, .inr (3, [.int 12, .int 11, .ref esrc, .int esrs])), (esrc, .inl (k 0, 132, .inl esrf)), (esf, .inr (3, [.int 8, .int 7, .ref esfc, .int esfs])), (esfc, .inl (k 0, 56, .inl esff)), (esa, .inr (3, [.int 6, .int 5, .ref esac, .int esas])), (esac, .inl (k 0, 30, .inl esaf)), (esp, .inl (k 0, 7, .inl espf)), (est, .inl (k 0, 6, .inl estf)), (tx, .inr (4, [.ref txb, .ref txt, .int txn, .int txp, .int txg, .int txe])), (yh, .inr (0, [.ref yhr, .int yhs, .int yhn]))] H := hP
  have hD : va_D A [(zq, .inr (5, [.ref es, .ref yh, .ref tx, .ref gp, .ref gq, .int x3, .int x4, .int x5])), (es, .inr (2, [.ref esz, .ref esr, .ref esk, .ref esf, .ref esa, .ref esp, .ref est, .int estm])), (esz, .inl (k 0, 32, .inl eszo)), (esr, .inr (3, [.int 12, .int 11, .ref esrc, .int esrs])), (esrc, .inl (k 0, 132, .inl esrf)), (esf, .inr (3, [.int 8, .int 7, .ref esfc, .int esfs])), (esfc, .inl (k 0, 56, .inl esff)), (esa, .inr (3, [.int 6, .int 5, .ref esac, .int esas])), (esac, .inl (k 0, 30, .inl esaf)), (esp, .inl (k 0, 7, .inl espf)), (est, .inl (k 0, 6, .inl estf)), (tx, .inr (4, [.ref txb, .ref txt, .int txn, .int txp, .int txg, .int txe])), (yh, .inr (0, [.ref yhr, .int yhs, .int yhn]))] := hD
  have hl : lv_has ls 4 [(0, .ref zq), (1, .long x1), (3, .int x2)] := hl
  refine lv_iconst (v := 0) hx hb dX5_digest_30 (by decide) ?_
  refine lv_istore_n (lv' := [(3, .int 0), (0, .ref zq), (1, .long x1)]) hx hb dX5_digest_31 rfl hl (by decide) rfl (fun ls hl => ?_)
  have loop32 : ∀ (estm : Int32) (eszo : Nat → Int32) (esrs : Int32) (esrf : Nat → Int32) (esfs : Int32) (esff : Nat → Int32) (esas : Int32) (esaf : Nat → Int32) (espf : Nat → Int32) (estf : Nat → Int32) (txn : Int32) (txp : Int32) (txg : Int32) (txe : Int32) (yhs : Int32) (yhn : Int32), ∀ (K : Int64 → Int32 → Int32 → Int32 → Int32 → Option (Int64 × Int32 × Int32 × Int32)), (∀ (v1 : Int64) (v3 : Int32) (b0 : Int32) (b1 : Int32) (b2 : Int32), K v1 v3 b0 b1 b2 = some res → ∀ (H : Heap) (locs : List Loc), va_P D vwCl [(zq, .inr (5, [.ref es, .ref yh, .ref tx, .ref gp, .ref gq, .int b0, .int b1, .int b2])), (es, .inr (2, [.ref esz, .ref esr, .ref esk, .ref esf, .ref esa, .ref esp, .ref est, .int estm])), (esz, .inl (k 0, 32, .inl eszo)), (esr, .inr (3, [.int 12, .int 11, .ref esrc, .int esrs])), (esrc, .inl (k 0, 132, .inl esrf)), (esf, .inr (3, [.int 8, .int 7, .ref esfc, .int esfs])), (esfc, .inl (k 0, 56, .inl esff)), (esa, .inr (3, [.int 6, .int 5, .ref esac, .int esas])), (esac, .inl (k 0, 30, .inl esaf)), (esp, .inl (k 0, 7, .inl espf)), (est, .inl (k 0, 6, .inl estf)), (tx, .inr (4, [.ref txb, .ref txt, .int txn, .int txp, .int txg, .int txe])), (yh, .inr (0, [.ref yhr, .int yhs, .int yhn]))] H → va_D A [(zq, .inr (5, [.ref es, .ref yh, .ref tx, .ref gp, .ref gq, .int b0, .int b1, .int b2])), (es, .inr (2, [.ref esz, .ref esr, .ref esk, .ref esf, .ref esa, .ref esp, .ref est, .int estm])), (esz, .inl (k 0, 32, .inl eszo)), (esr, .inr (3, [.int 12, .int 11, .ref esrc, .int esrs])), (esrc, .inl (k 0, 132, .inl esrf)), (esf, .inr (3, [.int 8, .int 7, .ref esfc, .int esfs])), (esfc, .inl (k 0, 56, .inl esff)), (esa, .inr (3, [.int 6, .int 5, .ref esac, .int esas])), (esac, .inl (k 0, 30, .inl esaf)), (esp, .inl (k 0, 7, .inl espf)), (est, .inl (k 0, 6, .inl estf)), (tx, .inr (4, [.ref txb, .ref txt, .int txn, .int txp, .int txg, .int txe])), (yh, .inr (0, [.ref yhr, .int yhs, .int yhn]))] → va_S A s.heap H locs → ∀ ls : Array Slot, lv_has ls 4 [(0, .ref zq), (1, .long v1), (3, .int v3)] → W p l e (headSpec wk_X5_digest rm_X5_digest).room s m ([.ref zq] : List Value).toArray below meth c H locs 0 0 (MQ below (va_Ql (fun xq9 (_ : Unit) => xq9 = res.1) (fun _ tq9 => va_P D vwCl [(zq, .inr (5, [.ref es, .ref yh, .ref tx, .ref gp, .ref gq, .int res.2.1, .int res.2.2.1, .int res.2.2.2])), (es, .inr (2, [.ref esz, .ref esr, .ref esk, .ref esf, .ref esa, .ref esp, .ref est, .int estm])), (esz, .inl (k 0, 32, .inl eszo)), (esr, .inr (3, [.int 12, .int 11, .ref esrc, .int esrs])), (esrc, .inl (k 0, 132, .inl esrf)), (esf, .inr (3, [.int 8, .int 7, .ref esfc, .int esfs])), (esfc, .inl (k 0, 56, .inl esff)), (esa, .inr (3, [.int 6, .int 5, .ref esac, .int esas])), (esac, .inl (k 0, 30, .inl esaf)), (esp, .inl (k 0, 7, .inl espf)), (est, .inl (k 0, 6, .inl estf)), (tx, .inr (4, [.ref txb, .ref txt, .int txn, .int txp, .int txg, .int txe])), (yh, .inr (0, [.ref yhr, .int yhs, .int yhn]))] tq9.heap) A) ([.ref zq] : List Value).toArray s 0 0 A) (F0 m 57 ls [])) → ∀ (n : Nat) (v1 : Int64) (v3 : Int32) (b0 : Int32) (b1 : Int32) (b2 : Int32), f_X5_digest_L32 fu K estm esrs esfs esas estf n v1 v3 b0 b1 b2 = some res → ∀ (H : Heap) (locs : List Loc), va_P D vwCl [(zq, .inr (5, [.ref es, .ref yh, .ref tx, .ref gp, .ref gq, .int b0, .int b1, .int b2])), (es, .inr (2, [.ref esz, .ref esr, .ref esk, .ref esf, .ref esa, .ref esp, .ref est, .int estm])), (esz, .inl (k 0, 32, .inl eszo)), (esr, .inr (3, [.int 12, .int 11, .ref esrc, .int esrs])), (esrc, .inl (k 0, 132, .inl esrf)), (esf, .inr (3, [.int 8, .int 7, .ref esfc, .int esfs])), (esfc, .inl (k 0, 56, .inl esff)), (esa, .inr (3, [.int 6, .int 5, .ref esac, .int esas])), (esac, .inl (k 0, 30, .inl esaf)), (esp, .inl (k 0, 7, .inl espf)), (est, .inl (k 0, 6, .inl estf)), (tx, .inr (4, [.ref txb, .ref txt, .int txn, .int txp, .int txg, .int txe])), (yh, .inr (0, [.ref yhr, .int yhs, .int yhn]))] H → va_D A [(zq, .inr (5, [.ref es, .ref yh, .ref tx, .ref gp, .ref gq, .int b0, .int b1, .int b2])), (es, .inr (2, [.ref esz, .ref esr, .ref esk, .ref esf, .ref esa, .ref esp, .ref est, .int estm])), (esz, .inl (k 0, 32, .inl eszo)), (esr, .inr (3, [.int 12, .int 11, .ref esrc, .int esrs])), (esrc, .inl (k 0, 132, .inl esrf)), (esf, .inr (3, [.int 8, .int 7, .ref esfc, .int esfs])), (esfc, .inl (k 0, 56, .inl esff)), (esa, .inr (3, [.int 6, .int 5, .ref esac, .int esas])), (esac, .inl (k 0, 30, .inl esaf)), (esp, .inl (k 0, 7, .inl espf)), (est, .inl (k 0, 6, .inl estf)), (tx, .inr (4, [.ref txb, .ref txt, .int txn, .int txp, .int txg, .int txe])), (yh, .inr (0, [.ref yhr, .int yhs, .int yhn]))] → va_S A s.heap H locs → ∀ ls : Array Slot, lv_has ls 4 [(0, .ref zq), (1, .long v1), (3, .int v3)] → W p l e (headSpec wk_X5_digest rm_X5_digest).room s m ([.ref zq] : List Value).toArray below meth c H locs 0 0 (MQ below (va_Ql (fun xq9 (_ : Unit) => xq9 = res.1) (fun _ tq9 => va_P D vwCl [(zq, .inr (5, [.ref es, .ref yh, .ref tx, .ref gp, .ref gq, .int res.2.1, .int res.2.2.1, .int res.2.2.2])), (es, .inr (2, [.ref esz, .ref esr, .ref esk, .ref esf, .ref esa, .ref esp, .ref est, .int estm])), (esz, .inl (k 0, 32, .inl eszo)), (esr, .inr (3, [.int 12, .int 11, .ref esrc, .int esrs])), (esrc, .inl (k 0, 132, .inl esrf)), (esf, .inr (3, [.int 8, .int 7, .ref esfc, .int esfs])), (esfc, .inl (k 0, 56, .inl esff)), (esa, .inr (3, [.int 6, .int 5, .ref esac, .int esas])), (esac, .inl (k 0, 30, .inl esaf)), (esp, .inl (k 0, 7, .inl espf)), (est, .inl (k 0, 6, .inl estf)), (tx, .inr (4, [.ref txb, .ref txt, .int txn, .int txp, .int txg, .int txe])), (yh, .inr (0, [.ref yhr, .int yhs, .int yhn]))] tq9.heap) A) ([.ref zq] : List Value).toArray s 0 0 A) (F0 m 32 ls []) := by
    intro estm eszo esrs esrf esfs esff esas esaf espf estf txn txp txg txe yhs yhn K hKK n
    induction n with
    | zero =>
      intro v1 v3 b0 b1 b2 h
      rw [f_X5_digest_L32] at h
      cases h
    | succ n ih =>
      intro v1 v3 b0 b1 b2 h H locs hP hD hS ls hl
      rw [f_X5_digest_L32] at h
      refine lv_iload_n hx hb dX5_digest_32 rfl (lv_at hl 2 rfl) ?_
      refine lv_bipush (v := 10) hx hb dX5_digest_33 (by decide) ?_
      refine lv_icmp_ge (tgt := 57) hx hb dX5_digest_35 (by decide) (fun c2 => ?_) (fun c2 => ?_)
      · have h := zt h c2
        exact hKK _ _ _ _ _ h _ _ hP hD hS _ (lv_sub hl [0, 1, 2] rfl)
      · have h := zf h c2
        refine lv_ldc2 (v := 31) hx hb hown (ht _ wb751) dX5_digest_38 ?_
        refine lv_lload_n hx hb dX5_digest_41 rfl (lv_at hl 1 rfl) ?_
        refine lv_lmul hx hb dX5_digest_42 ?_
        refine lv_aload_n hx hb dX5_digest_43 rfl (lv_at hl 0 rfl) ?_
        refine lv_iload_n hx hb dX5_digest_44 rfl (lv_at hl 2 rfl) ?_
        obtain ⟨r2, h2, h⟩ := zb h
        refine zi (zrV (C := RX5) (T := TX5) (N := 8) (As := [.int v3]) (rest := [.long (31 * v1)]) ⟨hx, hb, hml, hown, ht⟩ (c_X5_count l D k zq es yh tx gp gq esz esr esk esf esa esp est esrc esfc esac b0 b1 b2 estm esrs esrf esfs esff esas esaf estf v3 h2 _) (cwV 1 ht (gdV wb753 wb589 wb590 wb72 wb591) rfl rfl rfl (by decide +kernel) ⟨Nat.le_of_ble_eq_true rfl, Nat.le_of_ble_eq_true rfl⟩) hK hP hD hS hA hm [0, 1, 3, 4, 5, 6, 7, 8, 10] rfl rfl 0 5 rfl rfl rfl hl.1 rfl (Nat.le_of_ble_eq_true rfl) dX5_digest_45 ⟨Nat.le_refl _, Nat.le_refl _⟩) hP hD hS hA [0, 1, 3, 4, 5, 6, 7, 8, 10] rfl rfl (fun H locs hP hD hS => ?_)
        have hP : va_P D vwCl [(zq, .inr (5, [.ref es, .ref yh, .ref tx, .ref gp, .ref gq, .int r2.2.1, .int r2.2.2.1, .int r2.2.2.2])), (es, .inr (2, [.ref esz, .ref esr, .ref esk, .ref esf, .ref esa, .ref esp, .ref est, .int estm])), (esz, .inl (k 0, 32, .inl eszo)), (esr, .inr (3, [.int 12, .int 11, .ref esrc, .int esrs])), (esrc, .inl (k 0, 132, .inl esrf)), (esf, .inr (3, [.int 8, .int 7, .ref esfc, .int esfs])), (esfc, .inl (k 0, 56, .inl esff)), (esa, .inr (3, [.int 6, .int 5, .ref esac, .int esas])), (esac, .inl (k 0, 30, .inl esaf)), (esp, .inl (k 0, 7, .inl espf)), (est, .inl (k 0, 6, .inl estf)), (tx, .inr (4, [.ref txb, .ref txt, .int txn, .int txp, .int txg, .int txe])), (yh, .inr (0, [.ref yhr, .int yhs, .int yhn]))] H := hP
        have hD : va_D A [(zq, .inr (5, [.ref es, .ref yh, .ref tx, .ref gp, .ref gq, .int r2.2.1, .int r2.2.2.1, .int r2.2.2.2])), (es, .inr (2, [.ref esz, .ref esr, .ref esk, .ref esf, .ref esa, .ref esp, .ref est, .int estm])), (esz, .inl (k 0, 32, .inl eszo)), (esr, .inr (3, [.int 12, .int 11, .ref esrc, .int esrs])), (esrc, .inl (k 0, 132, .inl esrf)), (esf, .inr (3, [.int 8, .int 7, .ref esfc, .int esfs])), (esfc, .inl (k 0, 56, .inl esff)), (esa, .inr (3, [.int 6, .int 5, .ref esac, .int esas])), (esac, .inl (k 0, 30, .inl esaf)), (esp, .inl (k 0, 7, .inl espf)), (est, .inl (k 0, 6, .inl estf)), (tx, .inr (4, [.ref txb, .ref txt, .int txn, .int txp, .int txg, .int txe])), (yh, .inr (0, [.ref yhr, .int yhs, .int yhn]))] := hD
        refine lv_i2l (v := Int32.toInt64 r2.1) hx hb dX5_digest_48 rfl ?_
        refine lv_ladd hx hb dX5_digest_49 ?_
        refine lv_lstore_n (lv' := [(1, .long ((31 * v1) + (Int32.toInt64 r2.1))), (0, .ref zq), (3, .int v3)]) hx hb dX5_digest_50 rfl hl (by decide) rfl (fun ls hl => ?_)
        refine lv_iinc (v := v3 + 1) (lv' := [(3, .int (v3 + 1)), (1, .long ((31 * v1) + (Int32.toInt64 r2.1))), (0, .ref zq)]) hx hb dX5_digest_51 hl (k := 2) rfl rfl (by decide) rfl (fun ls hl => ?_)
        refine lv_goto (tgt := 32) hx hb dX5_digest_54 (by decide) ?_
        exact ih _ _ _ _ _ h _ _ hP hD hS _ (lv_sub hl [2, 1, 0] rfl)
  refine loop32 _ _ _ _ _ _ _ _ _ _ _ _ _ _ _ _ _ ?_ fu _ _ _ _ _ h _ _ hP hD hS _ (lv_sub hl [1, 2, 0] rfl)
  intro x6 x7 x8 x9 x10 h H locs hP hD hS ls hl
  try dsimp only at h
  have hP : va_P D vwCl [(zq, .inr (5, [.ref es, .ref yh, .ref tx, .ref gp, .ref gq, .int x8, .int x9, .int x10])), (es, .inr (2, [.ref esz, .ref esr, .ref esk, .ref esf, .ref esa, .ref esp, .ref est, .int estm])), (esz, .inl (k 0, 32, .inl eszo)), (esr, .inr (3, [.int 12, .int 11, .ref esrc, .int esrs])), (esrc, .inl (k 0, 132, .inl esrf)), (esf, .inr (3, [.int 8, .int 7, .ref esfc, .int esfs])), (esfc, .inl (k 0, 56, .inl esff)), (esa, .inr (3, [.int 6, .int 5, .ref esac, .int esas])), (esac, .inl (k 0, 30, .inl esaf)), (esp, .inl (k 0, 7, .inl espf)), (est, .inl (k 0, 6, .inl estf)), (tx, .inr (4, [.ref txb, .ref txt, .int txn, .int txp, .int txg, .int txe])), (yh, .inr (0, [.ref yhr, .int yhs, .int yhn]))] H := hP
  have hD : va_D A [(zq, .inr (5, [.ref es, .ref yh, .ref tx, .ref gp, .ref gq, .int x8, .int x9, .int x10])), (es, .inr (2, [.ref esz, .ref esr, .ref esk, .ref esf, .ref esa, .ref esp, .ref est, .int estm])), (esz, .inl (k 0, 32, .inl eszo)), (esr, .inr (3, [.int 12, .int 11, .ref esrc, .int esrs])), (esrc, .inl (k 0, 132, .inl esrf)), (esf, .inr (3, [.int 8, .int 7, .ref esfc, .int esfs])), (esfc, .inl (k 0, 56, .inl esff)), (esa, .inr (3, [.int 6, .int 5, .ref esac, .int esas])), (esac, .inl (k 0, 30, .inl esaf)), (esp, .inl (k 0, 7, .inl espf)), (est, .inl (k 0, 6, .inl estf)), (tx, .inr (4, [.ref txb, .ref txt, .int txn, .int txp, .int txg, .int txe])), (yh, .inr (0, [.ref yhr, .int yhs, .int yhn]))] := hD
  have hl : lv_has ls 4 [(0, .ref zq), (1, .long x6), (3, .int x7)] := hl
  refine lv_iconst (v := 0) hx hb dX5_digest_57 (by decide) ?_
  refine lv_istore_n (lv' := [(3, .int 0), (0, .ref zq), (1, .long x6)]) hx hb dX5_digest_58 rfl hl (by decide) rfl (fun ls hl => ?_)
  have loop59 : ∀ (b0 : Int32) (b1 : Int32) (b2 : Int32) (estm : Int32) (eszo : Nat → Int32) (esrs : Int32) (esrf : Nat → Int32) (esfs : Int32) (esff : Nat → Int32) (esas : Int32) (esaf : Nat → Int32) (espf : Nat → Int32) (estf : Nat → Int32) (txn : Int32) (txp : Int32) (txg : Int32) (txe : Int32) (yhs : Int32) (yhn : Int32), ∀ (K : Int64 → Int32 → Option (Int64 × Int32 × Int32 × Int32)), (∀ (v1 : Int64) (v3 : Int32), K v1 v3 = some res → ∀ (H : Heap) (locs : List Loc), va_P D vwCl [(zq, .inr (5, [.ref es, .ref yh, .ref tx, .ref gp, .ref gq, .int b0, .int b1, .int b2])), (es, .inr (2, [.ref esz, .ref esr, .ref esk, .ref esf, .ref esa, .ref esp, .ref est, .int estm])), (esz, .inl (k 0, 32, .inl eszo)), (esr, .inr (3, [.int 12, .int 11, .ref esrc, .int esrs])), (esrc, .inl (k 0, 132, .inl esrf)), (esf, .inr (3, [.int 8, .int 7, .ref esfc, .int esfs])), (esfc, .inl (k 0, 56, .inl esff)), (esa, .inr (3, [.int 6, .int 5, .ref esac, .int esas])), (esac, .inl (k 0, 30, .inl esaf)), (esp, .inl (k 0, 7, .inl espf)), (est, .inl (k 0, 6, .inl estf)), (tx, .inr (4, [.ref txb, .ref txt, .int txn, .int txp, .int txg, .int txe])), (yh, .inr (0, [.ref yhr, .int yhs, .int yhn]))] H → va_D A [(zq, .inr (5, [.ref es, .ref yh, .ref tx, .ref gp, .ref gq, .int b0, .int b1, .int b2])), (es, .inr (2, [.ref esz, .ref esr, .ref esk, .ref esf, .ref esa, .ref esp, .ref est, .int estm])), (esz, .inl (k 0, 32, .inl eszo)), (esr, .inr (3, [.int 12, .int 11, .ref esrc, .int esrs])), (esrc, .inl (k 0, 132, .inl esrf)), (esf, .inr (3, [.int 8, .int 7, .ref esfc, .int esfs])), (esfc, .inl (k 0, 56, .inl esff)), (esa, .inr (3, [.int 6, .int 5, .ref esac, .int esas])), (esac, .inl (k 0, 30, .inl esaf)), (esp, .inl (k 0, 7, .inl espf)), (est, .inl (k 0, 6, .inl estf)), (tx, .inr (4, [.ref txb, .ref txt, .int txn, .int txp, .int txg, .int txe])), (yh, .inr (0, [.ref yhr, .int yhs, .int yhn]))] → va_S A s.heap H locs → ∀ ls : Array Slot, lv_has ls 4 [(0, .ref zq), (1, .long v1), (3, .int v3)] → W p l e (headSpec wk_X5_digest rm_X5_digest).room s m ([.ref zq] : List Value).toArray below meth c H locs 0 0 (MQ below (va_Ql (fun xq9 (_ : Unit) => xq9 = res.1) (fun _ tq9 => va_P D vwCl [(zq, .inr (5, [.ref es, .ref yh, .ref tx, .ref gp, .ref gq, .int res.2.1, .int res.2.2.1, .int res.2.2.2])), (es, .inr (2, [.ref esz, .ref esr, .ref esk, .ref esf, .ref esa, .ref esp, .ref est, .int estm])), (esz, .inl (k 0, 32, .inl eszo)), (esr, .inr (3, [.int 12, .int 11, .ref esrc, .int esrs])), (esrc, .inl (k 0, 132, .inl esrf)), (esf, .inr (3, [.int 8, .int 7, .ref esfc, .int esfs])), (esfc, .inl (k 0, 56, .inl esff)), (esa, .inr (3, [.int 6, .int 5, .ref esac, .int esas])), (esac, .inl (k 0, 30, .inl esaf)), (esp, .inl (k 0, 7, .inl espf)), (est, .inl (k 0, 6, .inl estf)), (tx, .inr (4, [.ref txb, .ref txt, .int txn, .int txp, .int txg, .int txe])), (yh, .inr (0, [.ref yhr, .int yhs, .int yhn]))] tq9.heap) A) ([.ref zq] : List Value).toArray s 0 0 A) (F0 m 88 ls [])) → ∀ (n : Nat) (v1 : Int64) (v3 : Int32), f_X5_digest_L59 fu K eszo n v1 v3 = some res → ∀ (H : Heap) (locs : List Loc), va_P D vwCl [(zq, .inr (5, [.ref es, .ref yh, .ref tx, .ref gp, .ref gq, .int b0, .int b1, .int b2])), (es, .inr (2, [.ref esz, .ref esr, .ref esk, .ref esf, .ref esa, .ref esp, .ref est, .int estm])), (esz, .inl (k 0, 32, .inl eszo)), (esr, .inr (3, [.int 12, .int 11, .ref esrc, .int esrs])), (esrc, .inl (k 0, 132, .inl esrf)), (esf, .inr (3, [.int 8, .int 7, .ref esfc, .int esfs])), (esfc, .inl (k 0, 56, .inl esff)), (esa, .inr (3, [.int 6, .int 5, .ref esac, .int esas])), (esac, .inl (k 0, 30, .inl esaf)), (esp, .inl (k 0, 7, .inl espf)), (est, .inl (k 0, 6, .inl estf)), (tx, .inr (4, [.ref txb, .ref txt, .int txn, .int txp, .int txg, .int txe])), (yh, .inr (0, [.ref yhr, .int yhs, .int yhn]))] H → va_D A [(zq, .inr (5, [.ref es, .ref yh, .ref tx, .ref gp, .ref gq, .int b0, .int b1, .int b2])), (es, .inr (2, [.ref esz, .ref esr, .ref esk, .ref esf, .ref esa, .ref esp, .ref est, .int estm])), (esz, .inl (k 0, 32, .inl eszo)), (esr, .inr (3, [.int 12, .int 11, .ref esrc, .int esrs])), (esrc, .inl (k 0, 132, .inl esrf)), (esf, .inr (3, [.int 8, .int 7, .ref esfc, .int esfs])), (esfc, .inl (k 0, 56, .inl esff)), (esa, .inr (3, [.int 6, .int 5, .ref esac, .int esas])), (esac, .inl (k 0, 30, .inl esaf)), (esp, .inl (k 0, 7, .inl espf)), (est, .inl (k 0, 6, .inl estf)), (tx, .inr (4, [.ref txb, .ref txt, .int txn, .int txp, .int txg, .int txe])), (yh, .inr (0, [.ref yhr, .int yhs, .int yhn]))] → va_S A s.heap H locs → ∀ ls : Array Slot, lv_has ls 4 [(0, .ref zq), (1, .long v1), (3, .int v3)] → W p l e (headSpec wk_X5_digest rm_X5_digest).room s m ([.ref zq] : List Value).toArray below meth c H locs 0 0 (MQ below (va_Ql (fun xq9 (_ : Unit) => xq9 = res.1) (fun _ tq9 => va_P D vwCl [(zq, .inr (5, [.ref es, .ref yh, .ref tx, .ref gp, .ref gq, .int res.2.1, .int res.2.2.1, .int res.2.2.2])), (es, .inr (2, [.ref esz, .ref esr, .ref esk, .ref esf, .ref esa, .ref esp, .ref est, .int estm])), (esz, .inl (k 0, 32, .inl eszo)), (esr, .inr (3, [.int 12, .int 11, .ref esrc, .int esrs])), (esrc, .inl (k 0, 132, .inl esrf)), (esf, .inr (3, [.int 8, .int 7, .ref esfc, .int esfs])), (esfc, .inl (k 0, 56, .inl esff)), (esa, .inr (3, [.int 6, .int 5, .ref esac, .int esas])), (esac, .inl (k 0, 30, .inl esaf)), (esp, .inl (k 0, 7, .inl espf)), (est, .inl (k 0, 6, .inl estf)), (tx, .inr (4, [.ref txb, .ref txt, .int txn, .int txp, .int txg, .int txe])), (yh, .inr (0, [.ref yhr, .int yhs, .int yhn]))] tq9.heap) A) ([.ref zq] : List Value).toArray s 0 0 A) (F0 m 59 ls []) := by
    intro b0 b1 b2 estm eszo esrs esrf esfs esff esas esaf espf estf txn txp txg txe yhs yhn K hKK n
    induction n with
    | zero =>
      intro v1 v3 h
      rw [f_X5_digest_L59] at h
      cases h
    | succ n ih =>
      intro v1 v3 h H locs hP hD hS ls hl
      rw [f_X5_digest_L59] at h
      refine lv_iload_n hx hb dX5_digest_59 rfl (lv_at hl 2 rfl) ?_
      refine lv_bipush (v := 32) hx hb dX5_digest_60 (by decide) ?_
      refine lv_icmp_ge (tgt := 88) hx hb dX5_digest_62 (by decide) (fun c3 => ?_) (fun c3 => ?_)
      · have h := zt h c3
        exact hKK _ _ h _ _ hP hD hS _ (lv_sub hl [0, 1, 2] rfl)
      · have h := zf h c3
        refine lv_ldc2 (v := 31) hx hb hown (ht _ wb751) dX5_digest_65 ?_
        refine lv_lload_n hx hb dX5_digest_68 rfl (lv_at hl 1 rfl) ?_
        refine lv_lmul hx hb dX5_digest_69 ?_
        refine lv_aload_n hx hb dX5_digest_70 rfl (lv_at hl 0 rfl) ?_
        refine va_get (D := D) (ci := 5) (v := .ref es) (C := RX5) (T := TX5) (N := 8) hx hb ht hiX5 hown hK hP 0 rfl rfl 0 (by decide) (ht _ wb239) (fun _ h9 => h9) rfl dX5_digest_71 ?_
        refine va_getN (D := D) (ci := 2) (v := .ref esz) (C := RX2) (T := TX2) (N := 8) hx hb ht hiX2 hown hK hP 1 rfl rfl 0 (by decide) (va_Nw.use rfl (hm.1 _ (List.mem_of_getElem? (i := 1) rfl))) (fun _ h9 => h9) rfl dX5_digest_74 ?_
        refine lv_iload_n hx hb dX5_digest_77 rfl (lv_at hl 2 rfl) ?_
        obtain ⟨hi1, h⟩ := zg h
        refine va_iald hx hb hK hP 2 0 rfl rfl hi1 dX5_digest_78 ?_
        refine lv_i2l (v := Int32.toInt64 (eszo (Int32.toNatClampNeg v3))) hx hb dX5_digest_79 rfl ?_
        refine lv_ladd hx hb dX5_digest_80 ?_
        refine lv_lstore_n (lv' := [(1, .long ((31 * v1) + (Int32.toInt64 (eszo (Int32.toNatClampNeg v3))))), (0, .ref zq), (3, .int v3)]) hx hb dX5_digest_81 rfl hl (by decide) rfl (fun ls hl => ?_)
        refine lv_iinc (v := v3 + 1) (lv' := [(3, .int (v3 + 1)), (1, .long ((31 * v1) + (Int32.toInt64 (eszo (Int32.toNatClampNeg v3))))), (0, .ref zq)]) hx hb dX5_digest_82 hl (k := 2) rfl rfl (by decide) rfl (fun ls hl => ?_)
        refine lv_goto (tgt := 59) hx hb dX5_digest_85 (by decide) ?_
        exact ih _ _ h _ _ hP hD hS _ (lv_sub hl [2, 1, 0] rfl)
  refine loop59 _ _ _ _ _ _ _ _ _ _ _ _ _ _ _ _ _ _ _ _ ?_ fu _ _ h _ _ hP hD hS _ (lv_sub hl [1, 2, 0] rfl)
  intro x11 x12 h H locs hP hD hS ls hl
  try dsimp only at h
  have hP : va_P D vwCl [(zq, .inr (5, [.ref es, .ref yh, .ref tx, .ref gp, .ref gq, .int x8, .int x9, .int x10])), (es, .inr (2, [.ref esz, .ref esr, .ref esk, .ref esf, .ref esa, .ref esp, .ref est, .int estm])), (esz, .inl (k 0, 32, .inl eszo)), (esr, .inr (3, [.int 12, .int 11, .ref esrc, .int esrs])), (esrc, .inl (k 0, 132, .inl esrf)), (esf, .inr (3, [.int 8, .int 7, .ref esfc, .int esfs])), (esfc, .inl (k 0, 56, .inl esff)), (esa, .inr (3, [.int 6, .int 5, .ref esac, .int esas])), (esac, .inl (k 0, 30, .inl esaf)), (esp, .inl (k 0, 7, .inl espf)), (est, .inl (k 0, 6, .inl estf)), (tx, .inr (4, [.ref txb, .ref txt, .int txn, .int txp, .int txg, .int txe])), (yh, .inr (0, [.ref yhr, .int yhs, .int yhn]))] H := hP
  have hD : va_D A [(zq, .inr (5, [.ref es, .ref yh, .ref tx, .ref gp, .ref gq, .int x8, .int x9, .int x10])), (es, .inr (2, [.ref esz, .ref esr, .ref esk, .ref esf, .ref esa, .ref esp, .ref est, .int estm])), (esz, .inl (k 0, 32, .inl eszo)), (esr, .inr (3, [.int 12, .int 11, .ref esrc, .int esrs])), (esrc, .inl (k 0, 132, .inl esrf)), (esf, .inr (3, [.int 8, .int 7, .ref esfc, .int esfs])), (esfc, .inl (k 0, 56, .inl esff)), (esa, .inr (3, [.int 6, .int 5, .ref esac, .int esas])), (esac, .inl (k 0, 30, .inl esaf)), (esp, .inl (k 0, 7, .inl espf)), (est, .inl (k 0, 6, .inl estf)), (tx, .inr (4, [.ref txb, .ref txt, .int txn, .int txp, .int txg, .int txe])), (yh, .inr (0, [.ref yhr, .int yhs, .int yhn]))] := hD
  have hl : lv_has ls 4 [(0, .ref zq), (1, .long x11), (3, .int x12)] := hl
  refine lv_aload_n hx hb dX5_digest_88 rfl (lv_at hl 0 rfl) ?_
  refine va_get (D := D) (ci := 5) (v := .ref es) (C := RX5) (T := TX5) (N := 8) hx hb ht hiX5 hown hK hP 0 rfl rfl 0 (by decide) (ht _ wb239) (fun _ h9 => h9) rfl dX5_digest_89 ?_
  refine va_getN (D := D) (ci := 2) (v := .ref esr) (C := RX2) (T := TX2) (N := 8) hx hb ht hiX2 hown hK hP 1 rfl rfl 1 (by decide) (va_Nw.use rfl (hm.1 _ (List.mem_of_getElem? (i := 2) rfl))) (fun _ h9 => h9) rfl dX5_digest_92 ?_
  refine lv_lload_n hx hb dX5_digest_95 rfl (lv_at hl 1 rfl) ?_
  obtain ⟨r3, h3, h⟩ := zb h
  refine zl (zrV (C := RX3) (T := TX3) (N := 4) (As := [.long x11]) (rest := []) ⟨hx, hb, hml, hown, ht⟩ (c_X3_mixInto l D k esr esrc 12 11 esrs 132 esrf x11 fu h3 _) (cwV 1 ht (gdV wb754 wb755 wb756 wb74 wb757) rfl rfl rfl (by decide +kernel) ⟨Nat.le_of_ble_eq_true rfl, Nat.le_of_ble_eq_true rfl⟩) hK hP hD hS hA hm [3, 4] rfl rfl 3 3 rfl rfl rfl hl.1 rfl (Nat.le_of_ble_eq_true rfl) dX5_digest_96 ⟨Nat.le_refl _, Nat.le_refl _⟩) hP hD hS hA [3, 4] rfl rfl (fun H locs hP hD hS => ?_)
  have hP : va_P D vwCl [(zq, .inr (5, [.ref es, .ref yh, .ref tx, .ref gp, .ref gq, .int x8, .int x9, .int x10])), (es, .inr (2, [.ref esz, .ref esr, .ref esk, .ref esf, .ref esa, .ref esp, .ref est, .int estm])), (esz, .inl (k 0, 32, .inl eszo)), (esr, .inr (3, [.int 12, .int 11, .ref esrc, .int esrs])), (esrc, .inl (k 0, 132, .inl esrf)), (esf, .inr (3, [.int 8, .int 7, .ref esfc, .int esfs])), (esfc, .inl (k 0, 56, .inl esff)), (esa, .inr (3, [.int 6, .int 5, .ref esac, .int esas])), (esac, .inl (k 0, 30, .inl esaf)), (esp, .inl (k 0, 7, .inl espf)), (est, .inl (k 0, 6, .inl estf)), (tx, .inr (4, [.ref txb, .ref txt, .int txn, .int txp, .int txg, .int txe])), (yh, .inr (0, [.ref yhr, .int yhs, .int yhn]))] H := hP
  have hD : va_D A [(zq, .inr (5, [.ref es, .ref yh, .ref tx, .ref gp, .ref gq, .int x8, .int x9, .int x10])), (es, .inr (2, [.ref esz, .ref esr, .ref esk, .ref esf, .ref esa, .ref esp, .ref est, .int estm])), (esz, .inl (k 0, 32, .inl eszo)), (esr, .inr (3, [.int 12, .int 11, .ref esrc, .int esrs])), (esrc, .inl (k 0, 132, .inl esrf)), (esf, .inr (3, [.int 8, .int 7, .ref esfc, .int esfs])), (esfc, .inl (k 0, 56, .inl esff)), (esa, .inr (3, [.int 6, .int 5, .ref esac, .int esas])), (esac, .inl (k 0, 30, .inl esaf)), (esp, .inl (k 0, 7, .inl espf)), (est, .inl (k 0, 6, .inl estf)), (tx, .inr (4, [.ref txb, .ref txt, .int txn, .int txp, .int txg, .int txe])), (yh, .inr (0, [.ref yhr, .int yhs, .int yhn]))] := hD
  refine lv_lstore_n (lv' := [(1, .long r3), (0, .ref zq), (3, .int x12)]) hx hb dX5_digest_99 rfl hl (by decide) rfl (fun ls hl => ?_)
  refine lv_aload_n hx hb dX5_digest_100 rfl (lv_at hl 1 rfl) ?_
  refine va_get (D := D) (ci := 5) (v := .ref es) (C := RX5) (T := TX5) (N := 8) hx hb ht hiX5 hown hK hP 0 rfl rfl 0 (by decide) (ht _ wb239) (fun _ h9 => h9) rfl dX5_digest_101 ?_
  refine va_getN (D := D) (ci := 2) (v := .ref esf) (C := RX2) (T := TX2) (N := 8) hx hb ht hiX2 hown hK hP 1 rfl rfl 3 (by decide) (va_Nw.use rfl (hm.1 _ (List.mem_of_getElem? (i := 4) rfl))) (fun _ h9 => h9) rfl dX5_digest_104 ?_
  refine lv_lload_n hx hb dX5_digest_107 rfl (lv_at hl 0 rfl) ?_
  obtain ⟨r4, h4, h⟩ := zb h
  refine zl (zrV (C := RX3) (T := TX3) (N := 4) (As := [.long r3]) (rest := []) ⟨hx, hb, hml, hown, ht⟩ (c_X3_mixInto l D k esf esfc 8 7 esfs 56 esff r3 fu h4 _) (cwV 1 ht (gdV wb754 wb755 wb756 wb74 wb757) rfl rfl rfl (by decide +kernel) ⟨Nat.le_of_ble_eq_true rfl, Nat.le_of_ble_eq_true rfl⟩) hK hP hD hS hA hm [5, 6] rfl rfl 5 3 rfl rfl rfl hl.1 rfl (Nat.le_of_ble_eq_true rfl) dX5_digest_108 ⟨Nat.le_refl _, Nat.le_refl _⟩) hP hD hS hA [5, 6] rfl rfl (fun H locs hP hD hS => ?_)
  have hP : va_P D vwCl [(zq, .inr (5, [.ref es, .ref yh, .ref tx, .ref gp, .ref gq, .int x8, .int x9, .int x10])), (es, .inr (2, [.ref esz, .ref esr, .ref esk, .ref esf, .ref esa, .ref esp, .ref est, .int estm])), (esz, .inl (k 0, 32, .inl eszo)), (esr, .inr (3, [.int 12, .int 11, .ref esrc, .int esrs])), (esrc, .inl (k 0, 132, .inl esrf)), (esf, .inr (3, [.int 8, .int 7, .ref esfc, .int esfs])), (esfc, .inl (k 0, 56, .inl esff)), (esa, .inr (3, [.int 6, .int 5, .ref esac, .int esas])), (esac, .inl (k 0, 30, .inl esaf)), (esp, .inl (k 0, 7, .inl espf)), (est, .inl (k 0, 6, .inl estf)), (tx, .inr (4, [.ref txb, .ref txt, .int txn, .int txp, .int txg, .int txe])), (yh, .inr (0, [.ref yhr, .int yhs, .int yhn]))] H := hP
  have hD : va_D A [(zq, .inr (5, [.ref es, .ref yh, .ref tx, .ref gp, .ref gq, .int x8, .int x9, .int x10])), (es, .inr (2, [.ref esz, .ref esr, .ref esk, .ref esf, .ref esa, .ref esp, .ref est, .int estm])), (esz, .inl (k 0, 32, .inl eszo)), (esr, .inr (3, [.int 12, .int 11, .ref esrc, .int esrs])), (esrc, .inl (k 0, 132, .inl esrf)), (esf, .inr (3, [.int 8, .int 7, .ref esfc, .int esfs])), (esfc, .inl (k 0, 56, .inl esff)), (esa, .inr (3, [.int 6, .int 5, .ref esac, .int esas])), (esac, .inl (k 0, 30, .inl esaf)), (esp, .inl (k 0, 7, .inl espf)), (est, .inl (k 0, 6, .inl estf)), (tx, .inr (4, [.ref txb, .ref txt, .int txn, .int txp, .int txg, .int txe])), (yh, .inr (0, [.ref yhr, .int yhs, .int yhn]))] := hD
  refine lv_lstore_n (lv' := [(1, .long r4), (0, .ref zq), (3, .int x12)]) hx hb dX5_digest_111 rfl hl (by decide) rfl (fun ls hl => ?_)
  refine lv_iconst (v := 0) hx hb dX5_digest_112 (by decide) ?_
  refine lv_istore_n (lv' := [(3, .int 0), (1, .long r4), (0, .ref zq)]) hx hb dX5_digest_113 rfl hl (by decide) rfl (fun ls hl => ?_)
  have loop114 : ∀ (b0 : Int32) (b1 : Int32) (b2 : Int32) (estm : Int32) (eszo : Nat → Int32) (esrs : Int32) (esrf : Nat → Int32) (esfs : Int32) (esff : Nat → Int32) (esas : Int32) (esaf : Nat → Int32) (espf : Nat → Int32) (estf : Nat → Int32) (txn : Int32) (txp : Int32) (txg : Int32) (txe : Int32) (yhs : Int32) (yhn : Int32), ∀ (K : Int64 → Int32 → Option (Int64 × Int32 × Int32 × Int32)), (∀ (v1 : Int64) (v3 : Int32), K v1 v3 = some res → ∀ (H : Heap) (locs : List Loc), va_P D vwCl [(zq, .inr (5, [.ref es, .ref yh, .ref tx, .ref gp, .ref gq, .int b0, .int b1, .int b2])), (es, .inr (2, [.ref esz, .ref esr, .ref esk, .ref esf, .ref esa, .ref esp, .ref est, .int estm])), (esz, .inl (k 0, 32, .inl eszo)), (esr, .inr (3, [.int 12, .int 11, .ref esrc, .int esrs])), (esrc, .inl (k 0, 132, .inl esrf)), (esf, .inr (3, [.int 8, .int 7, .ref esfc, .int esfs])), (esfc, .inl (k 0, 56, .inl esff)), (esa, .inr (3, [.int 6, .int 5, .ref esac, .int esas])), (esac, .inl (k 0, 30, .inl esaf)), (esp, .inl (k 0, 7, .inl espf)), (est, .inl (k 0, 6, .inl estf)), (tx, .inr (4, [.ref txb, .ref txt, .int txn, .int txp, .int txg, .int txe])), (yh, .inr (0, [.ref yhr, .int yhs, .int yhn]))] H → va_D A [(zq, .inr (5, [.ref es, .ref yh, .ref tx, .ref gp, .ref gq, .int b0, .int b1, .int b2])), (es, .inr (2, [.ref esz, .ref esr, .ref esk, .ref esf, .ref esa, .ref esp, .ref est, .int estm])), (esz, .inl (k 0, 32, .inl eszo)), (esr, .inr (3, [.int 12, .int 11, .ref esrc, .int esrs])), (esrc, .inl (k 0, 132, .inl esrf)), (esf, .inr (3, [.int 8, .int 7, .ref esfc, .int esfs])), (esfc, .inl (k 0, 56, .inl esff)), (esa, .inr (3, [.int 6, .int 5, .ref esac, .int esas])), (esac, .inl (k 0, 30, .inl esaf)), (esp, .inl (k 0, 7, .inl espf)), (est, .inl (k 0, 6, .inl estf)), (tx, .inr (4, [.ref txb, .ref txt, .int txn, .int txp, .int txg, .int txe])), (yh, .inr (0, [.ref yhr, .int yhs, .int yhn]))] → va_S A s.heap H locs → ∀ ls : Array Slot, lv_has ls 4 [(0, .ref zq), (1, .long v1), (3, .int v3)] → W p l e (headSpec wk_X5_digest rm_X5_digest).room s m ([.ref zq] : List Value).toArray below meth c H locs 0 0 (MQ below (va_Ql (fun xq9 (_ : Unit) => xq9 = res.1) (fun _ tq9 => va_P D vwCl [(zq, .inr (5, [.ref es, .ref yh, .ref tx, .ref gp, .ref gq, .int res.2.1, .int res.2.2.1, .int res.2.2.2])), (es, .inr (2, [.ref esz, .ref esr, .ref esk, .ref esf, .ref esa, .ref esp, .ref est, .int estm])), (esz, .inl (k 0, 32, .inl eszo)), (esr, .inr (3, [.int 12, .int 11, .ref esrc, .int esrs])), (esrc, .inl (k 0, 132, .inl esrf)), (esf, .inr (3, [.int 8, .int 7, .ref esfc, .int esfs])), (esfc, .inl (k 0, 56, .inl esff)), (esa, .inr (3, [.int 6, .int 5, .ref esac, .int esas])), (esac, .inl (k 0, 30, .inl esaf)), (esp, .inl (k 0, 7, .inl espf)), (est, .inl (k 0, 6, .inl estf)), (tx, .inr (4, [.ref txb, .ref txt, .int txn, .int txp, .int txg, .int txe])), (yh, .inr (0, [.ref yhr, .int yhs, .int yhn]))] tq9.heap) A) ([.ref zq] : List Value).toArray s 0 0 A) (F0 m 143 ls [])) → ∀ (n : Nat) (v1 : Int64) (v3 : Int32), f_X5_digest_L114 fu K espf n v1 v3 = some res → ∀ (H : Heap) (locs : List Loc), va_P D vwCl [(zq, .inr (5, [.ref es, .ref yh, .ref tx, .ref gp, .ref gq, .int b0, .int b1, .int b2])), (es, .inr (2, [.ref esz, .ref esr, .ref esk, .ref esf, .ref esa, .ref esp, .ref est, .int estm])), (esz, .inl (k 0, 32, .inl eszo)), (esr, .inr (3, [.int 12, .int 11, .ref esrc, .int esrs])), (esrc, .inl (k 0, 132, .inl esrf)), (esf, .inr (3, [.int 8, .int 7, .ref esfc, .int esfs])), (esfc, .inl (k 0, 56, .inl esff)), (esa, .inr (3, [.int 6, .int 5, .ref esac, .int esas])), (esac, .inl (k 0, 30, .inl esaf)), (esp, .inl (k 0, 7, .inl espf)), (est, .inl (k 0, 6, .inl estf)), (tx, .inr (4, [.ref txb, .ref txt, .int txn, .int txp, .int txg, .int txe])), (yh, .inr (0, [.ref yhr, .int yhs, .int yhn]))] H → va_D A [(zq, .inr (5, [.ref es, .ref yh, .ref tx, .ref gp, .ref gq, .int b0, .int b1, .int b2])), (es, .inr (2, [.ref esz, .ref esr, .ref esk, .ref esf, .ref esa, .ref esp, .ref est, .int estm])), (esz, .inl (k 0, 32, .inl eszo)), (esr, .inr (3, [.int 12, .int 11, .ref esrc, .int esrs])), (esrc, .inl (k 0, 132, .inl esrf)), (esf, .inr (3, [.int 8, .int 7, .ref esfc, .int esfs])), (esfc, .inl (k 0, 56, .inl esff)), (esa, .inr (3, [.int 6, .int 5, .ref esac, .int esas])), (esac, .inl (k 0, 30, .inl esaf)), (esp, .inl (k 0, 7, .inl espf)), (est, .inl (k 0, 6, .inl estf)), (tx, .inr (4, [.ref txb, .ref txt, .int txn, .int txp, .int txg, .int txe])), (yh, .inr (0, [.ref yhr, .int yhs, .int yhn]))] → va_S A s.heap H locs → ∀ ls : Array Slot, lv_has ls 4 [(0, .ref zq), (1, .long v1), (3, .int v3)] → W p l e (headSpec wk_X5_digest rm_X5_digest).room s m ([.ref zq] : List Value).toArray below meth c H locs 0 0 (MQ below (va_Ql (fun xq9 (_ : Unit) => xq9 = res.1) (fun _ tq9 => va_P D vwCl [(zq, .inr (5, [.ref es, .ref yh, .ref tx, .ref gp, .ref gq, .int res.2.1, .int res.2.2.1, .int res.2.2.2])), (es, .inr (2, [.ref esz, .ref esr, .ref esk, .ref esf, .ref esa, .ref esp, .ref est, .int estm])), (esz, .inl (k 0, 32, .inl eszo)), (esr, .inr (3, [.int 12, .int 11, .ref esrc, .int esrs])), (esrc, .inl (k 0, 132, .inl esrf)), (esf, .inr (3, [.int 8, .int 7, .ref esfc, .int esfs])), (esfc, .inl (k 0, 56, .inl esff)), (esa, .inr (3, [.int 6, .int 5, .ref esac, .int esas])), (esac, .inl (k 0, 30, .inl esaf)), (esp, .inl (k 0, 7, .inl espf)), (est, .inl (k 0, 6, .inl estf)), (tx, .inr (4, [.ref txb, .ref txt, .int txn, .int txp, .int txg, .int txe])), (yh, .inr (0, [.ref yhr, .int yhs, .int yhn]))] tq9.heap) A) ([.ref zq] : List Value).toArray s 0 0 A) (F0 m 114 ls []) := by
    intro b0 b1 b2 estm eszo esrs esrf esfs esff esas esaf espf estf txn txp txg txe yhs yhn K hKK n
    induction n with
    | zero =>
      intro v1 v3 h
      rw [f_X5_digest_L114] at h
      cases h
    | succ n ih =>
      intro v1 v3 h H locs hP hD hS ls hl
      rw [f_X5_digest_L114] at h
      refine lv_iload_n hx hb dX5_digest_114 rfl (lv_at hl 2 rfl) ?_
      refine lv_bipush (v := 7) hx hb dX5_digest_115 (by decide) ?_
      refine lv_icmp_ge (tgt := 143) hx hb dX5_digest_117 (by decide) (fun c4 => ?_) (fun c4 => ?_)
      · have h := zt h c4
        exact hKK _ _ h _ _ hP hD hS _ (lv_sub hl [0, 1, 2] rfl)
      · have h := zf h c4
        refine lv_ldc2 (v := 31) hx hb hown (ht _ wb751) dX5_digest_120 ?_
        refine lv_lload_n hx hb dX5_digest_123 rfl (lv_at hl 1 rfl) ?_
        refine lv_lmul hx hb dX5_digest_124 ?_
        refine lv_aload_n hx hb dX5_digest_125 rfl (lv_at hl 0 rfl) ?_
        refine va_get (D := D) (ci := 5) (v := .ref es) (C := RX5) (T := TX5) (N := 8) hx hb ht hiX5 hown hK hP 0 rfl rfl 0 (by decide) (ht _ wb239) (fun _ h9 => h9) rfl dX5_digest_126 ?_
        refine va_getN (D := D) (ci := 2) (v := .ref esp) (C := RX2) (T := TX2) (N := 8) hx hb ht hiX2 hown hK hP 1 rfl rfl 5 (by decide) (va_Nw.use rfl (hm.1 _ (List.mem_of_getElem? (i := 6) rfl))) (fun _ h9 => h9) rfl dX5_digest_129 ?_
        refine lv_iload_n hx hb dX5_digest_132 rfl (lv_at hl 2 rfl) ?_
        obtain ⟨hi2, h⟩ := zg h
        refine va_iald hx hb hK hP 9 0 rfl rfl hi2 dX5_digest_133 ?_
        refine lv_i2l (v := Int32.toInt64 (espf (Int32.toNatClampNeg v3))) hx hb dX5_digest_134 rfl ?_
        refine lv_ladd hx hb dX5_digest_135 ?_
        refine lv_lstore_n (lv' := [(1, .long ((31 * v1) + (Int32.toInt64 (espf (Int32.toNatClampNeg v3))))), (0, .ref zq), (3, .int v3)]) hx hb dX5_digest_136 rfl hl (by decide) rfl (fun ls hl => ?_)
        refine lv_iinc (v := v3 + 1) (lv' := [(3, .int (v3 + 1)), (1, .long ((31 * v1) + (Int32.toInt64 (espf (Int32.toNatClampNeg v3))))), (0, .ref zq)]) hx hb dX5_digest_137 hl (k := 2) rfl rfl (by decide) rfl (fun ls hl => ?_)
        refine lv_goto (tgt := 114) hx hb dX5_digest_140 (by decide) ?_
        exact ih _ _ h _ _ hP hD hS _ (lv_sub hl [2, 1, 0] rfl)
  refine loop114 _ _ _ _ _ _ _ _ _ _ _ _ _ _ _ _ _ _ _ _ ?_ fu _ _ h _ _ hP hD hS _ (lv_sub hl [2, 1, 0] rfl)
  intro x13 x14 h H locs hP hD hS ls hl
  try dsimp only at h
  have hP : va_P D vwCl [(zq, .inr (5, [.ref es, .ref yh, .ref tx, .ref gp, .ref gq, .int x8, .int x9, .int x10])), (es, .inr (2, [.ref esz, .ref esr, .ref esk, .ref esf, .ref esa, .ref esp, .ref est, .int estm])), (esz, .inl (k 0, 32, .inl eszo)), (esr, .inr (3, [.int 12, .int 11, .ref esrc, .int esrs])), (esrc, .inl (k 0, 132, .inl esrf)), (esf, .inr (3, [.int 8, .int 7, .ref esfc, .int esfs])), (esfc, .inl (k 0, 56, .inl esff)), (esa, .inr (3, [.int 6, .int 5, .ref esac, .int esas])), (esac, .inl (k 0, 30, .inl esaf)), (esp, .inl (k 0, 7, .inl espf)), (est, .inl (k 0, 6, .inl estf)), (tx, .inr (4, [.ref txb, .ref txt, .int txn, .int txp, .int txg, .int txe])), (yh, .inr (0, [.ref yhr, .int yhs, .int yhn]))] H := hP
  have hD : va_D A [(zq, .inr (5, [.ref es, .ref yh, .ref tx, .ref gp, .ref gq, .int x8, .int x9, .int x10])), (es, .inr (2, [.ref esz, .ref esr, .ref esk, .ref esf, .ref esa, .ref esp, .ref est, .int estm])), (esz, .inl (k 0, 32, .inl eszo)), (esr, .inr (3, [.int 12, .int 11, .ref esrc, .int esrs])), (esrc, .inl (k 0, 132, .inl esrf)), (esf, .inr (3, [.int 8, .int 7, .ref esfc, .int esfs])), (esfc, .inl (k 0, 56, .inl esff)), (esa, .inr (3, [.int 6, .int 5, .ref esac, .int esas])), (esac, .inl (k 0, 30, .inl esaf)), (esp, .inl (k 0, 7, .inl espf)), (est, .inl (k 0, 6, .inl estf)), (tx, .inr (4, [.ref txb, .ref txt, .int txn, .int txp, .int txg, .int txe])), (yh, .inr (0, [.ref yhr, .int yhs, .int yhn]))] := hD
  have hl : lv_has ls 4 [(0, .ref zq), (1, .long x13), (3, .int x14)] := hl
  refine lv_lload_n hx hb dX5_digest_143 rfl (lv_at hl 1 rfl) ?_
  obtain rfl := Option.some.inj h
  exact W.lret (v := x13) hx hb hr (fun t ht9 hW => ⟨⟨_, (), rfl, rfl, zend ht9 hP⟩, hS.F ht9⟩) hS.2.2 dX5_digest_144
