def f_X1_forget   : Option (Int32 × Int32 × Int32) :=
  some (0, 0, 0)
abbrev wk_X1_forget : List Cond := Cond.code yX1_forget cX1_forget 1 none :: WB
abbrev rm_X1_forget : Room := { frames := 0, cells := 0, slots := 0, locals := 0 }
set_option maxHeartbeats 4000000 in
set_option maxRecDepth 100000 in
theorem c_X1_forget (l : Launch) (D : va_G) (k : Nat → Nat) (gp gpa gpb gpc gpd : Nat) (gpsz : Int32) (gpsn : Int32) (gpal : Int32) (gpre : Int32)  {res : Int32 × Int32 × Int32} (h : f_X1_forget   = some res) : Cv l yX1_forget wk_X1_forget rm_X1_forget D k [.ref gp] [(gp, .inr (1, [.ref gpa, .ref gpb, .ref gpc, .ref gpd, .int gpsz, .int gpsn, .int gpal, .int gpre]))] [(gp, .inr (1, [.ref gpa, .ref gpb, .ref gpc, .ref gpd, .int gpsz, .int res.1, .int res.2.1, .int res.2.2]))] := by
  unfold Cv
  intro sz
  refine Met.ofW (cc := cX1_forget) (maxL := 1) (ret := none) (by decide) rfl ?_
  intro p e s m args below meth c s₁ B hml hv
  obtain ⟨rfl, hsz, hP, hK, hD0, hm⟩ := hv
  have hx := B.exec
  have hb := B.bytes
  have hr := B.returns
  have ht : ∀ w ∈ WB, w.before _ s = true := fun w hw => atoms_spec (ws := wk_X1_forget) B.pre w (List.mem_cons_of_mem _ hw)
  have hown : s.vm.findClass RX1 = some m.cls := findClass_of_methodNamed B.named
  have hlocks := B.notSynchronized
  subst hsz
  have hD := hD0.self (sz := s.heap.size)
  generalize hAe : va_A [(gp, .inr (1, [.ref gpa, .ref gpb, .ref gpc, .ref gpd, .int gpsz, .int gpsn, .int gpal, .int gpre]))] s.heap.size = A at hD hm ⊢
  have hA : ∀ q : Nat, s.heap.size ≤ q → A q := fun q h => by rw [← hAe]; exact Or.inr h
  have hS : va_S A s.heap s.heap [] := va_S.rf
  have hl := lv_entry ([.ref gp]) (n := 1) (Nat.le_of_ble_eq_true rfl)
  rw [lg_entry_eq]
  generalize (lg_sl ([.ref gp]) ++ List.replicate (1 - (lg_sl ([.ref gp])).length) Slot.unset).toArray = ls at hl ⊢
  have hl : lv_has ls 1 [(0, .ref gp)] := hl
  obtain ⟨H, hH⟩ : ∃ H, H = s.heap := ⟨_, rfl⟩
  rw [← hH] at hP
  have hS : va_S A s.heap H [] := by rw [hH]; exact hS
  suffices hgo : W p l e _ s m _ below meth c H [] 0 0 _ _ by rw [hH] at hgo; exact hgo
  unfold f_X1_forget at h
  refine lv_aload_n hx hb dX1_forget_0 rfl (lv_at hl 0 rfl) ?_
  refine lv_iconst (v := 0) hx hb dX1_forget_1 (by decide) ?_
  refine va_put (D := D) (ci := 1) (v := .int 0) (ty := .int) (C := RX1) (T := TX1) (N := 8) hx hb ht hiX1 tyX1 tyX1_ok nmX1 hown hK hP hD hS 0 rfl rfl 5 (by decide) (ht _ wb219) (fun _ h9 => h9) rfl (by decide +kernel) rfl rfl (Nat.le_of_ble_eq_true rfl) dX1_forget_2 (fun H locs hP hD hS => ?_)
  have hP : va_P D vwCl [(gp, .inr (1, [.ref gpa, .ref gpb, .ref gpc, .ref gpd, .int gpsz, .int 0, .int gpal, .int gpre]))] H := hP
  have hD : va_D A [(gp, .inr (1, [.ref gpa, .ref gpb, .ref gpc, .ref gpd, .int gpsz, .int 0, .int gpal, .int gpre]))] := hD
  refine lv_aload_n hx hb dX1_forget_5 rfl (lv_at hl 0 rfl) ?_
  refine lv_iconst (v := 0) hx hb dX1_forget_6 (by decide) ?_
  refine va_put (D := D) (ci := 1) (v := .int 0) (ty := .int) (C := RX1) (T := TX1) (N := 8) hx hb ht hiX1 tyX1 tyX1_ok nmX1 hown hK hP hD hS 0 rfl rfl 6 (by decide) (ht _ wb220) (fun _ h9 => h9) rfl (by decide +kernel) rfl rfl (Nat.le_of_ble_eq_true rfl) dX1_forget_7 (fun H locs hP hD hS => ?_)
  have hP : va_P D vwCl [(gp, .inr (1, [.ref gpa, .ref gpb, .ref gpc, .ref gpd, .int gpsz, .int 0, .int 0, .int gpre]))] H := hP
  have hD : va_D A [(gp, .inr (1, [.ref gpa, .ref gpb, .ref gpc, .ref gpd, .int gpsz, .int 0, .int 0, .int gpre]))] := hD
  refine lv_aload_n hx hb dX1_forget_10 rfl (lv_at hl 0 rfl) ?_
  refine lv_iconst (v := 0) hx hb dX1_forget_11 (by decide) ?_
  refine va_put (D := D) (ci := 1) (v := .int 0) (ty := .int) (C := RX1) (T := TX1) (N := 8) hx hb ht hiX1 tyX1 tyX1_ok nmX1 hown hK hP hD hS 0 rfl rfl 7 (by decide) (ht _ wb221) (fun _ h9 => h9) rfl (by decide +kernel) rfl rfl (Nat.le_of_ble_eq_true rfl) dX1_forget_12 (fun H locs hP hD hS => ?_)
  have hP : va_P D vwCl [(gp, .inr (1, [.ref gpa, .ref gpb, .ref gpc, .ref gpd, .int gpsz, .int 0, .int 0, .int 0]))] H := hP
  have hD : va_D A [(gp, .inr (1, [.ref gpa, .ref gpb, .ref gpc, .ref gpd, .int gpsz, .int 0, .int 0, .int 0]))] := hD
  obtain rfl := Option.some.inj h
  exact W.vret hx hb hr (fun t ht9 hW => ⟨⟨(), rfl, trivial, zend ht9 hP⟩, hS.F ht9⟩) hS.2.2 dX1_forget_15
def f_X1_silence (gpfc : Nat → Int32) (a1 : Int32) : Option (Int32 × Int32 × Int32 × (Nat → Int32)) :=
  (f_X5_within  a1 0 11).bind fun r1 => if (zB r1) = 0 then ((f_X1_forget  ).bind fun r2 => some (r2.1, r2.2.1, r2.2.2, gpfc)) else (if zok a1 12 then ((f_X1_forget  ).bind fun r3 => some (r3.1, r3.2.1, r3.2.2, upd gpfc (Int32.toNatClampNeg a1) 0)) else none)
abbrev wk_X1_silence : List Cond := Cond.code yX1_silence cX1_silence 2 none :: WB
abbrev rm_X1_silence : Room := { frames := 1, cells := 0, slots := 0, locals := 22 }
set_option maxHeartbeats 4000000 in
set_option maxRecDepth 100000 in
theorem c_X1_silence (l : Launch) (D : va_G) (k : Nat → Nat) (gp gpa gpb gpc gpd : Nat) (gpsz : Int32) (gpsn : Int32) (gpal : Int32) (gpre : Int32) (gpfc : Nat → Int32) (a1 : Int32) {res : Int32 × Int32 × Int32 × (Nat → Int32)} (h : f_X1_silence gpfc a1 = some res) : Cv l yX1_silence wk_X1_silence rm_X1_silence D k [.ref gp, .int a1] [(gp, .inr (1, [.ref gpa, .ref gpb, .ref gpc, .ref gpd, .int gpsz, .int gpsn, .int gpal, .int gpre])), (gpc, .inl (k 0, 12, .inl gpfc))] [(gp, .inr (1, [.ref gpa, .ref gpb, .ref gpc, .ref gpd, .int gpsz, .int res.1, .int res.2.1, .int res.2.2.1])), (gpc, .inl (k 0, 12, .inl res.2.2.2))] := by
  unfold Cv
  intro sz
  refine Met.ofW (cc := cX1_silence) (maxL := 2) (ret := none) (by decide) rfl ?_
  intro p e s m args below meth c s₁ B hml hv
  obtain ⟨rfl, hsz, hP, hK, hD0, hm⟩ := hv
  have hx := B.exec
  have hb := B.bytes
  have hr := B.returns
  have ht : ∀ w ∈ WB, w.before _ s = true := fun w hw => atoms_spec (ws := wk_X1_silence) B.pre w (List.mem_cons_of_mem _ hw)
  have hown : s.vm.findClass RX1 = some m.cls := findClass_of_methodNamed B.named
  have hlocks := B.notSynchronized
  subst hsz
  have hD := hD0.self (sz := s.heap.size)
  generalize hAe : va_A [(gp, .inr (1, [.ref gpa, .ref gpb, .ref gpc, .ref gpd, .int gpsz, .int gpsn, .int gpal, .int gpre])), (gpc, .inl (k 0, 12, .inl gpfc))] s.heap.size = A at hD hm ⊢
  have hA : ∀ q : Nat, s.heap.size ≤ q → A q := fun q h => by rw [← hAe]; exact Or.inr h
  have hS : va_S A s.heap s.heap [] := va_S.rf
  have hl := lv_entry ([.ref gp, .int a1]) (n := 2) (Nat.le_of_ble_eq_true rfl)
  rw [lg_entry_eq]
  generalize (lg_sl ([.ref gp, .int a1]) ++ List.replicate (2 - (lg_sl ([.ref gp, .int a1])).length) Slot.unset).toArray = ls at hl ⊢
  have hl : lv_has ls 2 [(0, .ref gp), (1, .int a1)] := hl
  obtain ⟨H, hH⟩ : ∃ H, H = s.heap := ⟨_, rfl⟩
  rw [← hH] at hP
  have hS : va_S A s.heap H [] := by rw [hH]; exact hS
  suffices hgo : W p l e _ s m _ below meth c H [] 0 0 _ _ by rw [hH] at hgo; exact hgo
  unfold f_X1_silence at h
  refine lv_iload_n hx hb dX1_silence_0 rfl (lv_at hl 1 rfl) ?_
  refine lv_iconst (v := 0) hx hb dX1_silence_1 (by decide) ?_
  refine lv_bipush (v := 11) hx hb dX1_silence_2 (by decide) ?_
  obtain ⟨r1, h1, h⟩ := zb h
  refine zi (zrN (As := [.int a1, .int 0, .int 11]) (rest := []) ⟨hx, hb, hml, hown, ht⟩ (c_X5_within l D k   a1 0 11 h1 _) ⟨va_cnB 3 ht (gdN wb270) rfl rfl rfl (hm.1 _ (List.mem_of_getElem? (i := 18) rfl)) (ht _ wb72) (by decide +kernel) ⟨Nat.le_of_ble_eq_true rfl, Nat.le_of_ble_eq_true rfl⟩, ht _ wb269, trivial⟩ hK hP hD hS hA hm [] rfl rfl rfl hl.1 rfl (Nat.le_of_ble_eq_true rfl) dX1_silence_4 ⟨Nat.le_refl _, Nat.le_refl _⟩) hP hD hS hA [] rfl rfl (fun H locs hP hD hS => ?_)
  have hP : va_P D vwCl [(gp, .inr (1, [.ref gpa, .ref gpb, .ref gpc, .ref gpd, .int gpsz, .int gpsn, .int gpal, .int gpre])), (gpc, .inl (k 0, 12, .inl gpfc))] H := hP
  have hD : va_D A [(gp, .inr (1, [.ref gpa, .ref gpb, .ref gpc, .ref gpd, .int gpsz, .int gpsn, .int gpal, .int gpre])), (gpc, .inl (k 0, 12, .inl gpfc))] := hD
  refine lv_if_eq (tgt := 17) hx hb dX1_silence_7 (by decide) (fun c1 => ?_) (fun c1 => ?_)
  · have h := zt h c1
    refine lv_aload_n hx hb dX1_silence_17 rfl (lv_at hl 0 rfl) ?_
    obtain ⟨r2, h2, h⟩ := zb h
    refine zv (zrV (C := RX1) (T := TX1) (N := 8) (As := []) (rest := []) ⟨hx, hb, hml, hown, ht⟩ (c_X1_forget l D k gp gpa gpb gpc gpd gpsz gpsn gpal gpre  h2 _) (cwV 0 ht (gdV wb424 wb426 wb6 wb79 wb427) rfl rfl rfl (by decide +kernel) ⟨Nat.le_of_ble_eq_true rfl, Nat.le_of_ble_eq_true rfl⟩) hK hP hD hS hA hm [0] rfl rfl 0 1 rfl rfl rfl hl.1 rfl (Nat.le_of_ble_eq_true rfl) dX1_silence_18 ⟨Nat.le_refl _, Nat.le_refl _⟩) hP hD hS hA [0] rfl rfl (fun H locs hP hD hS => ?_)
    have hP : va_P D vwCl [(gp, .inr (1, [.ref gpa, .ref gpb, .ref gpc, .ref gpd, .int gpsz, .int r2.1, .int r2.2.1, .int r2.2.2])), (gpc, .inl (k 0, 12, .inl gpfc))] H := hP
    have hD : va_D A [(gp, .inr (1, [.ref gpa, .ref gpb, .ref gpc, .ref gpd, .int gpsz, .int r2.1, .int r2.2.1, .int r2.2.2])), (gpc, .inl (k 0, 12, .inl gpfc))] := hD
    obtain rfl := Option.some.inj h
    exact W.vret hx hb hr (fun t ht9 hW => ⟨⟨(), rfl, trivial, zend ht9 hP⟩, hS.F ht9⟩) hS.2.2 dX1_silence_21
  · have h := zf h c1
    refine lv_aload_n hx hb dX1_silence_10 rfl (lv_at hl 0 rfl) ?_
    refine va_get (D := D) (ci := 1) (v := .ref gpc) (C := RX1) (T := TX1) (N := 8) hx hb ht hiX1 hown hK hP 0 rfl rfl 2 (by decide) (ht _ wb216) (fun _ h9 => h9) rfl dX1_silence_11 ?_
    refine lv_iload_n hx hb dX1_silence_14 rfl (lv_at hl 1 rfl) ?_
    refine lv_iconst (v := 0) hx hb dX1_silence_15 (by decide) ?_
    obtain ⟨hi1, h⟩ := zg h
    refine va_iast hx hb hK hP hD hS 1 0 rfl rfl hi1 dX1_silence_16 (fun H locs hP hD hS => ?_)
    have hP : va_P D vwCl [(gp, .inr (1, [.ref gpa, .ref gpb, .ref gpc, .ref gpd, .int gpsz, .int gpsn, .int gpal, .int gpre])), (gpc, .inl (k 0, 12, .inl (upd gpfc (Int32.toNatClampNeg a1) 0)))] H := hP
    have hD : va_D A [(gp, .inr (1, [.ref gpa, .ref gpb, .ref gpc, .ref gpd, .int gpsz, .int gpsn, .int gpal, .int gpre])), (gpc, .inl (k 0, 12, .inl (upd gpfc (Int32.toNatClampNeg a1) 0)))] := hD
    refine lv_aload_n hx hb dX1_silence_17 rfl (lv_at hl 0 rfl) ?_
    obtain ⟨r3, h3, h⟩ := zb h
    refine zv (zrV (C := RX1) (T := TX1) (N := 8) (As := []) (rest := []) ⟨hx, hb, hml, hown, ht⟩ (c_X1_forget l D k gp gpa gpb gpc gpd gpsz gpsn gpal gpre  h3 _) (cwV 0 ht (gdV wb424 wb426 wb6 wb79 wb427) rfl rfl rfl (by decide +kernel) ⟨Nat.le_of_ble_eq_true rfl, Nat.le_of_ble_eq_true rfl⟩) hK hP hD hS hA hm [0] rfl rfl 0 1 rfl rfl rfl hl.1 rfl (Nat.le_of_ble_eq_true rfl) dX1_silence_18 ⟨Nat.le_refl _, Nat.le_refl _⟩) hP hD hS hA [0] rfl rfl (fun H locs hP hD hS => ?_)
    have hP : va_P D vwCl [(gp, .inr (1, [.ref gpa, .ref gpb, .ref gpc, .ref gpd, .int gpsz, .int r3.1, .int r3.2.1, .int r3.2.2])), (gpc, .inl (k 0, 12, .inl (upd gpfc (Int32.toNatClampNeg a1) 0)))] H := hP
    have hD : va_D A [(gp, .inr (1, [.ref gpa, .ref gpb, .ref gpc, .ref gpd, .int gpsz, .int r3.1, .int r3.2.1, .int r3.2.2])), (gpc, .inl (k 0, 12, .inl (upd gpfc (Int32.toNatClampNeg a1) 0)))] := hD
    obtain rfl := Option.some.inj h
    exact W.vret hx hb hr (fun t ht9 hW => ⟨⟨(), rfl, trivial, zend ht9 hP⟩, hS.F ht9⟩) hS.2.2 dX1_silence_21
def f_X1_fittingEnd_L6 (fu : Nat) (K : Int32 → Int32 → Option (Int32)) (v2 : Int32) (v3 : Int32) (v4 : Int32) (gpsz : Int32) (tw : Int32) (ts : Int32) (tn : Nat) (tf : Nat → Int32) : Nat → Int32 → Int32 → Option (Int32)
  | 0, _, _ => none
  | n + 1, v5, v6 =>
  if gpsz ≤ v6 then (K v5 v6) else ((f_X5_fitsEnd tw ts tn tf v6 v2 v3 v4).bind fun r1 => if (zB r1) = 0 then (f_X1_fittingEnd_L6 fu K v2 v3 v4 gpsz tw ts tn tf n v5 (v6 + 1)) else (f_X1_fittingEnd_L6 fu K v2 v3 v4 gpsz tw ts tn tf n (v5 ||| (1 <<< (v6 &&& 31))) (v6 + 1)))
def f_X1_fittingEnd (fu : Nat) (gpsz : Int32) (tw : Int32) (ts : Int32) (tn : Nat) (tf : Nat → Int32) (a1 : Int32) (a2 : Int32) (a3 : Int32) : Option (Int32) :=
  f_X1_fittingEnd_L6 fu (fun (x1 : Int32) (x2 : Int32) => some (x1)) a1 a2 a3 gpsz tw ts tn tf fu 0 0
abbrev wk_X1_fittingEnd : List Cond := Cond.code yX1_fittingEnd cX1_fittingEnd 7 (some .int) :: WB
abbrev rm_X1_fittingEnd : Room := { frames := 3, cells := 0, slots := 0, locals := 71 }
set_option maxHeartbeats 4000000 in
set_option maxRecDepth 100000 in
theorem c_X1_fittingEnd (l : Launch) (D : va_G) (k : Nat → Nat) (gp gpa gpb gpc gpd t tc : Nat) (gpsz : Int32) (gpsn : Int32) (gpal : Int32) (gpre : Int32) (tl : Int32) (tw : Int32) (ts : Int32) (tn : Nat) (tf : Nat → Int32) (a1 : Int32) (a2 : Int32) (a3 : Int32) (fu : Nat) {res : Int32} (h : f_X1_fittingEnd fu gpsz tw ts tn tf a1 a2 a3 = some res) : Ci l yX1_fittingEnd wk_X1_fittingEnd rm_X1_fittingEnd D k [.ref gp, .ref t, .int a1, .int a2, .int a3] [(gp, .inr (1, [.ref gpa, .ref gpb, .ref gpc, .ref gpd, .int gpsz, .int gpsn, .int gpal, .int gpre])), (t, .inr (3, [.int tl, .int tw, .ref tc, .int ts])), (tc, .inl (k 0, tn, .inl tf))] [(gp, .inr (1, [.ref gpa, .ref gpb, .ref gpc, .ref gpd, .int gpsz, .int gpsn, .int gpal, .int gpre])), (t, .inr (3, [.int tl, .int tw, .ref tc, .int ts])), (tc, .inl (k 0, tn, .inl tf))] res := by
  unfold Ci
  intro sz
  refine Met.ofW (cc := cX1_fittingEnd) (maxL := 7) (ret := (some .int)) (by decide) rfl ?_
  intro p e s m args below meth c s₁ B hml hv
  obtain ⟨rfl, hsz, hP, hK, hD0, hm⟩ := hv
  have hx := B.exec
  have hb := B.bytes
  have hr := B.returns
  have ht : ∀ w ∈ WB, w.before _ s = true := fun w hw => atoms_spec (ws := wk_X1_fittingEnd) B.pre w (List.mem_cons_of_mem _ hw)
  have hown : s.vm.findClass RX1 = some m.cls := findClass_of_methodNamed B.named
  have hlocks := B.notSynchronized
  subst hsz
  have hD := hD0.self (sz := s.heap.size)
  generalize hAe : va_A [(gp, .inr (1, [.ref gpa, .ref gpb, .ref gpc, .ref gpd, .int gpsz, .int gpsn, .int gpal, .int gpre])), (t, .inr (3, [.int tl, .int tw, .ref tc, .int ts])), (tc, .inl (k 0, tn, .inl tf))] s.heap.size = A at hD hm ⊢
  have hA : ∀ q : Nat, s.heap.size ≤ q → A q := fun q h => by rw [← hAe]; exact Or.inr h
  have hS : va_S A s.heap s.heap [] := va_S.rf
  have hl := lv_entry ([.ref gp, .ref t, .int a1, .int a2, .int a3]) (n := 7) (Nat.le_of_ble_eq_true rfl)
  rw [lg_entry_eq]
  generalize (lg_sl ([.ref gp, .ref t, .int a1, .int a2, .int a3]) ++ List.replicate (7 - (lg_sl ([.ref gp, .ref t, .int a1, .int a2, .int a3])).length) Slot.unset).toArray = ls at hl ⊢
  have hl : lv_has ls 7 [(0, .ref gp), (1, .ref t), (2, .int a1), (3, .int a2), (4, .int a3)] := hl
  obtain ⟨H, hH⟩ : ∃ H, H = s.heap := ⟨_, rfl⟩
  rw [← hH] at hP
  have hS : va_S A s.heap H [] := by rw [hH]; exact hS
  suffices hgo : W p l e _ s m _ below meth c H [] 0 0 _ _ by rw [hH] at hgo; exact hgo
  unfold f_X1_fittingEnd at h
  refine lv_iconst (v := 0) hx hb dX1_fittingEnd_0 (by decide) ?_
  refine lv_istore (lv' := [(5, .int 0), (0, .ref gp), (1, .ref t), (2, .int a1), (3, .int a2), (4, .int a3)]) hx hb dX1_fittingEnd_1 hl (by decide) rfl (fun ls hl => ?_)
  refine lv_iconst (v := 0) hx hb dX1_fittingEnd_3 (by decide) ?_
  refine lv_istore (lv' := [(6, .int 0), (5, .int 0), (0, .ref gp), (1, .ref t), (2, .int a1), (3, .int a2), (4, .int a3)]) hx hb dX1_fittingEnd_4 hl (by decide) rfl (fun ls hl => ?_)
  have loop6 : ∀ (v2 : Int32) (v3 : Int32) (v4 : Int32) (gpsz : Int32) (gpsn : Int32) (gpal : Int32) (gpre : Int32) (tl : Int32) (tw : Int32) (ts : Int32) (tn : Nat) (tf : Nat → Int32), ∀ (K : Int32 → Int32 → Option (Int32)), (∀ (v5 : Int32) (v6 : Int32), K v5 v6 = some res → ∀ (H : Heap) (locs : List Loc), va_P D vwCl [(gp, .inr (1, [.ref gpa, .ref gpb, .ref gpc, .ref gpd, .int gpsz, .int gpsn, .int gpal, .int gpre])), (t, .inr (3, [.int tl, .int tw, .ref tc, .int ts])), (tc, .inl (k 0, tn, .inl tf))] H → va_D A [(gp, .inr (1, [.ref gpa, .ref gpb, .ref gpc, .ref gpd, .int gpsz, .int gpsn, .int gpal, .int gpre])), (t, .inr (3, [.int tl, .int tw, .ref tc, .int ts])), (tc, .inl (k 0, tn, .inl tf))] → va_S A s.heap H locs → ∀ ls : Array Slot, lv_has ls 7 [(0, .ref gp), (1, .ref t), (2, .int v2), (3, .int v3), (4, .int v4), (5, .int v5), (6, .int v6)] → W p l e (headSpec wk_X1_fittingEnd rm_X1_fittingEnd).room s m ([.ref gp, .ref t, .int a1, .int a2, .int a3] : List Value).toArray below meth c H locs 0 0 (MQ below (va_Qi (fun xq9 (_ : Unit) => xq9 = res) (fun _ tq9 => va_P D vwCl [(gp, .inr (1, [.ref gpa, .ref gpb, .ref gpc, .ref gpd, .int gpsz, .int gpsn, .int gpal, .int gpre])), (t, .inr (3, [.int tl, .int tw, .ref tc, .int ts])), (tc, .inl (k 0, tn, .inl tf))] tq9.heap) A) ([.ref gp, .ref t, .int a1, .int a2, .int a3] : List Value).toArray s 0 0 A) (F0 m 43 ls [])) → ∀ (n : Nat) (v5 : Int32) (v6 : Int32), f_X1_fittingEnd_L6 fu K v2 v3 v4 gpsz tw ts tn tf n v5 v6 = some res → ∀ (H : Heap) (locs : List Loc), va_P D vwCl [(gp, .inr (1, [.ref gpa, .ref gpb, .ref gpc, .ref gpd, .int gpsz, .int gpsn, .int gpal, .int gpre])), (t, .inr (3, [.int tl, .int tw, .ref tc, .int ts])), (tc, .inl (k 0, tn, .inl tf))] H → va_D A [(gp, .inr (1, [.ref gpa, .ref gpb, .ref gpc, .ref gpd, .int gpsz, .int gpsn, .int gpal, .int gpre])), (t, .inr (3, [.int tl, .int tw, .ref tc, .int ts])), (tc, .inl (k 0, tn, .inl tf))] → va_S A s.heap H locs → ∀ ls : Array Slot, lv_has ls 7 [(0, .ref gp), (1, .ref t), (2, .int v2), (3, .int v3), (4, .int v4), (5, .int v5), (6, .int v6)] → W p l e (headSpec wk_X1_fittingEnd rm_X1_fittingEnd).room s m ([.ref gp, .ref t, .int a1, .int a2, .int a3] : List Value).toArray below meth c H locs 0 0 (MQ below (va_Qi (fun xq9 (_ : Unit) => xq9 = res) (fun _ tq9 => va_P D vwCl [(gp, .inr (1, [.ref gpa, .ref gpb, .ref gpc, .ref gpd, .int gpsz, .int gpsn, .int gpal, .int gpre])), (t, .inr (3, [.int tl, .int tw, .ref tc, .int ts])), (tc, .inl (k 0, tn, .inl tf))] tq9.heap) A) ([.ref gp, .ref t, .int a1, .int a2, .int a3] : List Value).toArray s 0 0 A) (F0 m 6 ls []) := by
    intro v2 v3 v4 gpsz gpsn gpal gpre tl tw ts tn tf K hKK n
    induction n with
    | zero =>
      intro v5 v6 h
      rw [f_X1_fittingEnd_L6] at h
      cases h
    | succ n ih =>
      intro v5 v6 h H locs hP hD hS ls hl
      rw [f_X1_fittingEnd_L6] at h
      refine lv_iload hx hb dX1_fittingEnd_6 (lv_at hl 6 rfl) ?_
      refine lv_aload_n hx hb dX1_fittingEnd_8 rfl (lv_at hl 0 rfl) ?_
      refine va_get (D := D) (ci := 1) (v := .int gpsz) (C := RX1) (T := TX1) (N := 8) hx hb ht hiX1 hown hK hP 0 rfl rfl 4 (by decide) (ht _ wb218) (fun _ h9 => h9) rfl dX1_fittingEnd_9 ?_
      refine lv_icmp_ge (tgt := 43) hx hb dX1_fittingEnd_12 (by decide) (fun c2 => ?_) (fun c2 => ?_)
      · have h := zt h c2
        exact hKK _ _ h _ _ hP hD hS _ (lv_sub hl [0, 1, 2, 3, 4, 5, 6] rfl)
      · have h := zf h c2
        refine lv_aload_n hx hb dX1_fittingEnd_15 rfl (lv_at hl 1 rfl) ?_
        refine lv_iload hx hb dX1_fittingEnd_16 (lv_at hl 6 rfl) ?_
        refine lv_iload_n hx hb dX1_fittingEnd_18 rfl (lv_at hl 2 rfl) ?_
        refine lv_iload_n hx hb dX1_fittingEnd_19 rfl (lv_at hl 3 rfl) ?_
        refine lv_iload hx hb dX1_fittingEnd_20 (lv_at hl 4 rfl) ?_
        obtain ⟨r1, h1, h⟩ := zb h
        refine zi (zrN (As := [.ref t, .int v6, .int v2, .int v3, .int v4]) (rest := []) ⟨hx, hb, hml, hown, ht⟩ (c_X5_fitsEnd l D k t tc tl tw ts tn tf v6 v2 v3 v4 h1 _) ⟨va_cnB 5 ht (gdN wb400) rfl rfl rfl (hm.1 _ (List.mem_of_getElem? (i := 16) rfl)) (ht _ wb72) (by decide +kernel) ⟨Nat.le_of_ble_eq_true rfl, Nat.le_of_ble_eq_true rfl⟩, ht _ wb399, trivial⟩ hK hP hD hS hA hm [1, 2] rfl rfl rfl hl.1 rfl (Nat.le_of_ble_eq_true rfl) dX1_fittingEnd_22 ⟨Nat.le_refl _, Nat.le_refl _⟩) hP hD hS hA [1, 2] rfl rfl (fun H locs hP hD hS => ?_)
        have hP : va_P D vwCl [(gp, .inr (1, [.ref gpa, .ref gpb, .ref gpc, .ref gpd, .int gpsz, .int gpsn, .int gpal, .int gpre])), (t, .inr (3, [.int tl, .int tw, .ref tc, .int ts])), (tc, .inl (k 0, tn, .inl tf))] H := hP
        have hD : va_D A [(gp, .inr (1, [.ref gpa, .ref gpb, .ref gpc, .ref gpd, .int gpsz, .int gpsn, .int gpal, .int gpre])), (t, .inr (3, [.int tl, .int tw, .ref tc, .int ts])), (tc, .inl (k 0, tn, .inl tf))] := hD
        refine lv_if_eq (tgt := 37) hx hb dX1_fittingEnd_25 (by decide) (fun c1 => ?_) (fun c1 => ?_)
        · have h := zt h c1
          refine lv_iinc (v := v6 + 1) (lv' := [(6, .int (v6 + 1)), (0, .ref gp), (1, .ref t), (2, .int v2), (3, .int v3), (4, .int v4), (5, .int v5)]) hx hb dX1_fittingEnd_37 hl (k := 6) rfl rfl (by decide) rfl (fun ls hl => ?_)
          refine lv_goto (tgt := 6) hx hb dX1_fittingEnd_40 (by decide) ?_
          exact ih _ _ h _ _ hP hD hS _ (lv_sub hl [1, 2, 3, 4, 5, 6, 0] rfl)
        · have h := zf h c1
          refine lv_iload hx hb dX1_fittingEnd_28 (lv_at hl 5 rfl) ?_
          refine lv_iconst (v := 1) hx hb dX1_fittingEnd_30 (by decide) ?_
          refine lv_iload hx hb dX1_fittingEnd_31 (lv_at hl 6 rfl) ?_
          refine lv_ishl hx hb dX1_fittingEnd_33 ?_
          refine lv_ior hx hb dX1_fittingEnd_34 ?_
          refine lv_istore (lv' := [(5, .int (v5 ||| (1 <<< (v6 &&& 31)))), (0, .ref gp), (1, .ref t), (2, .int v2), (3, .int v3), (4, .int v4), (6, .int v6)]) hx hb dX1_fittingEnd_35 hl (by decide) rfl (fun ls hl => ?_)
          refine lv_iinc (v := v6 + 1) (lv' := [(6, .int (v6 + 1)), (5, .int (v5 ||| (1 <<< (v6 &&& 31)))), (0, .ref gp), (1, .ref t), (2, .int v2), (3, .int v3), (4, .int v4)]) hx hb dX1_fittingEnd_37 hl (k := 6) rfl rfl (by decide) rfl (fun ls hl => ?_)
          refine lv_goto (tgt := 6) hx hb dX1_fittingEnd_40 (by decide) ?_
          exact ih _ _ h _ _ hP hD hS _ (lv_sub hl [2, 3, 4, 5, 6, 1, 0] rfl)
  refine loop6 _ _ _ _ _ _ _ _ _ _ _ _ _ ?_ fu _ _ h _ _ hP hD hS _ (lv_sub hl [2, 3, 4, 5, 6, 1, 0] rfl)
  intro x1 x2 h H locs hP hD hS ls hl
  try dsimp only at h
  have hP : va_P D vwCl [(gp, .inr (1, [.ref gpa, .ref gpb, .ref gpc, .ref gpd, .int gpsz, .int gpsn, .int gpal, .int gpre])), (t, .inr (3, [.int tl, .int tw, .ref tc, .int ts])), (tc, .inl (k 0, tn, .inl tf))] H := hP
  have hD : va_D A [(gp, .inr (1, [.ref gpa, .ref gpb, .ref gpc, .ref gpd, .int gpsz, .int gpsn, .int gpal, .int gpre])), (t, .inr (3, [.int tl, .int tw, .ref tc, .int ts])), (tc, .inl (k 0, tn, .inl tf))] := hD
  have hl : lv_has ls 7 [(0, .ref gp), (1, .ref t), (2, .int a1), (3, .int a2), (4, .int a3), (5, .int x1), (6, .int x2)] := hl
  refine lv_iload hx hb dX1_fittingEnd_43 (lv_at hl 5 rfl) ?_
  obtain rfl := Option.some.inj h
  exact W.iret (v := x1) hx hb hr (fun t ht9 hW => ⟨⟨_, (), rfl, rfl, zend ht9 hP⟩, hS.F ht9⟩) hS.2.2 dX1_fittingEnd_45
def f_X1_servicesOf_L4 (fu : Nat) (K : Int32 → Int32 → Option (Int32)) (v1 : Int32) (tw : Int32) (ts : Int32) (tn : Nat) (tf : Nat → Int32) : Nat → Int32 → Int32 → Option (Int32)
  | 0, _, _ => none
  | n + 1, v2, v3 =>
  if 32 ≤ v3 then (K v2 v3) else ((f_X5_fitsService tw ts tn tf v1 (v3 / 2) (v3 - v3 / 2 * 2)).bind fun r1 => if (zB r1) = 0 then (f_X1_servicesOf_L4 fu K v1 tw ts tn tf n v2 (v3 + 1)) else (f_X1_servicesOf_L4 fu K v1 tw ts tn tf n (v2 ||| (1 <<< (v3 &&& 31))) (v3 + 1)))
def f_X1_servicesOf (fu : Nat) (tw : Int32) (ts : Int32) (tn : Nat) (tf : Nat → Int32) (a1 : Int32) : Option (Int32) :=
  f_X1_servicesOf_L4 fu (fun (x1 : Int32) (x2 : Int32) => some (x1)) a1 tw ts tn tf fu 0 0
abbrev wk_X1_servicesOf : List Cond := Cond.code yX1_servicesOf cX1_servicesOf 4 (some .int) :: WB
abbrev rm_X1_servicesOf : Room := { frames := 3, cells := 0, slots := 0, locals := 68 }
set_option maxHeartbeats 4000000 in
set_option maxRecDepth 100000 in
theorem c_X1_servicesOf (l : Launch) (D : va_G) (k : Nat → Nat) (t tc : Nat) (tl : Int32) (tw : Int32) (ts : Int32) (tn : Nat) (tf : Nat → Int32) (a1 : Int32) (fu : Nat) {res : Int32} (h : f_X1_servicesOf fu tw ts tn tf a1 = some res) : Ci l yX1_servicesOf wk_X1_servicesOf rm_X1_servicesOf D k [.ref t, .int a1] [(t, .inr (3, [.int tl, .int tw, .ref tc, .int ts])), (tc, .inl (k 0, tn, .inl tf))] [(t, .inr (3, [.int tl, .int tw, .ref tc, .int ts])), (tc, .inl (k 0, tn, .inl tf))] res := by
  unfold Ci
  intro sz
  refine Met.ofW (cc := cX1_servicesOf) (maxL := 4) (ret := (some .int)) (by decide) rfl ?_
  intro p e s m args below meth c s₁ B hml hv
  obtain ⟨rfl, hsz, hP, hK, hD0, hm⟩ := hv
  have hx := B.exec
  have hb := B.bytes
  have hr := B.returns
  have ht : ∀ w ∈ WB, w.before _ s = true := fun w hw => atoms_spec (ws := wk_X1_servicesOf) B.pre w (List.mem_cons_of_mem _ hw)
  have hown : s.vm.findClass RX1 = some m.cls := findClass_of_methodNamed B.named
  have hlocks := B.notSynchronized
  subst hsz
  have hD := hD0.self (sz := s.heap.size)
  generalize hAe : va_A [(t, .inr (3, [.int tl, .int tw, .ref tc, .int ts])), (tc, .inl (k 0, tn, .inl tf))] s.heap.size = A at hD hm ⊢
  have hA : ∀ q : Nat, s.heap.size ≤ q → A q := fun q h => by rw [← hAe]; exact Or.inr h
  have hS : va_S A s.heap s.heap [] := va_S.rf
  have hl := lv_entry ([.ref t, .int a1]) (n := 4) (Nat.le_of_ble_eq_true rfl)
  rw [lg_entry_eq]
  generalize (lg_sl ([.ref t, .int a1]) ++ List.replicate (4 - (lg_sl ([.ref t, .int a1])).length) Slot.unset).toArray = ls at hl ⊢
  have hl : lv_has ls 4 [(0, .ref t), (1, .int a1)] := hl
  obtain ⟨H, hH⟩ : ∃ H, H = s.heap := ⟨_, rfl⟩
  rw [← hH] at hP
  have hS : va_S A s.heap H [] := by rw [hH]; exact hS
  suffices hgo : W p l e _ s m _ below meth c H [] 0 0 _ _ by rw [hH] at hgo; exact hgo
  unfold f_X1_servicesOf at h
  refine lv_iconst (v := 0) hx hb dX1_servicesOf_0 (by decide) ?_
  refine lv_istore_n (lv' := [(2, .int 0), (0, .ref t), (1, .int a1)]) hx hb dX1_servicesOf_1 rfl hl (by decide) rfl (fun ls hl => ?_)
  refine lv_iconst (v := 0) hx hb dX1_servicesOf_2 (by decide) ?_
  refine lv_istore_n (lv' := [(3, .int 0), (2, .int 0), (0, .ref t), (1, .int a1)]) hx hb dX1_servicesOf_3 rfl hl (by decide) rfl (fun ls hl => ?_)
  have loop4 : ∀ (v1 : Int32) (tl : Int32) (tw : Int32) (ts : Int32) (tn : Nat) (tf : Nat → Int32), ∀ (K : Int32 → Int32 → Option (Int32)), (∀ (v2 : Int32) (v3 : Int32), K v2 v3 = some res → ∀ (H : Heap) (locs : List Loc), va_P D vwCl [(t, .inr (3, [.int tl, .int tw, .ref tc, .int ts])), (tc, .inl (k 0, tn, .inl tf))] H → va_D A [(t, .inr (3, [.int tl, .int tw, .ref tc, .int ts])), (tc, .inl (k 0, tn, .inl tf))] → va_S A s.heap H locs → ∀ ls : Array Slot, lv_has ls 4 [(0, .ref t), (1, .int v1), (2, .int v2), (3, .int v3)] → W p l e (headSpec wk_X1_servicesOf rm_X1_servicesOf).room s m ([.ref t, .int a1] : List Value).toArray below meth c H locs 0 0 (MQ below (va_Qi (fun xq9 (_ : Unit) => xq9 = res) (fun _ tq9 => va_P D vwCl [(t, .inr (3, [.int tl, .int tw, .ref tc, .int ts])), (tc, .inl (k 0, tn, .inl tf))] tq9.heap) A) ([.ref t, .int a1] : List Value).toArray s 0 0 A) (F0 m 36 ls [])) → ∀ (n : Nat) (v2 : Int32) (v3 : Int32), f_X1_servicesOf_L4 fu K v1 tw ts tn tf n v2 v3 = some res → ∀ (H : Heap) (locs : List Loc), va_P D vwCl [(t, .inr (3, [.int tl, .int tw, .ref tc, .int ts])), (tc, .inl (k 0, tn, .inl tf))] H → va_D A [(t, .inr (3, [.int tl, .int tw, .ref tc, .int ts])), (tc, .inl (k 0, tn, .inl tf))] → va_S A s.heap H locs → ∀ ls : Array Slot, lv_has ls 4 [(0, .ref t), (1, .int v1), (2, .int v2), (3, .int v3)] → W p l e (headSpec wk_X1_servicesOf rm_X1_servicesOf).room s m ([.ref t, .int a1] : List Value).toArray below meth c H locs 0 0 (MQ below (va_Qi (fun xq9 (_ : Unit) => xq9 = res) (fun _ tq9 => va_P D vwCl [(t, .inr (3, [.int tl, .int tw, .ref tc, .int ts])), (tc, .inl (k 0, tn, .inl tf))] tq9.heap) A) ([.ref t, .int a1] : List Value).toArray s 0 0 A) (F0 m 4 ls []) := by
    intro v1 tl tw ts tn tf K hKK n
    induction n with
    | zero =>
      intro v2 v3 h
      rw [f_X1_servicesOf_L4] at h
      cases h
    | succ n ih =>
      intro v2 v3 h H locs hP hD hS ls hl
      rw [f_X1_servicesOf_L4] at h
      refine lv_iload_n hx hb dX1_servicesOf_4 rfl (lv_at hl 3 rfl) ?_
      refine lv_bipush (v := 32) hx hb dX1_servicesOf_5 (by decide) ?_
      refine lv_icmp_ge (tgt := 36) hx hb dX1_servicesOf_7 (by decide) (fun c2 => ?_) (fun c2 => ?_)
      · have h := zt h c2
        exact hKK _ _ h _ _ hP hD hS _ (lv_sub hl [0, 1, 2, 3] rfl)
      · have h := zf h c2
        refine lv_aload_n hx hb dX1_servicesOf_10 rfl (lv_at hl 0 rfl) ?_
        refine lv_iload_n hx hb dX1_servicesOf_11 rfl (lv_at hl 1 rfl) ?_
        refine lv_iload_n hx hb dX1_servicesOf_12 rfl (lv_at hl 3 rfl) ?_
        refine lv_iconst (v := 2) hx hb dX1_servicesOf_13 (by decide) ?_
        refine lv_idiv hx hb dX1_servicesOf_14 (by decide) ?_
        refine lv_iload_n hx hb dX1_servicesOf_15 rfl (lv_at hl 3 rfl) ?_
        refine lv_iconst (v := 2) hx hb dX1_servicesOf_16 (by decide) ?_
        refine lv_irem hx hb dX1_servicesOf_17 (by decide) ?_
        obtain ⟨r1, h1, h⟩ := zb h
        refine zi (zrN (As := [.ref t, .int v1, .int (v3 / 2), .int (v3 - v3 / 2 * 2)]) (rest := []) ⟨hx, hb, hml, hown, ht⟩ (c_X5_fitsService l D k t tc tl tw ts tn tf v1 (v3 / 2) (v3 - v3 / 2 * 2) h1 _) ⟨va_cnB 4 ht (gdN wb403) rfl rfl rfl (hm.1 _ (List.mem_of_getElem? (i := 17) rfl)) (ht _ wb72) (by decide +kernel) ⟨Nat.le_of_ble_eq_true rfl, Nat.le_of_ble_eq_true rfl⟩, ht _ wb402, trivial⟩ hK hP hD hS hA hm [0, 1] rfl rfl rfl hl.1 rfl (Nat.le_of_ble_eq_true rfl) dX1_servicesOf_18 ⟨Nat.le_refl _, Nat.le_refl _⟩) hP hD hS hA [0, 1] rfl rfl (fun H locs hP hD hS => ?_)
        have hP : va_P D vwCl [(t, .inr (3, [.int tl, .int tw, .ref tc, .int ts])), (tc, .inl (k 0, tn, .inl tf))] H := hP
        have hD : va_D A [(t, .inr (3, [.int tl, .int tw, .ref tc, .int ts])), (tc, .inl (k 0, tn, .inl tf))] := hD
        refine lv_if_eq (tgt := 30) hx hb dX1_servicesOf_21 (by decide) (fun c1 => ?_) (fun c1 => ?_)
        · have h := zt h c1
          refine lv_iinc (v := v3 + 1) (lv' := [(3, .int (v3 + 1)), (0, .ref t), (1, .int v1), (2, .int v2)]) hx hb dX1_servicesOf_30 hl (k := 3) rfl rfl (by decide) rfl (fun ls hl => ?_)
          refine lv_goto (tgt := 4) hx hb dX1_servicesOf_33 (by decide) ?_
          exact ih _ _ h _ _ hP hD hS _ (lv_sub hl [1, 2, 3, 0] rfl)
        · have h := zf h c1
          refine lv_iload_n hx hb dX1_servicesOf_24 rfl (lv_at hl 2 rfl) ?_
          refine lv_iconst (v := 1) hx hb dX1_servicesOf_25 (by decide) ?_
          refine lv_iload_n hx hb dX1_servicesOf_26 rfl (lv_at hl 3 rfl) ?_
          refine lv_ishl hx hb dX1_servicesOf_27 ?_
          refine lv_ior hx hb dX1_servicesOf_28 ?_
          refine lv_istore_n (lv' := [(2, .int (v2 ||| (1 <<< (v3 &&& 31)))), (0, .ref t), (1, .int v1), (3, .int v3)]) hx hb dX1_servicesOf_29 rfl hl (by decide) rfl (fun ls hl => ?_)
          refine lv_iinc (v := v3 + 1) (lv' := [(3, .int (v3 + 1)), (2, .int (v2 ||| (1 <<< (v3 &&& 31)))), (0, .ref t), (1, .int v1)]) hx hb dX1_servicesOf_30 hl (k := 3) rfl rfl (by decide) rfl (fun ls hl => ?_)
          refine lv_goto (tgt := 4) hx hb dX1_servicesOf_33 (by decide) ?_
          exact ih _ _ h _ _ hP hD hS _ (lv_sub hl [2, 3, 1, 0] rfl)
  refine loop4 _ _ _ _ _ _ _ ?_ fu _ _ h _ _ hP hD hS _ (lv_sub hl [2, 3, 1, 0] rfl)
  intro x1 x2 h H locs hP hD hS ls hl
  try dsimp only at h
  have hP : va_P D vwCl [(t, .inr (3, [.int tl, .int tw, .ref tc, .int ts])), (tc, .inl (k 0, tn, .inl tf))] H := hP
  have hD : va_D A [(t, .inr (3, [.int tl, .int tw, .ref tc, .int ts])), (tc, .inl (k 0, tn, .inl tf))] := hD
  have hl : lv_has ls 4 [(0, .ref t), (1, .int a1), (2, .int x1), (3, .int x2)] := hl
  refine lv_iload_n hx hb dX1_servicesOf_36 rfl (lv_at hl 2 rfl) ?_
  obtain rfl := Option.some.inj h
  exact W.iret (v := x1) hx hb hr (fun t ht9 hW => ⟨⟨_, (), rfl, rfl, zend ht9 hP⟩, hS.F ht9⟩) hS.2.2 dX1_servicesOf_37
def f_X1_draw_L15 (fu : Nat) (K : Int32 → (Nat → Int32) → (Nat → Int32) → Option (Int32 × Int32 × Int32 × Int32 × (Nat → Int32) × (Nat → Int32) × (Nat → Int32) × (Nat → Int32))) (gpsz : Int32) (tw : Int32) (ts : Int32) (tn : Nat) (tf : Nat → Int32) (azf : Nat → Int32) : Nat → Int32 → (Nat → Int32) → (Nat → Int32) → Option (Int32 × Int32 × Int32 × Int32 × (Nat → Int32) × (Nat → Int32) × (Nat → Int32) × (Nat → Int32))
  | 0, _, _, _ => none
  | n + 1, v3, gpfa, gpfb =>
  if 32 ≤ v3 then (K v3 gpfa gpfb) else (if 32 ≤ v3 then (K v3 gpfa gpfb) else (if zok v3 32 then ((f_X1_fittingEnd fu gpsz tw ts tn tf 0 v3 (azf (Int32.toNatClampNeg v3))).bind fun r2 => if zok v3 32 then (if zok v3 32 then ((f_X1_fittingEnd fu gpsz tw ts tn tf 1 v3 (azf (Int32.toNatClampNeg v3))).bind fun r3 => if zok v3 32 then (f_X1_draw_L15 fu K gpsz tw ts tn tf azf n (v3 + 1) (upd gpfa (Int32.toNatClampNeg v3) r2) (upd gpfb (Int32.toNatClampNeg v3) r3)) else none) else none) else none) else none))
def f_X1_draw_L67 (fu : Nat) (K : Int32 → (Nat → Int32) → (Nat → Int32) → Option (Int32 × Int32 × Int32 × Int32 × (Nat → Int32) × (Nat → Int32) × (Nat → Int32) × (Nat → Int32))) (gpsz : Int32) (tw : Int32) (ts : Int32) (tn : Nat) (tf : Nat → Int32) : Nat → Int32 → (Nat → Int32) → (Nat → Int32) → Option (Int32 × Int32 × Int32 × Int32 × (Nat → Int32) × (Nat → Int32) × (Nat → Int32) × (Nat → Int32))
  | 0, _, _, _ => none
  | n + 1, v3, gpfc, gpfd =>
  if gpsz ≤ v3 then (K v3 gpfc gpfd) else ((f_X1_servicesOf fu tw ts tn tf v3).bind fun r4 => if zok v3 12 then ((f_X3_get tw ts tn tf v3 9).bind fun r5 => if zok v3 12 then (f_X1_draw_L67 fu K gpsz tw ts tn tf n (v3 + 1) (upd gpfc (Int32.toNatClampNeg v3) r4) (upd gpfd (Int32.toNatClampNeg v3) r5)) else none) else none)
def f_X1_draw (fu : Nat) (gpfa : Nat → Int32) (gpfb : Nat → Int32) (gpfc : Nat → Int32) (gpfd : Nat → Int32) (tw : Int32) (ts : Int32) (tn : Nat) (tf : Nat → Int32) (azf : Nat → Int32)  : Option (Int32 × Int32 × Int32 × Int32 × (Nat → Int32) × (Nat → Int32) × (Nat → Int32) × (Nat → Int32)) :=
  (f_X3_size ts ).bind fun r1 => f_X1_draw_L15 fu (fun (x1 : Int32) (x2 : Nat → Int32) (x3 : Nat → Int32) => f_X1_draw_L67 fu (fun (x4 : Int32) (x5 : Nat → Int32) (x6 : Nat → Int32) => (f_X1_forget  ).bind fun r6 => some (zmin r1 12, r6.1, r6.2.1, r6.2.2, x2, x3, x5, x6)) (zmin r1 12) tw ts tn tf fu 0 gpfc gpfd) (zmin r1 12) tw ts tn tf azf fu 0 gpfa gpfb
abbrev wk_X1_draw : List Cond := Cond.code yX1_draw cX1_draw 4 none :: WB
abbrev rm_X1_draw : Room := { frames := 4, cells := 0, slots := 0, locals := 97 }
set_option maxHeartbeats 4000000 in
set_option maxRecDepth 100000 in
theorem c_X1_draw (l : Launch) (D : va_G) (k : Nat → Nat) (gp gpa gpb gpc gpd t tc az : Nat) (gpsz : Int32) (gpsn : Int32) (gpal : Int32) (gpre : Int32) (gpfa : Nat → Int32) (gpfb : Nat → Int32) (gpfc : Nat → Int32) (gpfd : Nat → Int32) (tl : Int32) (tw : Int32) (ts : Int32) (tn : Nat) (tf : Nat → Int32) (azf : Nat → Int32)  (fu : Nat) {res : Int32 × Int32 × Int32 × Int32 × (Nat → Int32) × (Nat → Int32) × (Nat → Int32) × (Nat → Int32)} (h : f_X1_draw fu gpfa gpfb gpfc gpfd tw ts tn tf azf  = some res) : Cv l yX1_draw wk_X1_draw rm_X1_draw D k [.ref gp, .ref t, .ref az] [(gp, .inr (1, [.ref gpa, .ref gpb, .ref gpc, .ref gpd, .int gpsz, .int gpsn, .int gpal, .int gpre])), (gpa, .inl (k 0, 32, .inl gpfa)), (gpb, .inl (k 0, 32, .inl gpfb)), (gpc, .inl (k 0, 12, .inl gpfc)), (gpd, .inl (k 0, 12, .inl gpfd)), (t, .inr (3, [.int tl, .int tw, .ref tc, .int ts])), (tc, .inl (k 0, tn, .inl tf)), (az, .inl (k 0, 32, .inl azf))] [(gp, .inr (1, [.ref gpa, .ref gpb, .ref gpc, .ref gpd, .int res.1, .int res.2.1, .int res.2.2.1, .int res.2.2.2.1])), (gpa, .inl (k 0, 32, .inl res.2.2.2.2.1)), (gpb, .inl (k 0, 32, .inl res.2.2.2.2.2.1)), (gpc, .inl (k 0, 12, .inl res.2.2.2.2.2.2.1)), (gpd, .inl (k 0, 12, .inl res.2.2.2.2.2.2.2)), (t, .inr (3, [.int tl, .int tw, .ref tc, .int ts])), (tc, .inl (k 0, tn, .inl tf)), (az, .inl (k 0, 32, .inl azf))] := by
  unfold Cv
  intro sz
  refine Met.ofW (cc := cX1_draw) (maxL := 4) (ret := none) (by decide) rfl ?_
  intro p e s m args below meth c s₁ B hml hv
  obtain ⟨rfl, hsz, hP, hK, hD0, hm⟩ := hv
  have hx := B.exec
  have hb := B.bytes
  have hr := B.returns
  have ht : ∀ w ∈ WB, w.before _ s = true := fun w hw => atoms_spec (ws := wk_X1_draw) B.pre w (List.mem_cons_of_mem _ hw)
  have hown : s.vm.findClass RX1 = some m.cls := findClass_of_methodNamed B.named
  have hlocks := B.notSynchronized
  subst hsz
  have hD := hD0.self (sz := s.heap.size)
  generalize hAe : va_A [(gp, .inr (1, [.ref gpa, .ref gpb, .ref gpc, .ref gpd, .int gpsz, .int gpsn, .int gpal, .int gpre])), (gpa, .inl (k 0, 32, .inl gpfa)), (gpb, .inl (k 0, 32, .inl gpfb)), (gpc, .inl (k 0, 12, .inl gpfc)), (gpd, .inl (k 0, 12, .inl gpfd)), (t, .inr (3, [.int tl, .int tw, .ref tc, .int ts])), (tc, .inl (k 0, tn, .inl tf)), (az, .inl (k 0, 32, .inl azf))] s.heap.size = A at hD hm ⊢
  have hA : ∀ q : Nat, s.heap.size ≤ q → A q := fun q h => by rw [← hAe]; exact Or.inr h
  have hS : va_S A s.heap s.heap [] := va_S.rf
  have hl := lv_entry ([.ref gp, .ref t, .ref az]) (n := 4) (Nat.le_of_ble_eq_true rfl)
  rw [lg_entry_eq]
  generalize (lg_sl ([.ref gp, .ref t, .ref az]) ++ List.replicate (4 - (lg_sl ([.ref gp, .ref t, .ref az])).length) Slot.unset).toArray = ls at hl ⊢
  have hl : lv_has ls 4 [(0, .ref gp), (1, .ref t), (2, .ref az)] := hl
  obtain ⟨H, hH⟩ : ∃ H, H = s.heap := ⟨_, rfl⟩
  rw [← hH] at hP
  have hS : va_S A s.heap H [] := by rw [hH]; exact hS
  suffices hgo : W p l e _ s m _ below meth c H [] 0 0 _ _ by rw [hH] at hgo; exact hgo
  unfold f_X1_draw at h
  refine lv_aload_n hx hb dX1_draw_0 rfl (lv_at hl 0 rfl) ?_
  refine lv_aload_n hx hb dX1_draw_1 rfl (lv_at hl 1 rfl) ?_
  obtain ⟨r1, h1, h⟩ := zb h
  refine zi (zrV (C := RX3) (T := TX3) (N := 4) (As := []) (rest := [.ref gp]) ⟨hx, hb, hml, hown, ht⟩ (c_X3_size l D k t tc tl tw ts tn tf  h1 _) (cwV 0 ht (gdV wb412 wb305 wb306 wb74 wb307) rfl rfl rfl (by decide +kernel) ⟨Nat.le_of_ble_eq_true rfl, Nat.le_of_ble_eq_true rfl⟩) hK hP hD hS hA hm [5, 6] rfl rfl 5 3 rfl rfl rfl hl.1 rfl (Nat.le_of_ble_eq_true rfl) dX1_draw_2 ⟨Nat.le_refl _, Nat.le_refl _⟩) hP hD hS hA [5, 6] rfl rfl (fun H locs hP hD hS => ?_)
  have hP : va_P D vwCl [(gp, .inr (1, [.ref gpa, .ref gpb, .ref gpc, .ref gpd, .int gpsz, .int gpsn, .int gpal, .int gpre])), (gpa, .inl (k 0, 32, .inl gpfa)), (gpb, .inl (k 0, 32, .inl gpfb)), (gpc, .inl (k 0, 12, .inl gpfc)), (gpd, .inl (k 0, 12, .inl gpfd)), (t, .inr (3, [.int tl, .int tw, .ref tc, .int ts])), (tc, .inl (k 0, tn, .inl tf)), (az, .inl (k 0, 32, .inl azf))] H := hP
  have hD : va_D A [(gp, .inr (1, [.ref gpa, .ref gpb, .ref gpc, .ref gpd, .int gpsz, .int gpsn, .int gpal, .int gpre])), (gpa, .inl (k 0, 32, .inl gpfa)), (gpb, .inl (k 0, 32, .inl gpfb)), (gpc, .inl (k 0, 12, .inl gpfc)), (gpd, .inl (k 0, 12, .inl gpfd)), (t, .inr (3, [.int tl, .int tw, .ref tc, .int ts])), (tc, .inl (k 0, tn, .inl tf)), (az, .inl (k 0, 32, .inl azf))] := hD
  refine lv_bipush (v := 12) hx hb dX1_draw_5 (by decide) ?_
  refine va_mmin hx hb (hml.trans hl.1.symm) hown (ht _ wb413) (ht _ wb294) (ht _ wb75) (ht _ wb295) (Nat.le_of_ble_eq_true rfl) (Nat.le_of_ble_eq_true rfl) (Nat.le_refl _) (Nat.le_refl _) dX1_draw_7 ?_
  refine W.eq (g2 := F0 m 10 ls [.int (zmin r1 12), .ref gp]) rfl ?_
  refine va_put (D := D) (ci := 1) (v := .int (zmin r1 12)) (ty := .int) (C := RX1) (T := TX1) (N := 8) hx hb ht hiX1 tyX1 tyX1_ok nmX1 hown hK hP hD hS 0 rfl rfl 4 (by decide) (ht _ wb218) (fun _ h9 => h9) rfl (by decide +kernel) rfl rfl (Nat.le_of_ble_eq_true rfl) dX1_draw_10 (fun H locs hP hD hS => ?_)
  have hP : va_P D vwCl [(gp, .inr (1, [.ref gpa, .ref gpb, .ref gpc, .ref gpd, .int (zmin r1 12), .int gpsn, .int gpal, .int gpre])), (gpa, .inl (k 0, 32, .inl gpfa)), (gpb, .inl (k 0, 32, .inl gpfb)), (gpc, .inl (k 0, 12, .inl gpfc)), (gpd, .inl (k 0, 12, .inl gpfd)), (t, .inr (3, [.int tl, .int tw, .ref tc, .int ts])), (tc, .inl (k 0, tn, .inl tf)), (az, .inl (k 0, 32, .inl azf))] H := hP
  have hD : va_D A [(gp, .inr (1, [.ref gpa, .ref gpb, .ref gpc, .ref gpd, .int (zmin r1 12), .int gpsn, .int gpal, .int gpre])), (gpa, .inl (k 0, 32, .inl gpfa)), (gpb, .inl (k 0, 32, .inl gpfb)), (gpc, .inl (k 0, 12, .inl gpfc)), (gpd, .inl (k 0, 12, .inl gpfd)), (t, .inr (3, [.int tl, .int tw, .ref tc, .int ts])), (tc, .inl (k 0, tn, .inl tf)), (az, .inl (k 0, 32, .inl azf))] := hD
  refine lv_iconst (v := 0) hx hb dX1_draw_13 (by decide) ?_
  refine lv_istore_n (lv' := [(3, .int 0), (0, .ref gp), (1, .ref t), (2, .ref az)]) hx hb dX1_draw_14 rfl hl (by decide) rfl (fun ls hl => ?_)
  have loop15 : ∀ (gpsz : Int32) (gpsn : Int32) (gpal : Int32) (gpre : Int32) (gpfc : Nat → Int32) (gpfd : Nat → Int32) (tl : Int32) (tw : Int32) (ts : Int32) (tn : Nat) (tf : Nat → Int32) (azf : Nat → Int32), ∀ (K : Int32 → (Nat → Int32) → (Nat → Int32) → Option (Int32 × Int32 × Int32 × Int32 × (Nat → Int32) × (Nat → Int32) × (Nat → Int32) × (Nat → Int32))), (∀ (v3 : Int32) (gpfa : Nat → Int32) (gpfb : Nat → Int32), K v3 gpfa gpfb = some res → ∀ (H : Heap) (locs : List Loc), va_P D vwCl [(gp, .inr (1, [.ref gpa, .ref gpb, .ref gpc, .ref gpd, .int gpsz, .int gpsn, .int gpal, .int gpre])), (gpa, .inl (k 0, 32, .inl gpfa)), (gpb, .inl (k 0, 32, .inl gpfb)), (gpc, .inl (k 0, 12, .inl gpfc)), (gpd, .inl (k 0, 12, .inl gpfd)), (t, .inr (3, [.int tl, .int tw, .ref tc, .int ts])), (tc, .inl (k 0, tn, .inl tf)), (az, .inl (k 0, 32, .inl azf))] H → va_D A [(gp, .inr (1, [.ref gpa, .ref gpb, .ref gpc, .ref gpd, .int gpsz, .int gpsn, .int gpal, .int gpre])), (gpa, .inl (k 0, 32, .inl gpfa)), (gpb, .inl (k 0, 32, .inl gpfb)), (gpc, .inl (k 0, 12, .inl gpfc)), (gpd, .inl (k 0, 12, .inl gpfd)), (t, .inr (3, [.int tl, .int tw, .ref tc, .int ts])), (tc, .inl (k 0, tn, .inl tf)), (az, .inl (k 0, 32, .inl azf))] → va_S A s.heap H locs → ∀ ls : Array Slot, lv_has ls 4 [(0, .ref gp), (1, .ref t), (2, .ref az), (3, .int v3)] → W p l e (headSpec wk_X1_draw rm_X1_draw).room s m ([.ref gp, .ref t, .ref az] : List Value).toArray below meth c H locs 0 0 (MQ below (va_Qv (fun (_ : Unit) => True) (fun _ tq9 => va_P D vwCl [(gp, .inr (1, [.ref gpa, .ref gpb, .ref gpc, .ref gpd, .int res.1, .int res.2.1, .int res.2.2.1, .int res.2.2.2.1])), (gpa, .inl (k 0, 32, .inl res.2.2.2.2.1)), (gpb, .inl (k 0, 32, .inl res.2.2.2.2.2.1)), (gpc, .inl (k 0, 12, .inl res.2.2.2.2.2.2.1)), (gpd, .inl (k 0, 12, .inl res.2.2.2.2.2.2.2)), (t, .inr (3, [.int tl, .int tw, .ref tc, .int ts])), (tc, .inl (k 0, tn, .inl tf)), (az, .inl (k 0, 32, .inl azf))] tq9.heap) A) ([.ref gp, .ref t, .ref az] : List Value).toArray s 0 0 A) (F0 m 65 ls [])) → ∀ (n : Nat) (v3 : Int32) (gpfa : Nat → Int32) (gpfb : Nat → Int32), f_X1_draw_L15 fu K gpsz tw ts tn tf azf n v3 gpfa gpfb = some res → ∀ (H : Heap) (locs : List Loc), va_P D vwCl [(gp, .inr (1, [.ref gpa, .ref gpb, .ref gpc, .ref gpd, .int gpsz, .int gpsn, .int gpal, .int gpre])), (gpa, .inl (k 0, 32, .inl gpfa)), (gpb, .inl (k 0, 32, .inl gpfb)), (gpc, .inl (k 0, 12, .inl gpfc)), (gpd, .inl (k 0, 12, .inl gpfd)), (t, .inr (3, [.int tl, .int tw, .ref tc, .int ts])), (tc, .inl (k 0, tn, .inl tf)), (az, .inl (k 0, 32, .inl azf))] H → va_D A [(gp, .inr (1, [.ref gpa, .ref gpb, .ref gpc, .ref gpd, .int gpsz, .int gpsn, .int gpal, .int gpre])), (gpa, .inl (k 0, 32, .inl gpfa)), (gpb, .inl (k 0, 32, .inl gpfb)), (gpc, .inl (k 0, 12, .inl gpfc)), (gpd, .inl (k 0, 12, .inl gpfd)), (t, .inr (3, [.int tl, .int tw, .ref tc, .int ts])), (tc, .inl (k 0, tn, .inl tf)), (az, .inl (k 0, 32, .inl azf))] → va_S A s.heap H locs → ∀ ls : Array Slot, lv_has ls 4 [(0, .ref gp), (1, .ref t), (2, .ref az), (3, .int v3)] → W p l e (headSpec wk_X1_draw rm_X1_draw).room s m ([.ref gp, .ref t, .ref az] : List Value).toArray below meth c H locs 0 0 (MQ below (va_Qv (fun (_ : Unit) => True) (fun _ tq9 => va_P D vwCl [(gp, .inr (1, [.ref gpa, .ref gpb, .ref gpc, .ref gpd, .int res.1, .int res.2.1, .int res.2.2.1, .int res.2.2.2.1])), (gpa, .inl (k 0, 32, .inl res.2.2.2.2.1)), (gpb, .inl (k 0, 32, .inl res.2.2.2.2.2.1)), (gpc, .inl (k 0, 12, .inl res.2.2.2.2.2.2.1)), (gpd, .inl (k 0, 12, .inl res.2.2.2.2.2.2.2)), (t, .inr (3, [.int tl, .int tw, .ref tc, .int ts])), (tc, .inl (k 0, tn, .inl tf)), (az, .inl (k 0, 32, .inl azf))] tq9.heap) A) ([.ref gp, .ref t, .ref az] : List Value).toArray s 0 0 A) (F0 m 15 ls []) := by
    intro gpsz gpsn gpal gpre gpfc gpfd tl tw ts tn tf azf K hKK n
    induction n with
    | zero =>
      intro v3 gpfa gpfb h
      rw [f_X1_draw_L15] at h
      cases h
    | succ n ih =>
      intro v3 gpfa gpfb h H locs hP hD hS ls hl
      rw [f_X1_draw_L15] at h
      refine lv_iload_n hx hb dX1_draw_15 rfl (lv_at hl 3 rfl) ?_
      refine lv_bipush (v := 32) hx hb dX1_draw_16 (by decide) ?_
      refine lv_icmp_ge (tgt := 65) hx hb dX1_draw_18 (by decide) (fun c2 => ?_) (fun c2 => ?_)
      · have h := zt h c2
        exact hKK _ _ _ h _ _ hP hD hS _ (lv_sub hl [0, 1, 2, 3] rfl)
      · have h := zf h c2
        refine lv_iload_n hx hb dX1_draw_21 rfl (lv_at hl 3 rfl) ?_
        refine lv_aload_n hx hb dX1_draw_22 rfl (lv_at hl 2 rfl) ?_
        refine va_alen (v := 32) hx hb hK hP 7 0 rfl rfl rfl dX1_draw_23 ?_
        refine lv_icmp_ge (tgt := 65) hx hb dX1_draw_24 (by decide) (fun c1 => ?_) (fun c1 => ?_)
        · have h := zt h c1
          exact hKK _ _ _ h _ _ hP hD hS _ (lv_sub hl [0, 1, 2, 3] rfl)
        · have h := zf h c1
          refine lv_aload_n hx hb dX1_draw_27 rfl (lv_at hl 0 rfl) ?_
          refine va_get (D := D) (ci := 1) (v := .ref gpa) (C := RX1) (T := TX1) (N := 8) hx hb ht hiX1 hown hK hP 0 rfl rfl 0 (by decide) (ht _ wb214) (fun _ h9 => h9) rfl dX1_draw_28 ?_
          refine lv_iload_n hx hb dX1_draw_31 rfl (lv_at hl 3 rfl) ?_
          refine lv_aload_n hx hb dX1_draw_32 rfl (lv_at hl 0 rfl) ?_
          refine lv_aload_n hx hb dX1_draw_33 rfl (lv_at hl 1 rfl) ?_
          refine lv_iconst (v := 0) hx hb dX1_draw_34 (by decide) ?_
          refine lv_iload_n hx hb dX1_draw_35 rfl (lv_at hl 3 rfl) ?_
          refine lv_aload_n hx hb dX1_draw_36 rfl (lv_at hl 2 rfl) ?_
          refine lv_iload_n hx hb dX1_draw_37 rfl (lv_at hl 3 rfl) ?_
          obtain ⟨hi1, h⟩ := zg h
          refine va_iald hx hb hK hP 7 0 rfl rfl hi1 dX1_draw_38 ?_
          obtain ⟨r2, h2, h⟩ := zb h
          refine zi (zrV (C := RX1) (T := TX1) (N := 8) (As := [.ref t, .int 0, .int v3, .int (azf (Int32.toNatClampNeg v3))]) (rest := [.int v3, .ref gpa]) ⟨hx, hb, hml, hown, ht⟩ (c_X1_fittingEnd l D k gp gpa gpb gpc gpd t tc gpsz gpsn gpal gpre tl tw ts tn tf 0 v3 (azf (Int32.toNatClampNeg v3)) fu h2 _) (cwV 4 ht (gdV wb414 wb416 wb5 wb79 wb417) rfl rfl rfl (by decide +kernel) ⟨Nat.le_of_ble_eq_true rfl, Nat.le_of_ble_eq_true rfl⟩) hK hP hD hS hA hm [0, 5, 6] rfl rfl 0 1 rfl rfl rfl hl.1 rfl (Nat.le_of_ble_eq_true rfl) dX1_draw_39 ⟨Nat.le_refl _, Nat.le_refl _⟩) hP hD hS hA [0, 5, 6] rfl rfl (fun H locs hP hD hS => ?_)
          have hP : va_P D vwCl [(gp, .inr (1, [.ref gpa, .ref gpb, .ref gpc, .ref gpd, .int gpsz, .int gpsn, .int gpal, .int gpre])), (gpa, .inl (k 0, 32, .inl gpfa)), (gpb, .inl (k 0, 32, .inl gpfb)), (gpc, .inl (k 0, 12, .inl gpfc)), (gpd, .inl (k 0, 12, .inl gpfd)), (t, .inr (3, [.int tl, .int tw, .ref tc, .int ts])), (tc, .inl (k 0, tn, .inl tf)), (az, .inl (k 0, 32, .inl azf))] H := hP
          have hD : va_D A [(gp, .inr (1, [.ref gpa, .ref gpb, .ref gpc, .ref gpd, .int gpsz, .int gpsn, .int gpal, .int gpre])), (gpa, .inl (k 0, 32, .inl gpfa)), (gpb, .inl (k 0, 32, .inl gpfb)), (gpc, .inl (k 0, 12, .inl gpfc)), (gpd, .inl (k 0, 12, .inl gpfd)), (t, .inr (3, [.int tl, .int tw, .ref tc, .int ts])), (tc, .inl (k 0, tn, .inl tf)), (az, .inl (k 0, 32, .inl azf))] := hD
          obtain ⟨hi2, h⟩ := zg h
          refine va_iast hx hb hK hP hD hS 1 0 rfl rfl hi2 dX1_draw_42 (fun H locs hP hD hS => ?_)
          have hP : va_P D vwCl [(gp, .inr (1, [.ref gpa, .ref gpb, .ref gpc, .ref gpd, .int gpsz, .int gpsn, .int gpal, .int gpre])), (gpa, .inl (k 0, 32, .inl (upd gpfa (Int32.toNatClampNeg v3) r2))), (gpb, .inl (k 0, 32, .inl gpfb)), (gpc, .inl (k 0, 12, .inl gpfc)), (gpd, .inl (k 0, 12, .inl gpfd)), (t, .inr (3, [.int tl, .int tw, .ref tc, .int ts])), (tc, .inl (k 0, tn, .inl tf)), (az, .inl (k 0, 32, .inl azf))] H := hP
          have hD : va_D A [(gp, .inr (1, [.ref gpa, .ref gpb, .ref gpc, .ref gpd, .int gpsz, .int gpsn, .int gpal, .int gpre])), (gpa, .inl (k 0, 32, .inl (upd gpfa (Int32.toNatClampNeg v3) r2))), (gpb, .inl (k 0, 32, .inl gpfb)), (gpc, .inl (k 0, 12, .inl gpfc)), (gpd, .inl (k 0, 12, .inl gpfd)), (t, .inr (3, [.int tl, .int tw, .ref tc, .int ts])), (tc, .inl (k 0, tn, .inl tf)), (az, .inl (k 0, 32, .inl azf))] := hD
          refine lv_aload_n hx hb dX1_draw_43 rfl (lv_at hl 0 rfl) ?_
          refine va_get (D := D) (ci := 1) (v := .ref gpb) (C := RX1) (T := TX1) (N := 8) hx hb ht hiX1 hown hK hP 0 rfl rfl 1 (by decide) (ht _ wb215) (fun _ h9 => h9) rfl dX1_draw_44 ?_
          refine lv_iload_n hx hb dX1_draw_47 rfl (lv_at hl 3 rfl) ?_
          refine lv_aload_n hx hb dX1_draw_48 rfl (lv_at hl 0 rfl) ?_
          refine lv_aload_n hx hb dX1_draw_49 rfl (lv_at hl 1 rfl) ?_
          refine lv_iconst (v := 1) hx hb dX1_draw_50 (by decide) ?_
          refine lv_iload_n hx hb dX1_draw_51 rfl (lv_at hl 3 rfl) ?_
          refine lv_aload_n hx hb dX1_draw_52 rfl (lv_at hl 2 rfl) ?_
          refine lv_iload_n hx hb dX1_draw_53 rfl (lv_at hl 3 rfl) ?_
          obtain ⟨hi3, h⟩ := zg h
          refine va_iald hx hb hK hP 7 0 rfl rfl hi3 dX1_draw_54 ?_
          obtain ⟨r3, h3, h⟩ := zb h
          refine zi (zrV (C := RX1) (T := TX1) (N := 8) (As := [.ref t, .int 1, .int v3, .int (azf (Int32.toNatClampNeg v3))]) (rest := [.int v3, .ref gpb]) ⟨hx, hb, hml, hown, ht⟩ (c_X1_fittingEnd l D k gp gpa gpb gpc gpd t tc gpsz gpsn gpal gpre tl tw ts tn tf 1 v3 (azf (Int32.toNatClampNeg v3)) fu h3 _) (cwV 4 ht (gdV wb414 wb416 wb5 wb79 wb417) rfl rfl rfl (by decide +kernel) ⟨Nat.le_of_ble_eq_true rfl, Nat.le_of_ble_eq_true rfl⟩) hK hP hD hS hA hm [0, 5, 6] rfl rfl 0 1 rfl rfl rfl hl.1 rfl (Nat.le_of_ble_eq_true rfl) dX1_draw_55 ⟨Nat.le_refl _, Nat.le_refl _⟩) hP hD hS hA [0, 5, 6] rfl rfl (fun H locs hP hD hS => ?_)
          have hP : va_P D vwCl [(gp, .inr (1, [.ref gpa, .ref gpb, .ref gpc, .ref gpd, .int gpsz, .int gpsn, .int gpal, .int gpre])), (gpa, .inl (k 0, 32, .inl (upd gpfa (Int32.toNatClampNeg v3) r2))), (gpb, .inl (k 0, 32, .inl gpfb)), (gpc, .inl (k 0, 12, .inl gpfc)), (gpd, .inl (k 0, 12, .inl gpfd)), (t, .inr (3, [.int tl, .int tw, .ref tc, .int ts])), (tc, .inl (k 0, tn, .inl tf)), (az, .inl (k 0, 32, .inl azf))] H := hP
          have hD : va_D A [(gp, .inr (1, [.ref gpa, .ref gpb, .ref gpc, .ref gpd, .int gpsz, .int gpsn, .int gpal, .int gpre])), (gpa, .inl (k 0, 32, .inl (upd gpfa (Int32.toNatClampNeg v3) r2))), (gpb, .inl (k 0, 32, .inl gpfb)), (gpc, .inl (k 0, 12, .inl gpfc)), (gpd, .inl (k 0, 12, .inl gpfd)), (t, .inr (3, [.int tl, .int tw, .ref tc, .int ts])), (tc, .inl (k 0, tn, .inl tf)), (az, .inl (k 0, 32, .inl azf))] := hD
          obtain ⟨hi4, h⟩ := zg h
          refine va_iast hx hb hK hP hD hS 2 0 rfl rfl hi4 dX1_draw_58 (fun H locs hP hD hS => ?_)
          have hP : va_P D vwCl [(gp, .inr (1, [.ref gpa, .ref gpb, .ref gpc, .ref gpd, .int gpsz, .int gpsn, .int gpal, .int gpre])), (gpa, .inl (k 0, 32, .inl (upd gpfa (Int32.toNatClampNeg v3) r2))), (gpb, .inl (k 0, 32, .inl (upd gpfb (Int32.toNatClampNeg v3) r3))), (gpc, .inl (k 0, 12, .inl gpfc)), (gpd, .inl (k 0, 12, .inl gpfd)), (t, .inr (3, [.int tl, .int tw, .ref tc, .int ts])), (tc, .inl (k 0, tn, .inl tf)), (az, .inl (k 0, 32, .inl azf))] H := hP
          have hD : va_D A [(gp, .inr (1, [.ref gpa, .ref gpb, .ref gpc, .ref gpd, .int gpsz, .int gpsn, .int gpal, .int gpre])), (gpa, .inl (k 0, 32, .inl (upd gpfa (Int32.toNatClampNeg v3) r2))), (gpb, .inl (k 0, 32, .inl (upd gpfb (Int32.toNatClampNeg v3) r3))), (gpc, .inl (k 0, 12, .inl gpfc)), (gpd, .inl (k 0, 12, .inl gpfd)), (t, .inr (3, [.int tl, .int tw, .ref tc, .int ts])), (tc, .inl (k 0, tn, .inl tf)), (az, .inl (k 0, 32, .inl azf))] := hD
          refine lv_iinc (v := v3 + 1) (lv' := [(3, .int (v3 + 1)), (0, .ref gp), (1, .ref t), (2, .ref az)]) hx hb dX1_draw_59 hl (k := 3) rfl rfl (by decide) rfl (fun ls hl => ?_)
          refine lv_goto (tgt := 15) hx hb dX1_draw_62 (by decide) ?_
          exact ih _ _ _ h _ _ hP hD hS _ (lv_sub hl [1, 2, 3, 0] rfl)
  refine loop15 _ _ _ _ _ _ _ _ _ _ _ _ _ ?_ fu _ _ _ h _ _ hP hD hS _ (lv_sub hl [1, 2, 3, 0] rfl)
  intro x1 x2 x3 h H locs hP hD hS ls hl
  try dsimp only at h
  have hP : va_P D vwCl [(gp, .inr (1, [.ref gpa, .ref gpb, .ref gpc, .ref gpd, .int (zmin r1 12), .int gpsn, .int gpal, .int gpre])), (gpa, .inl (k 0, 32, .inl x2)), (gpb, .inl (k 0, 32, .inl x3)), (gpc, .inl (k 0, 12, .inl gpfc)), (gpd, .inl (k 0, 12, .inl gpfd)), (t, .inr (3, [.int tl, .int tw, .ref tc, .int ts])), (tc, .inl (k 0, tn, .inl tf)), (az, .inl (k 0, 32, .inl azf))] H := hP
  have hD : va_D A [(gp, .inr (1, [.ref gpa, .ref gpb, .ref gpc, .ref gpd, .int (zmin r1 12), .int gpsn, .int gpal, .int gpre])), (gpa, .inl (k 0, 32, .inl x2)), (gpb, .inl (k 0, 32, .inl x3)), (gpc, .inl (k 0, 12, .inl gpfc)), (gpd, .inl (k 0, 12, .inl gpfd)), (t, .inr (3, [.int tl, .int tw, .ref tc, .int ts])), (tc, .inl (k 0, tn, .inl tf)), (az, .inl (k 0, 32, .inl azf))] := hD
  have hl : lv_has ls 4 [(0, .ref gp), (1, .ref t), (2, .ref az), (3, .int x1)] := hl
  refine lv_iconst (v := 0) hx hb dX1_draw_65 (by decide) ?_
  refine lv_istore_n (lv' := [(3, .int 0), (0, .ref gp), (1, .ref t), (2, .ref az)]) hx hb dX1_draw_66 rfl hl (by decide) rfl (fun ls hl => ?_)
  have loop67 : ∀ (gpsz : Int32) (gpsn : Int32) (gpal : Int32) (gpre : Int32) (gpfa : Nat → Int32) (gpfb : Nat → Int32) (tl : Int32) (tw : Int32) (ts : Int32) (tn : Nat) (tf : Nat → Int32) (azf : Nat → Int32), ∀ (K : Int32 → (Nat → Int32) → (Nat → Int32) → Option (Int32 × Int32 × Int32 × Int32 × (Nat → Int32) × (Nat → Int32) × (Nat → Int32) × (Nat → Int32))), (∀ (v3 : Int32) (gpfc : Nat → Int32) (gpfd : Nat → Int32), K v3 gpfc gpfd = some res → ∀ (H : Heap) (locs : List Loc), va_P D vwCl [(gp, .inr (1, [.ref gpa, .ref gpb, .ref gpc, .ref gpd, .int gpsz, .int gpsn, .int gpal, .int gpre])), (gpa, .inl (k 0, 32, .inl gpfa)), (gpb, .inl (k 0, 32, .inl gpfb)), (gpc, .inl (k 0, 12, .inl gpfc)), (gpd, .inl (k 0, 12, .inl gpfd)), (t, .inr (3, [.int tl, .int tw, .ref tc, .int ts])), (tc, .inl (k 0, tn, .inl tf)), (az, .inl (k 0, 32, .inl azf))] H → va_D A [(gp, .inr (1, [.ref gpa, .ref gpb, .ref gpc, .ref gpd, .int gpsz, .int gpsn, .int gpal, .int gpre])), (gpa, .inl (k 0, 32, .inl gpfa)), (gpb, .inl (k 0, 32, .inl gpfb)), (gpc, .inl (k 0, 12, .inl gpfc)), (gpd, .inl (k 0, 12, .inl gpfd)), (t, .inr (3, [.int tl, .int tw, .ref tc, .int ts])), (tc, .inl (k 0, tn, .inl tf)), (az, .inl (k 0, 32, .inl azf))] → va_S A s.heap H locs → ∀ ls : Array Slot, lv_has ls 4 [(0, .ref gp), (1, .ref t), (2, .ref az), (3, .int v3)] → W p l e (headSpec wk_X1_draw rm_X1_draw).room s m ([.ref gp, .ref t, .ref az] : List Value).toArray below meth c H locs 0 0 (MQ below (va_Qv (fun (_ : Unit) => True) (fun _ tq9 => va_P D vwCl [(gp, .inr (1, [.ref gpa, .ref gpb, .ref gpc, .ref gpd, .int res.1, .int res.2.1, .int res.2.2.1, .int res.2.2.2.1])), (gpa, .inl (k 0, 32, .inl res.2.2.2.2.1)), (gpb, .inl (k 0, 32, .inl res.2.2.2.2.2.1)), (gpc, .inl (k 0, 12, .inl res.2.2.2.2.2.2.1)), (gpd, .inl (k 0, 12, .inl res.2.2.2.2.2.2.2)), (t, .inr (3, [.int tl, .int tw, .ref tc, .int ts])), (tc, .inl (k 0, tn, .inl tf)), (az, .inl (k 0, 32, .inl azf))] tq9.heap) A) ([.ref gp, .ref t, .ref az] : List Value).toArray s 0 0 A) (F0 m 105 ls [])) → ∀ (n : Nat) (v3 : Int32) (gpfc : Nat → Int32) (gpfd : Nat → Int32), f_X1_draw_L67 fu K gpsz tw ts tn tf n v3 gpfc gpfd = some res → ∀ (H : Heap) (locs : List Loc), va_P D vwCl [(gp, .inr (1, [.ref gpa, .ref gpb, .ref gpc, .ref gpd, .int gpsz, .int gpsn, .int gpal, .int gpre])), (gpa, .inl (k 0, 32, .inl gpfa)), (gpb, .inl (k 0, 32, .inl gpfb)), (gpc, .inl (k 0, 12, .inl gpfc)), (gpd, .inl (k 0, 12, .inl gpfd)), (t, .inr (3, [.int tl, .int tw, .ref tc, .int ts])), (tc, .inl (k 0, tn, .inl tf)), (az, .inl (k 0, 32, .inl azf))] H → va_D A [(gp, .inr (1, [.ref gpa, .ref gpb, .ref gpc, .ref gpd, .int gpsz, .int gpsn, .int gpal, .int gpre])), (gpa, .inl (k 0, 32, .inl gpfa)), (gpb, .inl (k 0, 32, .inl gpfb)), (gpc, .inl (k 0, 12, .inl gpfc)), (gpd, .inl (k 0, 12, .inl gpfd)), (t, .inr (3, [.int tl, .int tw, .ref tc, .int ts])), (tc, .inl (k 0, tn, .inl tf)), (az, .inl (k 0, 32, .inl azf))] → va_S A s.heap H locs → ∀ ls : Array Slot, lv_has ls 4 [(0, .ref gp), (1, .ref t), (2, .ref az), (3, .int v3)] → W p l e (headSpec wk_X1_draw rm_X1_draw).room s m ([.ref gp, .ref t, .ref az] : List Value).toArray below meth c H locs 0 0 (MQ below (va_Qv (fun (_ : Unit) => True) (fun _ tq9 => va_P D vwCl [(gp, .inr (1, [.ref gpa, .ref gpb, .ref gpc, .ref gpd, .int res.1, .int res.2.1, .int res.2.2.1, .int res.2.2.2.1])), (gpa, .inl (k 0, 32, .inl res.2.2.2.2.1)), (gpb, .inl (k 0, 32, .inl res.2.2.2.2.2.1)), (gpc, .inl (k 0, 12, .inl res.2.2.2.2.2.2.1)), (gpd, .inl (k 0, 12, .inl res.2.2.2.2.2.2.2)), (t, .inr (3, [.int tl, .int tw, .ref tc, .int ts])), (tc, .inl (k 0, tn, .inl tf)), (az, .inl (k 0, 32, .inl azf))] tq9.heap) A) ([.ref gp, .ref t, .ref az] : List Value).toArray s 0 0 A) (F0 m 67 ls []) := by
    intro gpsz gpsn gpal gpre gpfa gpfb tl tw ts tn tf azf K hKK n
    induction n with
    | zero =>
      intro v3 gpfc gpfd h
      rw [f_X1_draw_L67] at h
      cases h
    | succ n ih =>
      intro v3 gpfc gpfd h H locs hP hD hS ls hl
      rw [f_X1_draw_L67] at h
      refine lv_iload_n hx hb dX1_draw_67 rfl (lv_at hl 3 rfl) ?_
      refine lv_aload_n hx hb dX1_draw_68 rfl (lv_at hl 0 rfl) ?_
      refine va_get (D := D) (ci := 1) (v := .int gpsz) (C := RX1) (T := TX1) (N := 8) hx hb ht hiX1 hown hK hP 0 rfl rfl 4 (by decide) (ht _ wb218) (fun _ h9 => h9) rfl dX1_draw_69 ?_
      refine lv_icmp_ge (tgt := 105) hx hb dX1_draw_72 (by decide) (fun c3 => ?_) (fun c3 => ?_)
      · have h := zt h c3
        exact hKK _ _ _ h _ _ hP hD hS _ (lv_sub hl [0, 1, 2, 3] rfl)
      · have h := zf h c3
        refine lv_aload_n hx hb dX1_draw_75 rfl (lv_at hl 0 rfl) ?_
        refine va_get (D := D) (ci := 1) (v := .ref gpc) (C := RX1) (T := TX1) (N := 8) hx hb ht hiX1 hown hK hP 0 rfl rfl 2 (by decide) (ht _ wb216) (fun _ h9 => h9) rfl dX1_draw_76 ?_
        refine lv_iload_n hx hb dX1_draw_79 rfl (lv_at hl 3 rfl) ?_
        refine lv_aload_n hx hb dX1_draw_80 rfl (lv_at hl 1 rfl) ?_
        refine lv_iload_n hx hb dX1_draw_81 rfl (lv_at hl 3 rfl) ?_
        obtain ⟨r4, h4, h⟩ := zb h
        refine zi (zrS (As := [.ref t, .int v3]) (rest := [.int v3, .ref gpc]) ⟨hx, hb, hml, hown, ht⟩ (c_X1_servicesOf l D k t tc tl tw ts tn tf v3 fu h4 _) (va_cwS 2 ht (gdS wb419 wb420 wb79 wb421) rfl rfl rfl (by decide +kernel) ⟨Nat.le_of_ble_eq_true rfl, Nat.le_of_ble_eq_true rfl⟩) hK hP hD hS hA hm [5, 6] rfl rfl rfl hl.1 rfl (Nat.le_of_ble_eq_true rfl) dX1_draw_82 ⟨Nat.le_refl _, Nat.le_refl _⟩) hP hD hS hA [5, 6] rfl rfl (fun H locs hP hD hS => ?_)
        have hP : va_P D vwCl [(gp, .inr (1, [.ref gpa, .ref gpb, .ref gpc, .ref gpd, .int gpsz, .int gpsn, .int gpal, .int gpre])), (gpa, .inl (k 0, 32, .inl gpfa)), (gpb, .inl (k 0, 32, .inl gpfb)), (gpc, .inl (k 0, 12, .inl gpfc)), (gpd, .inl (k 0, 12, .inl gpfd)), (t, .inr (3, [.int tl, .int tw, .ref tc, .int ts])), (tc, .inl (k 0, tn, .inl tf)), (az, .inl (k 0, 32, .inl azf))] H := hP
        have hD : va_D A [(gp, .inr (1, [.ref gpa, .ref gpb, .ref gpc, .ref gpd, .int gpsz, .int gpsn, .int gpal, .int gpre])), (gpa, .inl (k 0, 32, .inl gpfa)), (gpb, .inl (k 0, 32, .inl gpfb)), (gpc, .inl (k 0, 12, .inl gpfc)), (gpd, .inl (k 0, 12, .inl gpfd)), (t, .inr (3, [.int tl, .int tw, .ref tc, .int ts])), (tc, .inl (k 0, tn, .inl tf)), (az, .inl (k 0, 32, .inl azf))] := hD
        obtain ⟨hi5, h⟩ := zg h
        refine va_iast hx hb hK hP hD hS 3 0 rfl rfl hi5 dX1_draw_85 (fun H locs hP hD hS => ?_)
        have hP : va_P D vwCl [(gp, .inr (1, [.ref gpa, .ref gpb, .ref gpc, .ref gpd, .int gpsz, .int gpsn, .int gpal, .int gpre])), (gpa, .inl (k 0, 32, .inl gpfa)), (gpb, .inl (k 0, 32, .inl gpfb)), (gpc, .inl (k 0, 12, .inl (upd gpfc (Int32.toNatClampNeg v3) r4))), (gpd, .inl (k 0, 12, .inl gpfd)), (t, .inr (3, [.int tl, .int tw, .ref tc, .int ts])), (tc, .inl (k 0, tn, .inl tf)), (az, .inl (k 0, 32, .inl azf))] H := hP
        have hD : va_D A [(gp, .inr (1, [.ref gpa, .ref gpb, .ref gpc, .ref gpd, .int gpsz, .int gpsn, .int gpal, .int gpre])), (gpa, .inl (k 0, 32, .inl gpfa)), (gpb, .inl (k 0, 32, .inl gpfb)), (gpc, .inl (k 0, 12, .inl (upd gpfc (Int32.toNatClampNeg v3) r4))), (gpd, .inl (k 0, 12, .inl gpfd)), (t, .inr (3, [.int tl, .int tw, .ref tc, .int ts])), (tc, .inl (k 0, tn, .inl tf)), (az, .inl (k 0, 32, .inl azf))] := hD
        refine lv_aload_n hx hb dX1_draw_86 rfl (lv_at hl 0 rfl) ?_
        refine va_get (D := D) (ci := 1) (v := .ref gpd) (C := RX1) (T := TX1) (N := 8) hx hb ht hiX1 hown hK hP 0 rfl rfl 3 (by decide) (ht _ wb217) (fun _ h9 => h9) rfl dX1_draw_87 ?_
        refine lv_iload_n hx hb dX1_draw_90 rfl (lv_at hl 3 rfl) ?_
        refine lv_aload_n hx hb dX1_draw_91 rfl (lv_at hl 1 rfl) ?_
        refine lv_iload_n hx hb dX1_draw_92 rfl (lv_at hl 3 rfl) ?_
        refine lv_bipush (v := 9) hx hb dX1_draw_93 (by decide) ?_
        obtain ⟨r5, h5, h⟩ := zb h
        refine zi (zrV (C := RX3) (T := TX3) (N := 4) (As := [.int v3, .int 9]) (rest := [.int v3, .ref gpd]) ⟨hx, hb, hml, hown, ht⟩ (c_X3_get l D k t tc tl tw ts tn tf v3 9 h5 _) (cwV 2 ht (gdV wb423 wb344 wb345 wb74 wb346) rfl rfl rfl (by decide +kernel) ⟨Nat.le_of_ble_eq_true rfl, Nat.le_of_ble_eq_true rfl⟩) hK hP hD hS hA hm [5, 6] rfl rfl 5 3 rfl rfl rfl hl.1 rfl (Nat.le_of_ble_eq_true rfl) dX1_draw_95 ⟨Nat.le_refl _, Nat.le_refl _⟩) hP hD hS hA [5, 6] rfl rfl (fun H locs hP hD hS => ?_)
        have hP : va_P D vwCl [(gp, .inr (1, [.ref gpa, .ref gpb, .ref gpc, .ref gpd, .int gpsz, .int gpsn, .int gpal, .int gpre])), (gpa, .inl (k 0, 32, .inl gpfa)), (gpb, .inl (k 0, 32, .inl gpfb)), (gpc, .inl (k 0, 12, .inl (upd gpfc (Int32.toNatClampNeg v3) r4))), (gpd, .inl (k 0, 12, .inl gpfd)), (t, .inr (3, [.int tl, .int tw, .ref tc, .int ts])), (tc, .inl (k 0, tn, .inl tf)), (az, .inl (k 0, 32, .inl azf))] H := hP
        have hD : va_D A [(gp, .inr (1, [.ref gpa, .ref gpb, .ref gpc, .ref gpd, .int gpsz, .int gpsn, .int gpal, .int gpre])), (gpa, .inl (k 0, 32, .inl gpfa)), (gpb, .inl (k 0, 32, .inl gpfb)), (gpc, .inl (k 0, 12, .inl (upd gpfc (Int32.toNatClampNeg v3) r4))), (gpd, .inl (k 0, 12, .inl gpfd)), (t, .inr (3, [.int tl, .int tw, .ref tc, .int ts])), (tc, .inl (k 0, tn, .inl tf)), (az, .inl (k 0, 32, .inl azf))] := hD
        obtain ⟨hi6, h⟩ := zg h
        refine va_iast hx hb hK hP hD hS 4 0 rfl rfl hi6 dX1_draw_98 (fun H locs hP hD hS => ?_)
        have hP : va_P D vwCl [(gp, .inr (1, [.ref gpa, .ref gpb, .ref gpc, .ref gpd, .int gpsz, .int gpsn, .int gpal, .int gpre])), (gpa, .inl (k 0, 32, .inl gpfa)), (gpb, .inl (k 0, 32, .inl gpfb)), (gpc, .inl (k 0, 12, .inl (upd gpfc (Int32.toNatClampNeg v3) r4))), (gpd, .inl (k 0, 12, .inl (upd gpfd (Int32.toNatClampNeg v3) r5))), (t, .inr (3, [.int tl, .int tw, .ref tc, .int ts])), (tc, .inl (k 0, tn, .inl tf)), (az, .inl (k 0, 32, .inl azf))] H := hP
        have hD : va_D A [(gp, .inr (1, [.ref gpa, .ref gpb, .ref gpc, .ref gpd, .int gpsz, .int gpsn, .int gpal, .int gpre])), (gpa, .inl (k 0, 32, .inl gpfa)), (gpb, .inl (k 0, 32, .inl gpfb)), (gpc, .inl (k 0, 12, .inl (upd gpfc (Int32.toNatClampNeg v3) r4))), (gpd, .inl (k 0, 12, .inl (upd gpfd (Int32.toNatClampNeg v3) r5))), (t, .inr (3, [.int tl, .int tw, .ref tc, .int ts])), (tc, .inl (k 0, tn, .inl tf)), (az, .inl (k 0, 32, .inl azf))] := hD
        refine lv_iinc (v := v3 + 1) (lv' := [(3, .int (v3 + 1)), (0, .ref gp), (1, .ref t), (2, .ref az)]) hx hb dX1_draw_99 hl (k := 3) rfl rfl (by decide) rfl (fun ls hl => ?_)
        refine lv_goto (tgt := 67) hx hb dX1_draw_102 (by decide) ?_
        exact ih _ _ _ h _ _ hP hD hS _ (lv_sub hl [1, 2, 3, 0] rfl)
  refine loop67 _ _ _ _ _ _ _ _ _ _ _ _ _ ?_ fu _ _ _ h _ _ hP hD hS _ (lv_sub hl [1, 2, 3, 0] rfl)
  intro x4 x5 x6 h H locs hP hD hS ls hl
  try dsimp only at h
  have hP : va_P D vwCl [(gp, .inr (1, [.ref gpa, .ref gpb, .ref gpc, .ref gpd, .int (zmin r1 12), .int gpsn, .int gpal, .int gpre])), (gpa, .inl (k 0, 32, .inl x2)), (gpb, .inl (k 0, 32, .inl x3)), (gpc, .inl (k 0, 12, .inl x5)), (gpd, .inl (k 0, 12, .inl x6)), (t, .inr (3, [.int tl, .int tw, .ref tc, .int ts])), (tc, .inl (k 0, tn, .inl tf)), (az, .inl (k 0, 32, .inl azf))] H := hP
  have hD : va_D A [(gp, .inr (1, [.ref gpa, .ref gpb, .ref gpc, .ref gpd, .int (zmin r1 12), .int gpsn, .int gpal, .int gpre])), (gpa, .inl (k 0, 32, .inl x2)), (gpb, .inl (k 0, 32, .inl x3)), (gpc, .inl (k 0, 12, .inl x5)), (gpd, .inl (k 0, 12, .inl x6)), (t, .inr (3, [.int tl, .int tw, .ref tc, .int ts])), (tc, .inl (k 0, tn, .inl tf)), (az, .inl (k 0, 32, .inl azf))] := hD
  have hl : lv_has ls 4 [(0, .ref gp), (1, .ref t), (2, .ref az), (3, .int x4)] := hl
  refine lv_aload_n hx hb dX1_draw_105 rfl (lv_at hl 0 rfl) ?_
  obtain ⟨r6, h6, h⟩ := zb h
  refine zv (zrV (C := RX1) (T := TX1) (N := 8) (As := []) (rest := []) ⟨hx, hb, hml, hown, ht⟩ (c_X1_forget l D k gp gpa gpb gpc gpd (zmin r1 12) gpsn gpal gpre  h6 _) (cwV 0 ht (gdV wb424 wb426 wb6 wb79 wb427) rfl rfl rfl (by decide +kernel) ⟨Nat.le_of_ble_eq_true rfl, Nat.le_of_ble_eq_true rfl⟩) hK hP hD hS hA hm [0] rfl rfl 0 1 rfl rfl rfl hl.1 rfl (Nat.le_of_ble_eq_true rfl) dX1_draw_106 ⟨Nat.le_refl _, Nat.le_refl _⟩) hP hD hS hA [0] rfl rfl (fun H locs hP hD hS => ?_)
  have hP : va_P D vwCl [(gp, .inr (1, [.ref gpa, .ref gpb, .ref gpc, .ref gpd, .int (zmin r1 12), .int r6.1, .int r6.2.1, .int r6.2.2])), (gpa, .inl (k 0, 32, .inl x2)), (gpb, .inl (k 0, 32, .inl x3)), (gpc, .inl (k 0, 12, .inl x5)), (gpd, .inl (k 0, 12, .inl x6)), (t, .inr (3, [.int tl, .int tw, .ref tc, .int ts])), (tc, .inl (k 0, tn, .inl tf)), (az, .inl (k 0, 32, .inl azf))] H := hP
  have hD : va_D A [(gp, .inr (1, [.ref gpa, .ref gpb, .ref gpc, .ref gpd, .int (zmin r1 12), .int r6.1, .int r6.2.1, .int r6.2.2])), (gpa, .inl (k 0, 32, .inl x2)), (gpb, .inl (k 0, 32, .inl x3)), (gpc, .inl (k 0, 12, .inl x5)), (gpd, .inl (k 0, 12, .inl x6)), (t, .inr (3, [.int tl, .int tw, .ref tc, .int ts])), (tc, .inl (k 0, tn, .inl tf)), (az, .inl (k 0, 32, .inl azf))] := hD
  obtain rfl := Option.some.inj h
  exact W.vret hx hb hr (fun t ht9 hW => ⟨⟨(), rfl, trivial, zend ht9 hP⟩, hS.F ht9⟩) hS.2.2 dX1_draw_109
def f_X1_addressesOf_L5 (fu : Nat) (K : Int32 → Int32 → Option (Int32)) (v1 : Int32) (v2 : Int32) (an : Nat) (azf : Nat → Int32) : Nat → Int32 → Int32 → Option (Int32)
  | 0, _, _ => none
  | n + 1, v3, v4 =>
  if (nI an) ≤ v4 then (K v3 v4) else (if zok v4 an then ((f_X1_holds  (azf (Int32.toNatClampNeg v4)) v1).bind fun r1 => if (zB r1) = 0 then (f_X1_addressesOf_L5 fu K v1 v2 an azf n v3 (v4 + 1)) else (if zok v4 an then ((f_X1_holds  (azf (Int32.toNatClampNeg v4)) v2).bind fun r2 => if (zB r2) = 0 then (f_X1_addressesOf_L5 fu K v1 v2 an azf n v3 (v4 + 1)) else (f_X1_addressesOf_L5 fu K v1 v2 an azf n (v3 + 1) (v4 + 1))) else none)) else none)
def f_X1_addressesOf (fu : Nat) (an : Nat) (azf : Nat → Int32) (a1 : Int32) (a2 : Int32) : Option (Int32) :=
  f_X1_addressesOf_L5 fu (fun (x1 : Int32) (x2 : Int32) => some (x1)) a1 a2 an azf fu 0 0
abbrev wk_X1_addressesOf : List Cond := Cond.code yX1_addressesOf cX1_addressesOf 5 (some .int) :: WB
abbrev rm_X1_addressesOf : Room := { frames := 1, cells := 0, slots := 0, locals := 21 }
set_option maxHeartbeats 4000000 in
set_option maxRecDepth 100000 in
theorem c_X1_addressesOf (l : Launch) (D : va_G) (k : Nat → Nat) (az : Nat) (an : Nat) (azf : Nat → Int32) (a1 : Int32) (a2 : Int32) (fu : Nat) {res : Int32} (h : f_X1_addressesOf fu an azf a1 a2 = some res) : Ci l yX1_addressesOf wk_X1_addressesOf rm_X1_addressesOf D k [.ref az, .int a1, .int a2] [(az, .inl (k 0, an, .inl azf))] [(az, .inl (k 0, an, .inl azf))] res := by
  unfold Ci
  intro sz
  refine Met.ofW (cc := cX1_addressesOf) (maxL := 5) (ret := (some .int)) (by decide) rfl ?_
  intro p e s m args below meth c s₁ B hml hv
  obtain ⟨rfl, hsz, hP, hK, hD0, hm⟩ := hv
  have hx := B.exec
  have hb := B.bytes
  have hr := B.returns
  have ht : ∀ w ∈ WB, w.before _ s = true := fun w hw => atoms_spec (ws := wk_X1_addressesOf) B.pre w (List.mem_cons_of_mem _ hw)
  have hown : s.vm.findClass RX1 = some m.cls := findClass_of_methodNamed B.named
  have hlocks := B.notSynchronized
  subst hsz
  have hD := hD0.self (sz := s.heap.size)
  generalize hAe : va_A [(az, .inl (k 0, an, .inl azf))] s.heap.size = A at hD hm ⊢
  have hA : ∀ q : Nat, s.heap.size ≤ q → A q := fun q h => by rw [← hAe]; exact Or.inr h
  have hS : va_S A s.heap s.heap [] := va_S.rf
  have hl := lv_entry ([.ref az, .int a1, .int a2]) (n := 5) (Nat.le_of_ble_eq_true rfl)
  rw [lg_entry_eq]
  generalize (lg_sl ([.ref az, .int a1, .int a2]) ++ List.replicate (5 - (lg_sl ([.ref az, .int a1, .int a2])).length) Slot.unset).toArray = ls at hl ⊢
  have hl : lv_has ls 5 [(0, .ref az), (1, .int a1), (2, .int a2)] := hl
  obtain ⟨H, hH⟩ : ∃ H, H = s.heap := ⟨_, rfl⟩
  rw [← hH] at hP
  have hS : va_S A s.heap H [] := by rw [hH]; exact hS
  suffices hgo : W p l e _ s m _ below meth c H [] 0 0 _ _ by rw [hH] at hgo; exact hgo
  unfold f_X1_addressesOf at h
  refine lv_iconst (v := 0) hx hb dX1_addressesOf_0 (by decide) ?_
  refine lv_istore_n (lv' := [(3, .int 0), (0, .ref az), (1, .int a1), (2, .int a2)]) hx hb dX1_addressesOf_1 rfl hl (by decide) rfl (fun ls hl => ?_)
  refine lv_iconst (v := 0) hx hb dX1_addressesOf_2 (by decide) ?_
  refine lv_istore (lv' := [(4, .int 0), (3, .int 0), (0, .ref az), (1, .int a1), (2, .int a2)]) hx hb dX1_addressesOf_3 hl (by decide) rfl (fun ls hl => ?_)
  have loop5 : ∀ (v1 : Int32) (v2 : Int32) (an : Nat) (azf : Nat → Int32), ∀ (K : Int32 → Int32 → Option (Int32)), (∀ (v3 : Int32) (v4 : Int32), K v3 v4 = some res → ∀ (H : Heap) (locs : List Loc), va_P D vwCl [(az, .inl (k 0, an, .inl azf))] H → va_D A [(az, .inl (k 0, an, .inl azf))] → va_S A s.heap H locs → ∀ ls : Array Slot, lv_has ls 5 [(0, .ref az), (1, .int v1), (2, .int v2), (3, .int v3), (4, .int v4)] → W p l e (headSpec wk_X1_addressesOf rm_X1_addressesOf).room s m ([.ref az, .int a1, .int a2] : List Value).toArray below meth c H locs 0 0 (MQ below (va_Qi (fun xq9 (_ : Unit) => xq9 = res) (fun _ tq9 => va_P D vwCl [(az, .inl (k 0, an, .inl azf))] tq9.heap) A) ([.ref az, .int a1, .int a2] : List Value).toArray s 0 0 A) (F0 m 43 ls [])) → ∀ (n : Nat) (v3 : Int32) (v4 : Int32), f_X1_addressesOf_L5 fu K v1 v2 an azf n v3 v4 = some res → ∀ (H : Heap) (locs : List Loc), va_P D vwCl [(az, .inl (k 0, an, .inl azf))] H → va_D A [(az, .inl (k 0, an, .inl azf))] → va_S A s.heap H locs → ∀ ls : Array Slot, lv_has ls 5 [(0, .ref az), (1, .int v1), (2, .int v2), (3, .int v3), (4, .int v4)] → W p l e (headSpec wk_X1_addressesOf rm_X1_addressesOf).room s m ([.ref az, .int a1, .int a2] : List Value).toArray below meth c H locs 0 0 (MQ below (va_Qi (fun xq9 (_ : Unit) => xq9 = res) (fun _ tq9 => va_P D vwCl [(az, .inl (k 0, an, .inl azf))] tq9.heap) A) ([.ref az, .int a1, .int a2] : List Value).toArray s 0 0 A) (F0 m 5 ls []) := by
    intro v1 v2 an azf K hKK n
    induction n with
    | zero =>
      intro v3 v4 h
      rw [f_X1_addressesOf_L5] at h
      cases h
    | succ n ih =>
      intro v3 v4 h H locs hP hD hS ls hl
      rw [f_X1_addressesOf_L5] at h
      refine lv_iload hx hb dX1_addressesOf_5 (lv_at hl 4 rfl) ?_
      refine lv_aload_n hx hb dX1_addressesOf_7 rfl (lv_at hl 0 rfl) ?_
      refine va_alen (v := nI an) hx hb hK hP 0 0 rfl rfl rfl dX1_addressesOf_8 ?_
      refine lv_icmp_ge (tgt := 43) hx hb dX1_addressesOf_9 (by decide) (fun c3 => ?_) (fun c3 => ?_)
      · have h := zt h c3
        exact hKK _ _ h _ _ hP hD hS _ (lv_sub hl [0, 1, 2, 3, 4] rfl)
      · have h := zf h c3
        refine lv_aload_n hx hb dX1_addressesOf_12 rfl (lv_at hl 0 rfl) ?_
        refine lv_iload hx hb dX1_addressesOf_13 (lv_at hl 4 rfl) ?_
        obtain ⟨hi1, h⟩ := zg h
        refine va_iald hx hb hK hP 0 0 rfl rfl hi1 dX1_addressesOf_15 ?_
        refine lv_iload_n hx hb dX1_addressesOf_16 rfl (lv_at hl 1 rfl) ?_
        obtain ⟨r1, h1, h⟩ := zb h
        refine zi (zrS (As := [.int (azf (Int32.toNatClampNeg v4)), .int v1]) (rest := []) ⟨hx, hb, hml, hown, ht⟩ (c_X1_holds l D k   (azf (Int32.toNatClampNeg v4)) v1 h1 _) (va_cwS 2 ht (gdS wb437 wb438 wb79 wb439) rfl rfl rfl (by decide +kernel) ⟨Nat.le_of_ble_eq_true rfl, Nat.le_of_ble_eq_true rfl⟩) hK hP hD hS hA hm [] rfl rfl rfl hl.1 rfl (Nat.le_of_ble_eq_true rfl) dX1_addressesOf_17 ⟨Nat.le_refl _, Nat.le_refl _⟩) hP hD hS hA [] rfl rfl (fun H locs hP hD hS => ?_)
        have hP : va_P D vwCl [(az, .inl (k 0, an, .inl azf))] H := hP
        have hD : va_D A [(az, .inl (k 0, an, .inl azf))] := hD
        refine lv_if_eq (tgt := 37) hx hb dX1_addressesOf_20 (by decide) (fun c2 => ?_) (fun c2 => ?_)
        · have h := zt h c2
          refine lv_iinc (v := v4 + 1) (lv' := [(4, .int (v4 + 1)), (0, .ref az), (1, .int v1), (2, .int v2), (3, .int v3)]) hx hb dX1_addressesOf_37 hl (k := 4) rfl rfl (by decide) rfl (fun ls hl => ?_)
          refine lv_goto (tgt := 5) hx hb dX1_addressesOf_40 (by decide) ?_
          exact ih _ _ h _ _ hP hD hS _ (lv_sub hl [1, 2, 3, 4, 0] rfl)
        · have h := zf h c2
          refine lv_aload_n hx hb dX1_addressesOf_23 rfl (lv_at hl 0 rfl) ?_
          refine lv_iload hx hb dX1_addressesOf_24 (lv_at hl 4 rfl) ?_
          obtain ⟨hi2, h⟩ := zg h
          refine va_iald hx hb hK hP 0 0 rfl rfl hi2 dX1_addressesOf_26 ?_
          refine lv_iload_n hx hb dX1_addressesOf_27 rfl (lv_at hl 2 rfl) ?_
          obtain ⟨r2, h2, h⟩ := zb h
          refine zi (zrS (As := [.int (azf (Int32.toNatClampNeg v4)), .int v2]) (rest := []) ⟨hx, hb, hml, hown, ht⟩ (c_X1_holds l D k   (azf (Int32.toNatClampNeg v4)) v2 h2 _) (va_cwS 2 ht (gdS wb437 wb438 wb79 wb439) rfl rfl rfl (by decide +kernel) ⟨Nat.le_of_ble_eq_true rfl, Nat.le_of_ble_eq_true rfl⟩) hK hP hD hS hA hm [] rfl rfl rfl hl.1 rfl (Nat.le_of_ble_eq_true rfl) dX1_addressesOf_28 ⟨Nat.le_refl _, Nat.le_refl _⟩) hP hD hS hA [] rfl rfl (fun H locs hP hD hS => ?_)
          have hP : va_P D vwCl [(az, .inl (k 0, an, .inl azf))] H := hP
          have hD : va_D A [(az, .inl (k 0, an, .inl azf))] := hD
          refine lv_if_eq (tgt := 37) hx hb dX1_addressesOf_31 (by decide) (fun c1 => ?_) (fun c1 => ?_)
          · have h := zt h c1
            refine lv_iinc (v := v4 + 1) (lv' := [(4, .int (v4 + 1)), (0, .ref az), (1, .int v1), (2, .int v2), (3, .int v3)]) hx hb dX1_addressesOf_37 hl (k := 4) rfl rfl (by decide) rfl (fun ls hl => ?_)
            refine lv_goto (tgt := 5) hx hb dX1_addressesOf_40 (by decide) ?_
            exact ih _ _ h _ _ hP hD hS _ (lv_sub hl [1, 2, 3, 4, 0] rfl)
          · have h := zf h c1
            refine lv_iinc (v := v3 + 1) (lv' := [(3, .int (v3 + 1)), (0, .ref az), (1, .int v1), (2, .int v2), (4, .int v4)]) hx hb dX1_addressesOf_34 hl (k := 3) rfl rfl (by decide) rfl (fun ls hl => ?_)
            refine lv_iinc (v := v4 + 1) (lv' := [(4, .int (v4 + 1)), (3, .int (v3 + 1)), (0, .ref az), (1, .int v1), (2, .int v2)]) hx hb dX1_addressesOf_37 hl (k := 4) rfl rfl (by decide) rfl (fun ls hl => ?_)
            refine lv_goto (tgt := 5) hx hb dX1_addressesOf_40 (by decide) ?_
            exact ih _ _ h _ _ hP hD hS _ (lv_sub hl [2, 3, 4, 1, 0] rfl)
  refine loop5 _ _ _ _ _ ?_ fu _ _ h _ _ hP hD hS _ (lv_sub hl [2, 3, 4, 1, 0] rfl)
  intro x1 x2 h H locs hP hD hS ls hl
  try dsimp only at h
  have hP : va_P D vwCl [(az, .inl (k 0, an, .inl azf))] H := hP
  have hD : va_D A [(az, .inl (k 0, an, .inl azf))] := hD
  have hl : lv_has ls 5 [(0, .ref az), (1, .int a1), (2, .int a2), (3, .int x1), (4, .int x2)] := hl
  refine lv_iload_n hx hb dX1_addressesOf_43 rfl (lv_at hl 3 rfl) ?_
  obtain rfl := Option.some.inj h
  exact W.iret (v := x1) hx hb hr (fun t ht9 hW => ⟨⟨_, (), rfl, rfl, zend ht9 hP⟩, hS.F ht9⟩) hS.2.2 dX1_addressesOf_44
def f_X1_casesFitting (fu : Nat) (gpsz : Int32) (gpfa : Nat → Int32) (gpfb : Nat → Int32) (gpfc : Nat → Int32) (a1 : Int32) (a2 : Int32) : Option (Int32) :=
  (f_X5_within  a1 0 (gpsz - 1)).bind fun r1 => if (zB r1) = 0 then (some (0)) else ((f_X5_within  a2 0 (gpsz - 1)).bind fun r2 => if (zB r2) = 0 then (some (0)) else ((f_X1_addressesOf fu 32 gpfa a1 a2).bind fun r3 => (f_X1_addressesOf fu 32 gpfb a1 a2).bind fun r4 => if zok a1 12 then (if zok a2 12 then ((f_J6_bitCount_0f7a4  ((gpfc (Int32.toNatClampNeg a1)) &&& (gpfc (Int32.toNatClampNeg a2)))).bind fun r5 => some ((r3 * r4) * r5)) else none) else none))
abbrev wk_X1_casesFitting : List Cond := Cond.code yX1_casesFitting cX1_casesFitting 3 (some .int) :: WB
abbrev rm_X1_casesFitting : Room := { frames := 2, cells := 0, slots := 0, locals := 45 }
set_option maxHeartbeats 4000000 in
set_option maxRecDepth 100000 in
theorem c_X1_casesFitting (l : Launch) (D : va_G) (k : Nat → Nat) (gp gpa gpb gpc gpd : Nat) (gpsz : Int32) (gpsn : Int32) (gpal : Int32) (gpre : Int32) (gpfa : Nat → Int32) (gpfb : Nat → Int32) (gpfc : Nat → Int32) (a1 : Int32) (a2 : Int32) (fu : Nat) {res : Int32} (h : f_X1_casesFitting fu gpsz gpfa gpfb gpfc a1 a2 = some res) : Ci l yX1_casesFitting wk_X1_casesFitting rm_X1_casesFitting D k [.ref gp, .int a1, .int a2] [(gp, .inr (1, [.ref gpa, .ref gpb, .ref gpc, .ref gpd, .int gpsz, .int gpsn, .int gpal, .int gpre])), (gpa, .inl (k 0, 32, .inl gpfa)), (gpb, .inl (k 0, 32, .inl gpfb)), (gpc, .inl (k 0, 12, .inl gpfc))] [(gp, .inr (1, [.ref gpa, .ref gpb, .ref gpc, .ref gpd, .int gpsz, .int gpsn, .int gpal, .int gpre])), (gpa, .inl (k 0, 32, .inl gpfa)), (gpb, .inl (k 0, 32, .inl gpfb)), (gpc, .inl (k 0, 12, .inl gpfc))] res := by
  unfold Ci
  intro sz
  refine Met.ofW (cc := cX1_casesFitting) (maxL := 3) (ret := (some .int)) (by decide) rfl ?_
  intro p e s m args below meth c s₁ B hml hv
  obtain ⟨rfl, hsz, hP, hK, hD0, hm⟩ := hv
  have hx := B.exec
  have hb := B.bytes
  have hr := B.returns
  have ht : ∀ w ∈ WB, w.before _ s = true := fun w hw => atoms_spec (ws := wk_X1_casesFitting) B.pre w (List.mem_cons_of_mem _ hw)
  have hown : s.vm.findClass RX1 = some m.cls := findClass_of_methodNamed B.named
  have hlocks := B.notSynchronized
  subst hsz
  have hD := hD0.self (sz := s.heap.size)
  generalize hAe : va_A [(gp, .inr (1, [.ref gpa, .ref gpb, .ref gpc, .ref gpd, .int gpsz, .int gpsn, .int gpal, .int gpre])), (gpa, .inl (k 0, 32, .inl gpfa)), (gpb, .inl (k 0, 32, .inl gpfb)), (gpc, .inl (k 0, 12, .inl gpfc))] s.heap.size = A at hD hm ⊢
  have hA : ∀ q : Nat, s.heap.size ≤ q → A q := fun q h => by rw [← hAe]; exact Or.inr h
  have hS : va_S A s.heap s.heap [] := va_S.rf
  have hl := lv_entry ([.ref gp, .int a1, .int a2]) (n := 3) (Nat.le_of_ble_eq_true rfl)
  rw [lg_entry_eq]
  generalize (lg_sl ([.ref gp, .int a1, .int a2]) ++ List.replicate (3 - (lg_sl ([.ref gp, .int a1, .int a2])).length) Slot.unset).toArray = ls at hl ⊢
  have hl : lv_has ls 3 [(0, .ref gp), (1, .int a1), (2, .int a2)] := hl
  obtain ⟨H, hH⟩ : ∃ H, H = s.heap := ⟨_, rfl⟩
  rw [← hH] at hP
  have hS : va_S A s.heap H [] := by rw [hH]; exact hS
  suffices hgo : W p l e _ s m _ below meth c H [] 0 0 _ _ by rw [hH] at hgo; exact hgo
  unfold f_X1_casesFitting at h
  refine lv_iload_n hx hb dX1_casesFitting_0 rfl (lv_at hl 1 rfl) ?_
  refine lv_iconst (v := 0) hx hb dX1_casesFitting_1 (by decide) ?_
  refine lv_aload_n hx hb dX1_casesFitting_2 rfl (lv_at hl 0 rfl) ?_
  refine va_get (D := D) (ci := 1) (v := .int gpsz) (C := RX1) (T := TX1) (N := 8) hx hb ht hiX1 hown hK hP 0 rfl rfl 4 (by decide) (ht _ wb218) (fun _ h9 => h9) rfl dX1_casesFitting_3 ?_
  refine lv_iconst (v := 1) hx hb dX1_casesFitting_6 (by decide) ?_
  refine lv_isub hx hb dX1_casesFitting_7 ?_
  obtain ⟨r1, h1, h⟩ := zb h
  refine zi (zrN (As := [.int a1, .int 0, .int (gpsz - 1)]) (rest := []) ⟨hx, hb, hml, hown, ht⟩ (c_X5_within l D k   a1 0 (gpsz - 1) h1 _) ⟨va_cnB 3 ht (gdN wb270) rfl rfl rfl (hm.1 _ (List.mem_of_getElem? (i := 18) rfl)) (ht _ wb72) (by decide +kernel) ⟨Nat.le_of_ble_eq_true rfl, Nat.le_of_ble_eq_true rfl⟩, ht _ wb269, trivial⟩ hK hP hD hS hA hm [] rfl rfl rfl hl.1 rfl (Nat.le_of_ble_eq_true rfl) dX1_casesFitting_8 ⟨Nat.le_refl _, Nat.le_refl _⟩) hP hD hS hA [] rfl rfl (fun H locs hP hD hS => ?_)
  have hP : va_P D vwCl [(gp, .inr (1, [.ref gpa, .ref gpb, .ref gpc, .ref gpd, .int gpsz, .int gpsn, .int gpal, .int gpre])), (gpa, .inl (k 0, 32, .inl gpfa)), (gpb, .inl (k 0, 32, .inl gpfb)), (gpc, .inl (k 0, 12, .inl gpfc))] H := hP
  have hD : va_D A [(gp, .inr (1, [.ref gpa, .ref gpb, .ref gpc, .ref gpd, .int gpsz, .int gpsn, .int gpal, .int gpre])), (gpa, .inl (k 0, 32, .inl gpfa)), (gpb, .inl (k 0, 32, .inl gpfb)), (gpc, .inl (k 0, 12, .inl gpfc))] := hD
  refine lv_if_eq (tgt := 28) hx hb dX1_casesFitting_11 (by decide) (fun c2 => ?_) (fun c2 => ?_)
  · have h := zt h c2
    refine lv_iconst (v := 0) hx hb dX1_casesFitting_28 (by decide) ?_
    obtain rfl := Option.some.inj h
    exact W.iret (v := 0) hx hb hr (fun t ht9 hW => ⟨⟨_, (), rfl, rfl, zend ht9 hP⟩, hS.F ht9⟩) hS.2.2 dX1_casesFitting_29
  · have h := zf h c2
    refine lv_iload_n hx hb dX1_casesFitting_14 rfl (lv_at hl 2 rfl) ?_
    refine lv_iconst (v := 0) hx hb dX1_casesFitting_15 (by decide) ?_
    refine lv_aload_n hx hb dX1_casesFitting_16 rfl (lv_at hl 0 rfl) ?_
    refine va_get (D := D) (ci := 1) (v := .int gpsz) (C := RX1) (T := TX1) (N := 8) hx hb ht hiX1 hown hK hP 0 rfl rfl 4 (by decide) (ht _ wb218) (fun _ h9 => h9) rfl dX1_casesFitting_17 ?_
    refine lv_iconst (v := 1) hx hb dX1_casesFitting_20 (by decide) ?_
    refine lv_isub hx hb dX1_casesFitting_21 ?_
    obtain ⟨r2, h2, h⟩ := zb h
    refine zi (zrN (As := [.int a2, .int 0, .int (gpsz - 1)]) (rest := []) ⟨hx, hb, hml, hown, ht⟩ (c_X5_within l D k   a2 0 (gpsz - 1) h2 _) ⟨va_cnB 3 ht (gdN wb270) rfl rfl rfl (hm.1 _ (List.mem_of_getElem? (i := 18) rfl)) (ht _ wb72) (by decide +kernel) ⟨Nat.le_of_ble_eq_true rfl, Nat.le_of_ble_eq_true rfl⟩, ht _ wb269, trivial⟩ hK hP hD hS hA hm [] rfl rfl rfl hl.1 rfl (Nat.le_of_ble_eq_true rfl) dX1_casesFitting_22 ⟨Nat.le_refl _, Nat.le_refl _⟩) hP hD hS hA [] rfl rfl (fun H locs hP hD hS => ?_)
    have hP : va_P D vwCl [(gp, .inr (1, [.ref gpa, .ref gpb, .ref gpc, .ref gpd, .int gpsz, .int gpsn, .int gpal, .int gpre])), (gpa, .inl (k 0, 32, .inl gpfa)), (gpb, .inl (k 0, 32, .inl gpfb)), (gpc, .inl (k 0, 12, .inl gpfc))] H := hP
    have hD : va_D A [(gp, .inr (1, [.ref gpa, .ref gpb, .ref gpc, .ref gpd, .int gpsz, .int gpsn, .int gpal, .int gpre])), (gpa, .inl (k 0, 32, .inl gpfa)), (gpb, .inl (k 0, 32, .inl gpfb)), (gpc, .inl (k 0, 12, .inl gpfc))] := hD
    refine lv_if_ne (tgt := 30) hx hb dX1_casesFitting_25 (by decide) (fun c1 => ?_) (fun c1 => ?_)
    · have h := zf h c1
      refine lv_aload_n hx hb dX1_casesFitting_30 rfl (lv_at hl 0 rfl) ?_
      refine va_get (D := D) (ci := 1) (v := .ref gpa) (C := RX1) (T := TX1) (N := 8) hx hb ht hiX1 hown hK hP 0 rfl rfl 0 (by decide) (ht _ wb214) (fun _ h9 => h9) rfl dX1_casesFitting_31 ?_
      refine lv_iload_n hx hb dX1_casesFitting_34 rfl (lv_at hl 1 rfl) ?_
      refine lv_iload_n hx hb dX1_casesFitting_35 rfl (lv_at hl 2 rfl) ?_
      obtain ⟨r3, h3, h⟩ := zb h
      refine zi (zrS (As := [.ref gpa, .int a1, .int a2]) (rest := []) ⟨hx, hb, hml, hown, ht⟩ (c_X1_addressesOf l D k gpa 32 gpfa a1 a2 fu h3 _) (va_cwS 3 ht (gdS wb450 wb451 wb79 wb452) rfl rfl rfl (by decide +kernel) ⟨Nat.le_of_ble_eq_true rfl, Nat.le_of_ble_eq_true rfl⟩) hK hP hD hS hA hm [1] rfl rfl rfl hl.1 rfl (Nat.le_of_ble_eq_true rfl) dX1_casesFitting_36 ⟨Nat.le_refl _, Nat.le_refl _⟩) hP hD hS hA [1] rfl rfl (fun H locs hP hD hS => ?_)
      have hP : va_P D vwCl [(gp, .inr (1, [.ref gpa, .ref gpb, .ref gpc, .ref gpd, .int gpsz, .int gpsn, .int gpal, .int gpre])), (gpa, .inl (k 0, 32, .inl gpfa)), (gpb, .inl (k 0, 32, .inl gpfb)), (gpc, .inl (k 0, 12, .inl gpfc))] H := hP
      have hD : va_D A [(gp, .inr (1, [.ref gpa, .ref gpb, .ref gpc, .ref gpd, .int gpsz, .int gpsn, .int gpal, .int gpre])), (gpa, .inl (k 0, 32, .inl gpfa)), (gpb, .inl (k 0, 32, .inl gpfb)), (gpc, .inl (k 0, 12, .inl gpfc))] := hD
      refine lv_aload_n hx hb dX1_casesFitting_39 rfl (lv_at hl 0 rfl) ?_
      refine va_get (D := D) (ci := 1) (v := .ref gpb) (C := RX1) (T := TX1) (N := 8) hx hb ht hiX1 hown hK hP 0 rfl rfl 1 (by decide) (ht _ wb215) (fun _ h9 => h9) rfl dX1_casesFitting_40 ?_
      refine lv_iload_n hx hb dX1_casesFitting_43 rfl (lv_at hl 1 rfl) ?_
      refine lv_iload_n hx hb dX1_casesFitting_44 rfl (lv_at hl 2 rfl) ?_
      obtain ⟨r4, h4, h⟩ := zb h
      refine zi (zrS (As := [.ref gpb, .int a1, .int a2]) (rest := [.int r3]) ⟨hx, hb, hml, hown, ht⟩ (c_X1_addressesOf l D k gpb 32 gpfb a1 a2 fu h4 _) (va_cwS 3 ht (gdS wb450 wb451 wb79 wb452) rfl rfl rfl (by decide +kernel) ⟨Nat.le_of_ble_eq_true rfl, Nat.le_of_ble_eq_true rfl⟩) hK hP hD hS hA hm [2] rfl rfl rfl hl.1 rfl (Nat.le_of_ble_eq_true rfl) dX1_casesFitting_45 ⟨Nat.le_refl _, Nat.le_refl _⟩) hP hD hS hA [2] rfl rfl (fun H locs hP hD hS => ?_)
      have hP : va_P D vwCl [(gp, .inr (1, [.ref gpa, .ref gpb, .ref gpc, .ref gpd, .int gpsz, .int gpsn, .int gpal, .int gpre])), (gpa, .inl (k 0, 32, .inl gpfa)), (gpb, .inl (k 0, 32, .inl gpfb)), (gpc, .inl (k 0, 12, .inl gpfc))] H := hP
      have hD : va_D A [(gp, .inr (1, [.ref gpa, .ref gpb, .ref gpc, .ref gpd, .int gpsz, .int gpsn, .int gpal, .int gpre])), (gpa, .inl (k 0, 32, .inl gpfa)), (gpb, .inl (k 0, 32, .inl gpfb)), (gpc, .inl (k 0, 12, .inl gpfc))] := hD
      refine lv_imul hx hb dX1_casesFitting_48 ?_
      refine lv_aload_n hx hb dX1_casesFitting_49 rfl (lv_at hl 0 rfl) ?_
      refine va_get (D := D) (ci := 1) (v := .ref gpc) (C := RX1) (T := TX1) (N := 8) hx hb ht hiX1 hown hK hP 0 rfl rfl 2 (by decide) (ht _ wb216) (fun _ h9 => h9) rfl dX1_casesFitting_50 ?_
      refine lv_iload_n hx hb dX1_casesFitting_53 rfl (lv_at hl 1 rfl) ?_
      obtain ⟨hi1, h⟩ := zg h
      refine va_iald hx hb hK hP 3 0 rfl rfl hi1 dX1_casesFitting_54 ?_
      refine lv_aload_n hx hb dX1_casesFitting_55 rfl (lv_at hl 0 rfl) ?_
      refine va_get (D := D) (ci := 1) (v := .ref gpc) (C := RX1) (T := TX1) (N := 8) hx hb ht hiX1 hown hK hP 0 rfl rfl 2 (by decide) (ht _ wb216) (fun _ h9 => h9) rfl dX1_casesFitting_56 ?_
      refine lv_iload_n hx hb dX1_casesFitting_59 rfl (lv_at hl 2 rfl) ?_
      obtain ⟨hi2, h⟩ := zg h
      refine va_iald hx hb hK hP 3 0 rfl rfl hi2 dX1_casesFitting_60 ?_
      refine lv_iand hx hb dX1_casesFitting_61 ?_
      obtain ⟨r5, h5, h⟩ := zb h
      refine zi (zrS (As := [.int ((gpfc (Int32.toNatClampNeg a1)) &&& (gpfc (Int32.toNatClampNeg a2)))]) (rest := [.int (r3 * r4)]) ⟨hx, hb, hml, hown, ht⟩ (c_J6_bitCount_0f7a4 l D k   ((gpfc (Int32.toNatClampNeg a1)) &&& (gpfc (Int32.toNatClampNeg a2))) h5 _) (va_cwS 1 ht (gdS wb440 wb441 wb81 wb442) rfl rfl rfl (by decide +kernel) ⟨Nat.le_of_ble_eq_true rfl, Nat.le_of_ble_eq_true rfl⟩) hK hP hD hS hA hm [] rfl rfl rfl hl.1 rfl (Nat.le_of_ble_eq_true rfl) dX1_casesFitting_62 ⟨Nat.le_refl _, Nat.le_refl _⟩) hP hD hS hA [] rfl rfl (fun H locs hP hD hS => ?_)
      have hP : va_P D vwCl [(gp, .inr (1, [.ref gpa, .ref gpb, .ref gpc, .ref gpd, .int gpsz, .int gpsn, .int gpal, .int gpre])), (gpa, .inl (k 0, 32, .inl gpfa)), (gpb, .inl (k 0, 32, .inl gpfb)), (gpc, .inl (k 0, 12, .inl gpfc))] H := hP
      have hD : va_D A [(gp, .inr (1, [.ref gpa, .ref gpb, .ref gpc, .ref gpd, .int gpsz, .int gpsn, .int gpal, .int gpre])), (gpa, .inl (k 0, 32, .inl gpfa)), (gpb, .inl (k 0, 32, .inl gpfb)), (gpc, .inl (k 0, 12, .inl gpfc))] := hD
      refine lv_imul hx hb dX1_casesFitting_65 ?_
      obtain rfl := Option.some.inj h
      exact W.iret (v := (r3 * r4) * r5) hx hb hr (fun t ht9 hW => ⟨⟨_, (), rfl, rfl, zend ht9 hP⟩, hS.F ht9⟩) hS.2.2 dX1_casesFitting_66
    · have h := zt h c1
      refine lv_iconst (v := 0) hx hb dX1_casesFitting_28 (by decide) ?_
      obtain rfl := Option.some.inj h
      exact W.iret (v := 0) hx hb hr (fun t ht9 hW => ⟨⟨_, (), rfl, rfl, zend ht9 hP⟩, hS.F ht9⟩) hS.2.2 dX1_casesFitting_29
def f_X1_servicesDecided_L34 (fu : Nat) (K : Int32 → Int32 → Option (Int32)) (v1 : Int32) (v2 : Int32) (gpfc : Nat → Int32) : Nat → Int32 → Int32 → Option (Int32)
  | 0, _, _ => none
  | n + 1, v3, v4 =>
  if v1 ≤ v4 then (K v3 v4) else ((f_X1_holds  v2 v4).bind fun r3 => if (zB r3) = 0 then (f_X1_servicesDecided_L34 fu K v1 v2 gpfc n v3 (v4 + 1)) else (if zok v4 12 then (f_X1_servicesDecided_L34 fu K v1 v2 gpfc n (v3 &&& ((gpfc (Int32.toNatClampNeg v4)) ^^^ (-1))) (v4 + 1)) else none))
def f_X1_servicesDecided (fu : Nat) (gpsz : Int32) (gpfc : Nat → Int32) (a1 : Int32) (a2 : Int32) : Option (Int32) :=
  (f_X5_within  a1 0 (gpsz - 1)).bind fun r1 => if (zB r1) = 0 then (some (0)) else ((f_X1_holds  a2 a1).bind fun r2 => if (zB r2) = 0 then (some (0)) else (if zok a1 12 then (f_X1_servicesDecided_L34 fu (fun (x1 : Int32) (x2 : Int32) => some (x1)) a1 a2 gpfc fu (gpfc (Int32.toNatClampNeg a1)) 0) else none))
abbrev wk_X1_servicesDecided : List Cond := Cond.code yX1_servicesDecided cX1_servicesDecided 5 (some .int) :: WB
abbrev rm_X1_servicesDecided : Room := { frames := 1, cells := 0, slots := 0, locals := 22 }
set_option maxHeartbeats 4000000 in
set_option maxRecDepth 100000 in
theorem c_X1_servicesDecided (l : Launch) (D : va_G) (k : Nat → Nat) (gp gpa gpb gpc gpd : Nat) (gpsz : Int32) (gpsn : Int32) (gpal : Int32) (gpre : Int32) (gpfc : Nat → Int32) (a1 : Int32) (a2 : Int32) (fu : Nat) {res : Int32} (h : f_X1_servicesDecided fu gpsz gpfc a1 a2 = some res) : Ci l yX1_servicesDecided wk_X1_servicesDecided rm_X1_servicesDecided D k [.ref gp, .int a1, .int a2] [(gp, .inr (1, [.ref gpa, .ref gpb, .ref gpc, .ref gpd, .int gpsz, .int gpsn, .int gpal, .int gpre])), (gpc, .inl (k 0, 12, .inl gpfc))] [(gp, .inr (1, [.ref gpa, .ref gpb, .ref gpc, .ref gpd, .int gpsz, .int gpsn, .int gpal, .int gpre])), (gpc, .inl (k 0, 12, .inl gpfc))] res := by
  unfold Ci
  intro sz
  refine Met.ofW (cc := cX1_servicesDecided) (maxL := 5) (ret := (some .int)) (by decide) rfl ?_
  intro p e s m args below meth c s₁ B hml hv
  obtain ⟨rfl, hsz, hP, hK, hD0, hm⟩ := hv
  have hx := B.exec
  have hb := B.bytes
  have hr := B.returns
  have ht : ∀ w ∈ WB, w.before _ s = true := fun w hw => atoms_spec (ws := wk_X1_servicesDecided) B.pre w (List.mem_cons_of_mem _ hw)
  have hown : s.vm.findClass RX1 = some m.cls := findClass_of_methodNamed B.named
  have hlocks := B.notSynchronized
  subst hsz
  have hD := hD0.self (sz := s.heap.size)
  generalize hAe : va_A [(gp, .inr (1, [.ref gpa, .ref gpb, .ref gpc, .ref gpd, .int gpsz, .int gpsn, .int gpal, .int gpre])), (gpc, .inl (k 0, 12, .inl gpfc))] s.heap.size = A at hD hm ⊢
  have hA : ∀ q : Nat, s.heap.size ≤ q → A q := fun q h => by rw [← hAe]; exact Or.inr h
  have hS : va_S A s.heap s.heap [] := va_S.rf
  have hl := lv_entry ([.ref gp, .int a1, .int a2]) (n := 5) (Nat.le_of_ble_eq_true rfl)
  rw [lg_entry_eq]
  generalize (lg_sl ([.ref gp, .int a1, .int a2]) ++ List.replicate (5 - (lg_sl ([.ref gp, .int a1, .int a2])).length) Slot.unset).toArray = ls at hl ⊢
  have hl : lv_has ls 5 [(0, .ref gp), (1, .int a1), (2, .int a2)] := hl
  obtain ⟨H, hH⟩ : ∃ H, H = s.heap := ⟨_, rfl⟩
  rw [← hH] at hP
  have hS : va_S A s.heap H [] := by rw [hH]; exact hS
  suffices hgo : W p l e _ s m _ below meth c H [] 0 0 _ _ by rw [hH] at hgo; exact hgo
  unfold f_X1_servicesDecided at h
  refine lv_iload_n hx hb dX1_servicesDecided_0 rfl (lv_at hl 1 rfl) ?_
  refine lv_iconst (v := 0) hx hb dX1_servicesDecided_1 (by decide) ?_
  refine lv_aload_n hx hb dX1_servicesDecided_2 rfl (lv_at hl 0 rfl) ?_
  refine va_get (D := D) (ci := 1) (v := .int gpsz) (C := RX1) (T := TX1) (N := 8) hx hb ht hiX1 hown hK hP 0 rfl rfl 4 (by decide) (ht _ wb218) (fun _ h9 => h9) rfl dX1_servicesDecided_3 ?_
  refine lv_iconst (v := 1) hx hb dX1_servicesDecided_6 (by decide) ?_
  refine lv_isub hx hb dX1_servicesDecided_7 ?_
  obtain ⟨r1, h1, h⟩ := zb h
  refine zi (zrN (As := [.int a1, .int 0, .int (gpsz - 1)]) (rest := []) ⟨hx, hb, hml, hown, ht⟩ (c_X5_within l D k   a1 0 (gpsz - 1) h1 _) ⟨va_cnB 3 ht (gdN wb270) rfl rfl rfl (hm.1 _ (List.mem_of_getElem? (i := 18) rfl)) (ht _ wb72) (by decide +kernel) ⟨Nat.le_of_ble_eq_true rfl, Nat.le_of_ble_eq_true rfl⟩, ht _ wb269, trivial⟩ hK hP hD hS hA hm [] rfl rfl rfl hl.1 rfl (Nat.le_of_ble_eq_true rfl) dX1_servicesDecided_8 ⟨Nat.le_refl _, Nat.le_refl _⟩) hP hD hS hA [] rfl rfl (fun H locs hP hD hS => ?_)
  have hP : va_P D vwCl [(gp, .inr (1, [.ref gpa, .ref gpb, .ref gpc, .ref gpd, .int gpsz, .int gpsn, .int gpal, .int gpre])), (gpc, .inl (k 0, 12, .inl gpfc))] H := hP
  have hD : va_D A [(gp, .inr (1, [.ref gpa, .ref gpb, .ref gpc, .ref gpd, .int gpsz, .int gpsn, .int gpal, .int gpre])), (gpc, .inl (k 0, 12, .inl gpfc))] := hD
  refine lv_if_eq (tgt := 22) hx hb dX1_servicesDecided_11 (by decide) (fun c4 => ?_) (fun c4 => ?_)
  · have h := zt h c4
    refine lv_iconst (v := 0) hx hb dX1_servicesDecided_22 (by decide) ?_
    obtain rfl := Option.some.inj h
    exact W.iret (v := 0) hx hb hr (fun t ht9 hW => ⟨⟨_, (), rfl, rfl, zend ht9 hP⟩, hS.F ht9⟩) hS.2.2 dX1_servicesDecided_23
  · have h := zf h c4
    refine lv_iload_n hx hb dX1_servicesDecided_14 rfl (lv_at hl 2 rfl) ?_
    refine lv_iload_n hx hb dX1_servicesDecided_15 rfl (lv_at hl 1 rfl) ?_
    obtain ⟨r2, h2, h⟩ := zb h
    refine zi (zrS (As := [.int a2, .int a1]) (rest := []) ⟨hx, hb, hml, hown, ht⟩ (c_X1_holds l D k   a2 a1 h2 _) (va_cwS 2 ht (gdS wb437 wb438 wb79 wb439) rfl rfl rfl (by decide +kernel) ⟨Nat.le_of_ble_eq_true rfl, Nat.le_of_ble_eq_true rfl⟩) hK hP hD hS hA hm [] rfl rfl rfl hl.1 rfl (Nat.le_of_ble_eq_true rfl) dX1_servicesDecided_16 ⟨Nat.le_refl _, Nat.le_refl _⟩) hP hD hS hA [] rfl rfl (fun H locs hP hD hS => ?_)
    have hP : va_P D vwCl [(gp, .inr (1, [.ref gpa, .ref gpb, .ref gpc, .ref gpd, .int gpsz, .int gpsn, .int gpal, .int gpre])), (gpc, .inl (k 0, 12, .inl gpfc))] H := hP
    have hD : va_D A [(gp, .inr (1, [.ref gpa, .ref gpb, .ref gpc, .ref gpd, .int gpsz, .int gpsn, .int gpal, .int gpre])), (gpc, .inl (k 0, 12, .inl gpfc))] := hD
    refine lv_if_ne (tgt := 24) hx hb dX1_servicesDecided_19 (by decide) (fun c3 => ?_) (fun c3 => ?_)
    · have h := zf h c3
      refine lv_aload_n hx hb dX1_servicesDecided_24 rfl (lv_at hl 0 rfl) ?_
      refine va_get (D := D) (ci := 1) (v := .ref gpc) (C := RX1) (T := TX1) (N := 8) hx hb ht hiX1 hown hK hP 0 rfl rfl 2 (by decide) (ht _ wb216) (fun _ h9 => h9) rfl dX1_servicesDecided_25 ?_
      refine lv_iload_n hx hb dX1_servicesDecided_28 rfl (lv_at hl 1 rfl) ?_
      obtain ⟨hi1, h⟩ := zg h
      refine va_iald hx hb hK hP 1 0 rfl rfl hi1 dX1_servicesDecided_29 ?_
      refine lv_istore_n (lv' := [(3, .int (gpfc (Int32.toNatClampNeg a1))), (0, .ref gp), (1, .int a1), (2, .int a2)]) hx hb dX1_servicesDecided_30 rfl hl (by decide) rfl (fun ls hl => ?_)
      refine lv_iconst (v := 0) hx hb dX1_servicesDecided_31 (by decide) ?_
      refine lv_istore (lv' := [(4, .int 0), (3, .int (gpfc (Int32.toNatClampNeg a1))), (0, .ref gp), (1, .int a1), (2, .int a2)]) hx hb dX1_servicesDecided_32 hl (by decide) rfl (fun ls hl => ?_)
      have loop34 : ∀ (v1 : Int32) (v2 : Int32) (gpsz : Int32) (gpsn : Int32) (gpal : Int32) (gpre : Int32) (gpfc : Nat → Int32), ∀ (K : Int32 → Int32 → Option (Int32)), (∀ (v3 : Int32) (v4 : Int32), K v3 v4 = some res → ∀ (H : Heap) (locs : List Loc), va_P D vwCl [(gp, .inr (1, [.ref gpa, .ref gpb, .ref gpc, .ref gpd, .int gpsz, .int gpsn, .int gpal, .int gpre])), (gpc, .inl (k 0, 12, .inl gpfc))] H → va_D A [(gp, .inr (1, [.ref gpa, .ref gpb, .ref gpc, .ref gpd, .int gpsz, .int gpsn, .int gpal, .int gpre])), (gpc, .inl (k 0, 12, .inl gpfc))] → va_S A s.heap H locs → ∀ ls : Array Slot, lv_has ls 5 [(0, .ref gp), (1, .int v1), (2, .int v2), (3, .int v3), (4, .int v4)] → W p l e (headSpec wk_X1_servicesDecided rm_X1_servicesDecided).room s m ([.ref gp, .int a1, .int a2] : List Value).toArray below meth c H locs 0 0 (MQ below (va_Qi (fun xq9 (_ : Unit) => xq9 = res) (fun _ tq9 => va_P D vwCl [(gp, .inr (1, [.ref gpa, .ref gpb, .ref gpc, .ref gpd, .int gpsz, .int gpsn, .int gpal, .int gpre])), (gpc, .inl (k 0, 12, .inl gpfc))] tq9.heap) A) ([.ref gp, .int a1, .int a2] : List Value).toArray s 0 0 A) (F0 m 67 ls [])) → ∀ (n : Nat) (v3 : Int32) (v4 : Int32), f_X1_servicesDecided_L34 fu K v1 v2 gpfc n v3 v4 = some res → ∀ (H : Heap) (locs : List Loc), va_P D vwCl [(gp, .inr (1, [.ref gpa, .ref gpb, .ref gpc, .ref gpd, .int gpsz, .int gpsn, .int gpal, .int gpre])), (gpc, .inl (k 0, 12, .inl gpfc))] H → va_D A [(gp, .inr (1, [.ref gpa, .ref gpb, .ref gpc, .ref gpd, .int gpsz, .int gpsn, .int gpal, .int gpre])), (gpc, .inl (k 0, 12, .inl gpfc))] → va_S A s.heap H locs → ∀ ls : Array Slot, lv_has ls 5 [(0, .ref gp), (1, .int v1), (2, .int v2), (3, .int v3), (4, .int v4)] → W p l e (headSpec wk_X1_servicesDecided rm_X1_servicesDecided).room s m ([.ref gp, .int a1, .int a2] : List Value).toArray below meth c H locs 0 0 (MQ below (va_Qi (fun xq9 (_ : Unit) => xq9 = res) (fun _ tq9 => va_P D vwCl [(gp, .inr (1, [.ref gpa, .ref gpb, .ref gpc, .ref gpd, .int gpsz, .int gpsn, .int gpal, .int gpre])), (gpc, .inl (k 0, 12, .inl gpfc))] tq9.heap) A) ([.ref gp, .int a1, .int a2] : List Value).toArray s 0 0 A) (F0 m 34 ls []) := by
        intro v1 v2 gpsz gpsn gpal gpre gpfc K hKK n
        induction n with
        | zero =>
          intro v3 v4 h
          rw [f_X1_servicesDecided_L34] at h
          cases h
        | succ n ih =>
          intro v3 v4 h H locs hP hD hS ls hl
          rw [f_X1_servicesDecided_L34] at h
          refine lv_iload hx hb dX1_servicesDecided_34 (lv_at hl 4 rfl) ?_
          refine lv_iload_n hx hb dX1_servicesDecided_36 rfl (lv_at hl 1 rfl) ?_
          refine lv_icmp_ge (tgt := 67) hx hb dX1_servicesDecided_37 (by decide) (fun c2 => ?_) (fun c2 => ?_)
          · have h := zt h c2
            exact hKK _ _ h _ _ hP hD hS _ (lv_sub hl [0, 1, 2, 3, 4] rfl)
          · have h := zf h c2
            refine lv_iload_n hx hb dX1_servicesDecided_40 rfl (lv_at hl 2 rfl) ?_
            refine lv_iload hx hb dX1_servicesDecided_41 (lv_at hl 4 rfl) ?_
            obtain ⟨r3, h3, h⟩ := zb h
            refine zi (zrS (As := [.int v2, .int v4]) (rest := []) ⟨hx, hb, hml, hown, ht⟩ (c_X1_holds l D k   v2 v4 h3 _) (va_cwS 2 ht (gdS wb437 wb438 wb79 wb439) rfl rfl rfl (by decide +kernel) ⟨Nat.le_of_ble_eq_true rfl, Nat.le_of_ble_eq_true rfl⟩) hK hP hD hS hA hm [] rfl rfl rfl hl.1 rfl (Nat.le_of_ble_eq_true rfl) dX1_servicesDecided_43 ⟨Nat.le_refl _, Nat.le_refl _⟩) hP hD hS hA [] rfl rfl (fun H locs hP hD hS => ?_)
            have hP : va_P D vwCl [(gp, .inr (1, [.ref gpa, .ref gpb, .ref gpc, .ref gpd, .int gpsz, .int gpsn, .int gpal, .int gpre])), (gpc, .inl (k 0, 12, .inl gpfc))] H := hP
            have hD : va_D A [(gp, .inr (1, [.ref gpa, .ref gpb, .ref gpc, .ref gpd, .int gpsz, .int gpsn, .int gpal, .int gpre])), (gpc, .inl (k 0, 12, .inl gpfc))] := hD
            refine lv_if_eq (tgt := 61) hx hb dX1_servicesDecided_46 (by decide) (fun c1 => ?_) (fun c1 => ?_)
            · have h := zt h c1
              refine lv_iinc (v := v4 + 1) (lv' := [(4, .int (v4 + 1)), (0, .ref gp), (1, .int v1), (2, .int v2), (3, .int v3)]) hx hb dX1_servicesDecided_61 hl (k := 4) rfl rfl (by decide) rfl (fun ls hl => ?_)
              refine lv_goto (tgt := 34) hx hb dX1_servicesDecided_64 (by decide) ?_
              exact ih _ _ h _ _ hP hD hS _ (lv_sub hl [1, 2, 3, 4, 0] rfl)
            · have h := zf h c1
              refine lv_iload_n hx hb dX1_servicesDecided_49 rfl (lv_at hl 3 rfl) ?_
              refine lv_aload_n hx hb dX1_servicesDecided_50 rfl (lv_at hl 0 rfl) ?_
              refine va_get (D := D) (ci := 1) (v := .ref gpc) (C := RX1) (T := TX1) (N := 8) hx hb ht hiX1 hown hK hP 0 rfl rfl 2 (by decide) (ht _ wb216) (fun _ h9 => h9) rfl dX1_servicesDecided_51 ?_
              refine lv_iload hx hb dX1_servicesDecided_54 (lv_at hl 4 rfl) ?_
              obtain ⟨hi2, h⟩ := zg h
              refine va_iald hx hb hK hP 1 0 rfl rfl hi2 dX1_servicesDecided_56 ?_
              refine lv_iconst (v := (-1)) hx hb dX1_servicesDecided_57 (by decide) ?_
              refine lv_ixor hx hb dX1_servicesDecided_58 ?_
              refine lv_iand hx hb dX1_servicesDecided_59 ?_
              refine lv_istore_n (lv' := [(3, .int (v3 &&& ((gpfc (Int32.toNatClampNeg v4)) ^^^ (-1)))), (0, .ref gp), (1, .int v1), (2, .int v2), (4, .int v4)]) hx hb dX1_servicesDecided_60 rfl hl (by decide) rfl (fun ls hl => ?_)
              refine lv_iinc (v := v4 + 1) (lv' := [(4, .int (v4 + 1)), (3, .int (v3 &&& ((gpfc (Int32.toNatClampNeg v4)) ^^^ (-1)))), (0, .ref gp), (1, .int v1), (2, .int v2)]) hx hb dX1_servicesDecided_61 hl (k := 4) rfl rfl (by decide) rfl (fun ls hl => ?_)
              refine lv_goto (tgt := 34) hx hb dX1_servicesDecided_64 (by decide) ?_
              exact ih _ _ h _ _ hP hD hS _ (lv_sub hl [2, 3, 4, 1, 0] rfl)
      refine loop34 _ _ _ _ _ _ _ _ ?_ fu _ _ h _ _ hP hD hS _ (lv_sub hl [2, 3, 4, 1, 0] rfl)
      intro x1 x2 h H locs hP hD hS ls hl
      try dsimp only at h
      have hP : va_P D vwCl [(gp, .inr (1, [.ref gpa, .ref gpb, .ref gpc, .ref gpd, .int gpsz, .int gpsn, .int gpal, .int gpre])), (gpc, .inl (k 0, 12, .inl gpfc))] H := hP
      have hD : va_D A [(gp, .inr (1, [.ref gpa, .ref gpb, .ref gpc, .ref gpd, .int gpsz, .int gpsn, .int gpal, .int gpre])), (gpc, .inl (k 0, 12, .inl gpfc))] := hD
      have hl : lv_has ls 5 [(0, .ref gp), (1, .int a1), (2, .int a2), (3, .int x1), (4, .int x2)] := hl
      refine lv_iload_n hx hb dX1_servicesDecided_67 rfl (lv_at hl 3 rfl) ?_
      obtain rfl := Option.some.inj h
      exact W.iret (v := x1) hx hb hr (fun t ht9 hW => ⟨⟨_, (), rfl, rfl, zend ht9 hP⟩, hS.F ht9⟩) hS.2.2 dX1_servicesDecided_68
    · have h := zt h c3
      refine lv_iconst (v := 0) hx hb dX1_servicesDecided_22 (by decide) ?_
      obtain rfl := Option.some.inj h
      exact W.iret (v := 0) hx hb hr (fun t ht9 hW => ⟨⟨_, (), rfl, rfl, zend ht9 hP⟩, hS.F ht9⟩) hS.2.2 dX1_servicesDecided_23
def f_X1_casesDecided_L13 (fu : Nat) (K : Int32 → Int32 → Option (Int32)) (v1 : Int32) (v3 : Int32) (gpsz : Int32) (gpfa : Nat → Int32) (gpfb : Nat → Int32) (gpfc : Nat → Int32) : Nat → Int32 → Int32 → Option (Int32)
  | 0, _, _ => none
  | n + 1, v2, v4 =>
  if 32 ≤ v4 then (K v2 v4) else (if zok v3 32 then (if zok v4 32 then ((f_X1_servicesDecided fu gpsz gpfc v1 ((gpfa (Int32.toNatClampNeg v3)) &&& (gpfb (Int32.toNatClampNeg v4)))).bind fun r1 => (f_J6_bitCount_0f7a4  r1).bind fun r2 => f_X1_casesDecided_L13 fu K v1 v3 gpsz gpfa gpfb gpfc n (v2 + r2) (v4 + 1)) else none) else none)
def f_X1_casesDecided_L4 (fu : Nat) (K : Int32 → Int32 → Option (Int32)) (v1 : Int32) (gpsz : Int32) (gpfa : Nat → Int32) (gpfb : Nat → Int32) (gpfc : Nat → Int32) : Nat → Int32 → Int32 → Option (Int32)
  | 0, _, _ => none
  | n + 1, v2, v3 =>
  if 32 ≤ v3 then (K v2 v3) else (f_X1_casesDecided_L13 fu (fun (x1 : Int32) (x2 : Int32) => f_X1_casesDecided_L4 fu K v1 gpsz gpfa gpfb gpfc n x1 (v3 + 1)) v1 v3 gpsz gpfa gpfb gpfc fu v2 0)
def f_X1_casesDecided (fu : Nat) (gpsz : Int32) (gpfa : Nat → Int32) (gpfb : Nat → Int32) (gpfc : Nat → Int32) (a1 : Int32) : Option (Int32) :=
  f_X1_casesDecided_L4 fu (fun (x3 : Int32) (x4 : Int32) => some (x3)) a1 gpsz gpfa gpfb gpfc fu 0 0
abbrev wk_X1_casesDecided : List Cond := Cond.code yX1_casesDecided cX1_casesDecided 5 (some .int) :: WB
abbrev rm_X1_casesDecided : Room := { frames := 2, cells := 0, slots := 0, locals := 46 }
set_option maxHeartbeats 4000000 in
set_option maxRecDepth 100000 in
theorem c_X1_casesDecided (l : Launch) (D : va_G) (k : Nat → Nat) (gp gpa gpb gpc gpd : Nat) (gpsz : Int32) (gpsn : Int32) (gpal : Int32) (gpre : Int32) (gpfa : Nat → Int32) (gpfb : Nat → Int32) (gpfc : Nat → Int32) (a1 : Int32) (fu : Nat) {res : Int32} (h : f_X1_casesDecided fu gpsz gpfa gpfb gpfc a1 = some res) : Ci l yX1_casesDecided wk_X1_casesDecided rm_X1_casesDecided D k [.ref gp, .int a1] [(gp, .inr (1, [.ref gpa, .ref gpb, .ref gpc, .ref gpd, .int gpsz, .int gpsn, .int gpal, .int gpre])), (gpa, .inl (k 0, 32, .inl gpfa)), (gpb, .inl (k 0, 32, .inl gpfb)), (gpc, .inl (k 0, 12, .inl gpfc))] [(gp, .inr (1, [.ref gpa, .ref gpb, .ref gpc, .ref gpd, .int gpsz, .int gpsn, .int gpal, .int gpre])), (gpa, .inl (k 0, 32, .inl gpfa)), (gpb, .inl (k 0, 32, .inl gpfb)), (gpc, .inl (k 0, 12, .inl gpfc))] res := by
  unfold Ci
  intro sz
  refine Met.ofW (cc := cX1_casesDecided) (maxL := 5) (ret := (some .int)) (by decide) rfl ?_
  intro p e s m args below meth c s₁ B hml hv
  obtain ⟨rfl, hsz, hP, hK, hD0, hm⟩ := hv
  have hx := B.exec
  have hb := B.bytes
  have hr := B.returns
  have ht : ∀ w ∈ WB, w.before _ s = true := fun w hw => atoms_spec (ws := wk_X1_casesDecided) B.pre w (List.mem_cons_of_mem _ hw)
  have hown : s.vm.findClass RX1 = some m.cls := findClass_of_methodNamed B.named
  have hlocks := B.notSynchronized
  subst hsz
  have hD := hD0.self (sz := s.heap.size)
  generalize hAe : va_A [(gp, .inr (1, [.ref gpa, .ref gpb, .ref gpc, .ref gpd, .int gpsz, .int gpsn, .int gpal, .int gpre])), (gpa, .inl (k 0, 32, .inl gpfa)), (gpb, .inl (k 0, 32, .inl gpfb)), (gpc, .inl (k 0, 12, .inl gpfc))] s.heap.size = A at hD hm ⊢
  have hA : ∀ q : Nat, s.heap.size ≤ q → A q := fun q h => by rw [← hAe]; exact Or.inr h
  have hS : va_S A s.heap s.heap [] := va_S.rf
  have hl := lv_entry ([.ref gp, .int a1]) (n := 5) (Nat.le_of_ble_eq_true rfl)
  rw [lg_entry_eq]
  generalize (lg_sl ([.ref gp, .int a1]) ++ List.replicate (5 - (lg_sl ([.ref gp, .int a1])).length) Slot.unset).toArray = ls at hl ⊢
  have hl : lv_has ls 5 [(0, .ref gp), (1, .int a1)] := hl
  obtain ⟨H, hH⟩ : ∃ H, H = s.heap := ⟨_, rfl⟩
  rw [← hH] at hP
  have hS : va_S A s.heap H [] := by rw [hH]; exact hS
  suffices hgo : W p l e _ s m _ below meth c H [] 0 0 _ _ by rw [hH] at hgo; exact hgo
  unfold f_X1_casesDecided at h
  refine lv_iconst (v := 0) hx hb dX1_casesDecided_0 (by decide) ?_
  refine lv_istore_n (lv' := [(2, .int 0), (0, .ref gp), (1, .int a1)]) hx hb dX1_casesDecided_1 rfl hl (by decide) rfl (fun ls hl => ?_)
  refine lv_iconst (v := 0) hx hb dX1_casesDecided_2 (by decide) ?_
  refine lv_istore_n (lv' := [(3, .int 0), (2, .int 0), (0, .ref gp), (1, .int a1)]) hx hb dX1_casesDecided_3 rfl hl (by decide) rfl (fun ls hl => ?_)
  have loop4 : ∀ (v1 : Int32) (gpsz : Int32) (gpsn : Int32) (gpal : Int32) (gpre : Int32) (gpfa : Nat → Int32) (gpfb : Nat → Int32) (gpfc : Nat → Int32), ∀ (K : Int32 → Int32 → Option (Int32)), (∀ (v2 : Int32) (v3 : Int32), K v2 v3 = some res → ∀ (H : Heap) (locs : List Loc), va_P D vwCl [(gp, .inr (1, [.ref gpa, .ref gpb, .ref gpc, .ref gpd, .int gpsz, .int gpsn, .int gpal, .int gpre])), (gpa, .inl (k 0, 32, .inl gpfa)), (gpb, .inl (k 0, 32, .inl gpfb)), (gpc, .inl (k 0, 12, .inl gpfc))] H → va_D A [(gp, .inr (1, [.ref gpa, .ref gpb, .ref gpc, .ref gpd, .int gpsz, .int gpsn, .int gpal, .int gpre])), (gpa, .inl (k 0, 32, .inl gpfa)), (gpb, .inl (k 0, 32, .inl gpfb)), (gpc, .inl (k 0, 12, .inl gpfc))] → va_S A s.heap H locs → ∀ ls : Array Slot, lv_has ls 5 [(0, .ref gp), (1, .int v1), (2, .int v2), (3, .int v3)] → W p l e (headSpec wk_X1_casesDecided rm_X1_casesDecided).room s m ([.ref gp, .int a1] : List Value).toArray below meth c H locs 0 0 (MQ below (va_Qi (fun xq9 (_ : Unit) => xq9 = res) (fun _ tq9 => va_P D vwCl [(gp, .inr (1, [.ref gpa, .ref gpb, .ref gpc, .ref gpd, .int gpsz, .int gpsn, .int gpal, .int gpre])), (gpa, .inl (k 0, 32, .inl gpfa)), (gpb, .inl (k 0, 32, .inl gpfb)), (gpc, .inl (k 0, 12, .inl gpfc))] tq9.heap) A) ([.ref gp, .int a1] : List Value).toArray s 0 0 A) (F0 m 57 ls [])) → ∀ (n : Nat) (v2 : Int32) (v3 : Int32), f_X1_casesDecided_L4 fu K v1 gpsz gpfa gpfb gpfc n v2 v3 = some res → ∀ (H : Heap) (locs : List Loc), va_P D vwCl [(gp, .inr (1, [.ref gpa, .ref gpb, .ref gpc, .ref gpd, .int gpsz, .int gpsn, .int gpal, .int gpre])), (gpa, .inl (k 0, 32, .inl gpfa)), (gpb, .inl (k 0, 32, .inl gpfb)), (gpc, .inl (k 0, 12, .inl gpfc))] H → va_D A [(gp, .inr (1, [.ref gpa, .ref gpb, .ref gpc, .ref gpd, .int gpsz, .int gpsn, .int gpal, .int gpre])), (gpa, .inl (k 0, 32, .inl gpfa)), (gpb, .inl (k 0, 32, .inl gpfb)), (gpc, .inl (k 0, 12, .inl gpfc))] → va_S A s.heap H locs → ∀ ls : Array Slot, lv_has ls 5 [(0, .ref gp), (1, .int v1), (2, .int v2), (3, .int v3)] → W p l e (headSpec wk_X1_casesDecided rm_X1_casesDecided).room s m ([.ref gp, .int a1] : List Value).toArray below meth c H locs 0 0 (MQ below (va_Qi (fun xq9 (_ : Unit) => xq9 = res) (fun _ tq9 => va_P D vwCl [(gp, .inr (1, [.ref gpa, .ref gpb, .ref gpc, .ref gpd, .int gpsz, .int gpsn, .int gpal, .int gpre])), (gpa, .inl (k 0, 32, .inl gpfa)), (gpb, .inl (k 0, 32, .inl gpfb)), (gpc, .inl (k 0, 12, .inl gpfc))] tq9.heap) A) ([.ref gp, .int a1] : List Value).toArray s 0 0 A) (F0 m 4 ls []) := by
    intro v1 gpsz gpsn gpal gpre gpfa gpfb gpfc K hKK n
    induction n with
    | zero =>
      intro v2 v3 h
      rw [f_X1_casesDecided_L4] at h
      cases h
    | succ n ih =>
      intro v2 v3 h H locs hP hD hS ls hl
      rw [f_X1_casesDecided_L4] at h
      refine lv_iload_n hx hb dX1_casesDecided_4 rfl (lv_at hl 3 rfl) ?_
      refine lv_bipush (v := 32) hx hb dX1_casesDecided_5 (by decide) ?_
      refine lv_icmp_ge (tgt := 57) hx hb dX1_casesDecided_7 (by decide) (fun c2 => ?_) (fun c2 => ?_)
      · have h := zt h c2
        exact hKK _ _ h _ _ hP hD hS _ (lv_sub hl [0, 1, 2, 3] rfl)
      · have h := zf h c2
        refine lv_iconst (v := 0) hx hb dX1_casesDecided_10 (by decide) ?_
        refine lv_istore (lv' := [(4, .int 0), (0, .ref gp), (1, .int v1), (2, .int v2), (3, .int v3)]) hx hb dX1_casesDecided_11 hl (by decide) rfl (fun ls hl => ?_)
        have loop13 : ∀ (v1 : Int32) (v3 : Int32) (gpsz : Int32) (gpsn : Int32) (gpal : Int32) (gpre : Int32) (gpfa : Nat → Int32) (gpfb : Nat → Int32) (gpfc : Nat → Int32), ∀ (K : Int32 → Int32 → Option (Int32)), (∀ (v2 : Int32) (v4 : Int32), K v2 v4 = some res → ∀ (H : Heap) (locs : List Loc), va_P D vwCl [(gp, .inr (1, [.ref gpa, .ref gpb, .ref gpc, .ref gpd, .int gpsz, .int gpsn, .int gpal, .int gpre])), (gpa, .inl (k 0, 32, .inl gpfa)), (gpb, .inl (k 0, 32, .inl gpfb)), (gpc, .inl (k 0, 12, .inl gpfc))] H → va_D A [(gp, .inr (1, [.ref gpa, .ref gpb, .ref gpc, .ref gpd, .int gpsz, .int gpsn, .int gpal, .int gpre])), (gpa, .inl (k 0, 32, .inl gpfa)), (gpb, .inl (k 0, 32, .inl gpfb)), (gpc, .inl (k 0, 12, .inl gpfc))] → va_S A s.heap H locs → ∀ ls : Array Slot, lv_has ls 5 [(0, .ref gp), (1, .int v1), (2, .int v2), (3, .int v3), (4, .int v4)] → W p l e (headSpec wk_X1_casesDecided rm_X1_casesDecided).room s m ([.ref gp, .int a1] : List Value).toArray below meth c H locs 0 0 (MQ below (va_Qi (fun xq9 (_ : Unit) => xq9 = res) (fun _ tq9 => va_P D vwCl [(gp, .inr (1, [.ref gpa, .ref gpb, .ref gpc, .ref gpd, .int gpsz, .int gpsn, .int gpal, .int gpre])), (gpa, .inl (k 0, 32, .inl gpfa)), (gpb, .inl (k 0, 32, .inl gpfb)), (gpc, .inl (k 0, 12, .inl gpfc))] tq9.heap) A) ([.ref gp, .int a1] : List Value).toArray s 0 0 A) (F0 m 51 ls [])) → ∀ (n : Nat) (v2 : Int32) (v4 : Int32), f_X1_casesDecided_L13 fu K v1 v3 gpsz gpfa gpfb gpfc n v2 v4 = some res → ∀ (H : Heap) (locs : List Loc), va_P D vwCl [(gp, .inr (1, [.ref gpa, .ref gpb, .ref gpc, .ref gpd, .int gpsz, .int gpsn, .int gpal, .int gpre])), (gpa, .inl (k 0, 32, .inl gpfa)), (gpb, .inl (k 0, 32, .inl gpfb)), (gpc, .inl (k 0, 12, .inl gpfc))] H → va_D A [(gp, .inr (1, [.ref gpa, .ref gpb, .ref gpc, .ref gpd, .int gpsz, .int gpsn, .int gpal, .int gpre])), (gpa, .inl (k 0, 32, .inl gpfa)), (gpb, .inl (k 0, 32, .inl gpfb)), (gpc, .inl (k 0, 12, .inl gpfc))] → va_S A s.heap H locs → ∀ ls : Array Slot, lv_has ls 5 [(0, .ref gp), (1, .int v1), (2, .int v2), (3, .int v3), (4, .int v4)] → W p l e (headSpec wk_X1_casesDecided rm_X1_casesDecided).room s m ([.ref gp, .int a1] : List Value).toArray below meth c H locs 0 0 (MQ below (va_Qi (fun xq9 (_ : Unit) => xq9 = res) (fun _ tq9 => va_P D vwCl [(gp, .inr (1, [.ref gpa, .ref gpb, .ref gpc, .ref gpd, .int gpsz, .int gpsn, .int gpal, .int gpre])), (gpa, .inl (k 0, 32, .inl gpfa)), (gpb, .inl (k 0, 32, .inl gpfb)), (gpc, .inl (k 0, 12, .inl gpfc))] tq9.heap) A) ([.ref gp, .int a1] : List Value).toArray s 0 0 A) (F0 m 13 ls []) := by
          intro v1 v3 gpsz gpsn gpal gpre gpfa gpfb gpfc K hKK n
          induction n with
          | zero =>
            intro v2 v4 h
            rw [f_X1_casesDecided_L13] at h
            cases h
          | succ n ih =>
            intro v2 v4 h H locs hP hD hS ls hl
            rw [f_X1_casesDecided_L13] at h
            refine lv_iload hx hb dX1_casesDecided_13 (lv_at hl 4 rfl) ?_
            refine lv_bipush (v := 32) hx hb dX1_casesDecided_15 (by decide) ?_
            refine lv_icmp_ge (tgt := 51) hx hb dX1_casesDecided_17 (by decide) (fun c1 => ?_) (fun c1 => ?_)
            · have h := zt h c1
              exact hKK _ _ h _ _ hP hD hS _ (lv_sub hl [0, 1, 2, 3, 4] rfl)
            · have h := zf h c1
              refine lv_iload_n hx hb dX1_casesDecided_20 rfl (lv_at hl 2 rfl) ?_
              refine lv_aload_n hx hb dX1_casesDecided_21 rfl (lv_at hl 0 rfl) ?_
              refine lv_iload_n hx hb dX1_casesDecided_22 rfl (lv_at hl 1 rfl) ?_
              refine lv_aload_n hx hb dX1_casesDecided_23 rfl (lv_at hl 0 rfl) ?_
              refine va_get (D := D) (ci := 1) (v := .ref gpa) (C := RX1) (T := TX1) (N := 8) hx hb ht hiX1 hown hK hP 0 rfl rfl 0 (by decide) (ht _ wb214) (fun _ h9 => h9) rfl dX1_casesDecided_24 ?_
              refine lv_iload_n hx hb dX1_casesDecided_27 rfl (lv_at hl 3 rfl) ?_
              obtain ⟨hi1, h⟩ := zg h
              refine va_iald hx hb hK hP 1 0 rfl rfl hi1 dX1_casesDecided_28 ?_
              refine lv_aload_n hx hb dX1_casesDecided_29 rfl (lv_at hl 0 rfl) ?_
              refine va_get (D := D) (ci := 1) (v := .ref gpb) (C := RX1) (T := TX1) (N := 8) hx hb ht hiX1 hown hK hP 0 rfl rfl 1 (by decide) (ht _ wb215) (fun _ h9 => h9) rfl dX1_casesDecided_30 ?_
              refine lv_iload hx hb dX1_casesDecided_33 (lv_at hl 4 rfl) ?_
              obtain ⟨hi2, h⟩ := zg h
              refine va_iald hx hb hK hP 2 0 rfl rfl hi2 dX1_casesDecided_35 ?_
              refine lv_iand hx hb dX1_casesDecided_36 ?_
              obtain ⟨r1, h1, h⟩ := zb h
              refine zi (zrV (C := RX1) (T := TX1) (N := 8) (As := [.int v1, .int ((gpfa (Int32.toNatClampNeg v3)) &&& (gpfb (Int32.toNatClampNeg v4)))]) (rest := [.int v2]) ⟨hx, hb, hml, hown, ht⟩ (c_X1_servicesDecided l D k gp gpa gpb gpc gpd gpsz gpsn gpal gpre gpfc v1 ((gpfa (Int32.toNatClampNeg v3)) &&& (gpfb (Int32.toNatClampNeg v4))) fu h1 _) (cwV 2 ht (gdV wb432 wb434 wb7 wb79 wb435) rfl rfl rfl (by decide +kernel) ⟨Nat.le_of_ble_eq_true rfl, Nat.le_of_ble_eq_true rfl⟩) hK hP hD hS hA hm [0, 3] rfl rfl 0 1 rfl rfl rfl hl.1 rfl (Nat.le_of_ble_eq_true rfl) dX1_casesDecided_37 ⟨Nat.le_refl _, Nat.le_refl _⟩) hP hD hS hA [0, 3] rfl rfl (fun H locs hP hD hS => ?_)
              have hP : va_P D vwCl [(gp, .inr (1, [.ref gpa, .ref gpb, .ref gpc, .ref gpd, .int gpsz, .int gpsn, .int gpal, .int gpre])), (gpa, .inl (k 0, 32, .inl gpfa)), (gpb, .inl (k 0, 32, .inl gpfb)), (gpc, .inl (k 0, 12, .inl gpfc))] H := hP
              have hD : va_D A [(gp, .inr (1, [.ref gpa, .ref gpb, .ref gpc, .ref gpd, .int gpsz, .int gpsn, .int gpal, .int gpre])), (gpa, .inl (k 0, 32, .inl gpfa)), (gpb, .inl (k 0, 32, .inl gpfb)), (gpc, .inl (k 0, 12, .inl gpfc))] := hD
              obtain ⟨r2, h2, h⟩ := zb h
              refine zi (zrS (As := [.int r1]) (rest := [.int v2]) ⟨hx, hb, hml, hown, ht⟩ (c_J6_bitCount_0f7a4 l D k   r1 h2 _) (va_cwS 1 ht (gdS wb440 wb441 wb81 wb442) rfl rfl rfl (by decide +kernel) ⟨Nat.le_of_ble_eq_true rfl, Nat.le_of_ble_eq_true rfl⟩) hK hP hD hS hA hm [] rfl rfl rfl hl.1 rfl (Nat.le_of_ble_eq_true rfl) dX1_casesDecided_40 ⟨Nat.le_refl _, Nat.le_refl _⟩) hP hD hS hA [] rfl rfl (fun H locs hP hD hS => ?_)
              have hP : va_P D vwCl [(gp, .inr (1, [.ref gpa, .ref gpb, .ref gpc, .ref gpd, .int gpsz, .int gpsn, .int gpal, .int gpre])), (gpa, .inl (k 0, 32, .inl gpfa)), (gpb, .inl (k 0, 32, .inl gpfb)), (gpc, .inl (k 0, 12, .inl gpfc))] H := hP
              have hD : va_D A [(gp, .inr (1, [.ref gpa, .ref gpb, .ref gpc, .ref gpd, .int gpsz, .int gpsn, .int gpal, .int gpre])), (gpa, .inl (k 0, 32, .inl gpfa)), (gpb, .inl (k 0, 32, .inl gpfb)), (gpc, .inl (k 0, 12, .inl gpfc))] := hD
              refine lv_iadd hx hb dX1_casesDecided_43 ?_
              refine lv_istore_n (lv' := [(2, .int (v2 + r2)), (0, .ref gp), (1, .int v1), (3, .int v3), (4, .int v4)]) hx hb dX1_casesDecided_44 rfl hl (by decide) rfl (fun ls hl => ?_)
              refine lv_iinc (v := v4 + 1) (lv' := [(4, .int (v4 + 1)), (2, .int (v2 + r2)), (0, .ref gp), (1, .int v1), (3, .int v3)]) hx hb dX1_casesDecided_45 hl (k := 4) rfl rfl (by decide) rfl (fun ls hl => ?_)
              refine lv_goto (tgt := 13) hx hb dX1_casesDecided_48 (by decide) ?_
              exact ih _ _ h _ _ hP hD hS _ (lv_sub hl [2, 3, 1, 4, 0] rfl)
        refine loop13 _ _ _ _ _ _ _ _ _ _ ?_ fu _ _ h _ _ hP hD hS _ (lv_sub hl [1, 2, 3, 4, 0] rfl)
        intro x1 x2 h H locs hP hD hS ls hl
        try dsimp only at h
        have hP : va_P D vwCl [(gp, .inr (1, [.ref gpa, .ref gpb, .ref gpc, .ref gpd, .int gpsz, .int gpsn, .int gpal, .int gpre])), (gpa, .inl (k 0, 32, .inl gpfa)), (gpb, .inl (k 0, 32, .inl gpfb)), (gpc, .inl (k 0, 12, .inl gpfc))] H := hP
        have hD : va_D A [(gp, .inr (1, [.ref gpa, .ref gpb, .ref gpc, .ref gpd, .int gpsz, .int gpsn, .int gpal, .int gpre])), (gpa, .inl (k 0, 32, .inl gpfa)), (gpb, .inl (k 0, 32, .inl gpfb)), (gpc, .inl (k 0, 12, .inl gpfc))] := hD
        have hl : lv_has ls 5 [(0, .ref gp), (1, .int v1), (2, .int x1), (3, .int v3), (4, .int x2)] := hl
        refine lv_iinc (v := v3 + 1) (lv' := [(3, .int (v3 + 1)), (0, .ref gp), (1, .int v1), (2, .int x1), (4, .int x2)]) hx hb dX1_casesDecided_51 hl (k := 3) rfl rfl (by decide) rfl (fun ls hl => ?_)
        refine lv_goto (tgt := 4) hx hb dX1_casesDecided_54 (by decide) ?_
        exact ih _ _ h _ _ hP hD hS _ (lv_sub hl [1, 2, 3, 0] rfl)
  refine loop4 _ _ _ _ _ _ _ _ _ ?_ fu _ _ h _ _ hP hD hS _ (lv_sub hl [2, 3, 1, 0] rfl)
  intro x3 x4 h H locs hP hD hS ls hl
  try dsimp only at h
  have hP : va_P D vwCl [(gp, .inr (1, [.ref gpa, .ref gpb, .ref gpc, .ref gpd, .int gpsz, .int gpsn, .int gpal, .int gpre])), (gpa, .inl (k 0, 32, .inl gpfa)), (gpb, .inl (k 0, 32, .inl gpfb)), (gpc, .inl (k 0, 12, .inl gpfc))] H := hP
  have hD : va_D A [(gp, .inr (1, [.ref gpa, .ref gpb, .ref gpc, .ref gpd, .int gpsz, .int gpsn, .int gpal, .int gpre])), (gpa, .inl (k 0, 32, .inl gpfa)), (gpb, .inl (k 0, 32, .inl gpfb)), (gpc, .inl (k 0, 12, .inl gpfc))] := hD
  have hl : lv_has ls 5 [(0, .ref gp), (1, .int a1), (2, .int x3), (3, .int x4)] := hl
  refine lv_iload_n hx hb dX1_casesDecided_57 rfl (lv_at hl 2 rfl) ?_
  obtain rfl := Option.some.inj h
  exact W.iret (v := x3) hx hb hr (fun t ht9 hW => ⟨⟨_, (), rfl, rfl, zend ht9 hP⟩, hS.F ht9⟩) hS.2.2 dX1_casesDecided_58
def f_X1_look_L22 (fu : Nat) (K : Int32 → Int32 → Int32 → Int32 → Option (Int32 × Int32 × Int32)) (v1 : Int32) (gpsz : Int32) (gpfc : Nat → Int32) (gpfd : Nat → Int32) : Nat → Int32 → Int32 → Int32 → Int32 → Option (Int32 × Int32 × Int32)
  | 0, _, _, _, _ => none
  | n + 1, v2, v3, gpal, gpre =>
  if gpsz ≤ v3 then (K v2 v3 gpal gpre) else ((f_X1_holds  v1 v3).bind fun r2 => if (zB r2) = 0 then (f_X1_look_L22 fu K v1 gpsz gpfc gpfd n v2 (v3 + 1) gpal gpre) else (if zok v3 12 then (if (gpfd (Int32.toNatClampNeg v3)) = 1 then (if zok v3 12 then (if zok v3 12 then (f_X1_look_L22 fu K v1 gpsz gpfc gpfd n (v2 &&& ((gpfc (Int32.toNatClampNeg v3)) ^^^ (-1))) (v3 + 1) (gpal ||| (v2 &&& (gpfc (Int32.toNatClampNeg v3)))) gpre) else none) else none) else (if zok v3 12 then (if (gpfd (Int32.toNatClampNeg v3)) = 2 then (if zok v3 12 then (if zok v3 12 then (f_X1_look_L22 fu K v1 gpsz gpfc gpfd n (v2 &&& ((gpfc (Int32.toNatClampNeg v3)) ^^^ (-1))) (v3 + 1) gpal (gpre ||| (v2 &&& (gpfc (Int32.toNatClampNeg v3))))) else none) else none) else (if zok v3 12 then (f_X1_look_L22 fu K v1 gpsz gpfc gpfd n (v2 &&& ((gpfc (Int32.toNatClampNeg v3)) ^^^ (-1))) (v3 + 1) gpal gpre) else none)) else none)) else none))
def f_X1_look (fu : Nat) (gpsz : Int32) (gpsn : Int32) (gpal : Int32) (gpre : Int32) (gpfc : Nat → Int32) (gpfd : Nat → Int32) (a1 : Int32) : Option (Int32 × Int32 × Int32) :=
  if a1 = gpsn then (some (gpsn, gpal, gpre)) else ((f_X1_forget  ).bind fun r1 => f_X1_look_L22 fu (fun (x1 : Int32) (x2 : Int32) (x3 : Int32) (x4 : Int32) => some (a1, x3, x4)) a1 gpsz gpfc gpfd fu (-1) 0 r1.2.1 r1.2.2)
abbrev wk_X1_look : List Cond := Cond.code yX1_look cX1_look 4 none :: WB
abbrev rm_X1_look : Room := { frames := 1, cells := 0, slots := 0, locals := 21 }
set_option maxHeartbeats 4000000 in
set_option maxRecDepth 100000 in
theorem c_X1_look (l : Launch) (D : va_G) (k : Nat → Nat) (gp gpa gpb gpc gpd : Nat) (gpsz : Int32) (gpsn : Int32) (gpal : Int32) (gpre : Int32) (gpfc : Nat → Int32) (gpfd : Nat → Int32) (a1 : Int32) (fu : Nat) {res : Int32 × Int32 × Int32} (h : f_X1_look fu gpsz gpsn gpal gpre gpfc gpfd a1 = some res) : Cv l yX1_look wk_X1_look rm_X1_look D k [.ref gp, .int a1] [(gp, .inr (1, [.ref gpa, .ref gpb, .ref gpc, .ref gpd, .int gpsz, .int gpsn, .int gpal, .int gpre])), (gpc, .inl (k 0, 12, .inl gpfc)), (gpd, .inl (k 0, 12, .inl gpfd))] [(gp, .inr (1, [.ref gpa, .ref gpb, .ref gpc, .ref gpd, .int gpsz, .int res.1, .int res.2.1, .int res.2.2])), (gpc, .inl (k 0, 12, .inl gpfc)), (gpd, .inl (k 0, 12, .inl gpfd))] := by
  unfold Cv
  intro sz
  refine Met.ofW (cc := cX1_look) (maxL := 4) (ret := none) (by decide) rfl ?_
  intro p e s m args below meth c s₁ B hml hv
  obtain ⟨rfl, hsz, hP, hK, hD0, hm⟩ := hv
  have hx := B.exec
  have hb := B.bytes
  have hr := B.returns
  have ht : ∀ w ∈ WB, w.before _ s = true := fun w hw => atoms_spec (ws := wk_X1_look) B.pre w (List.mem_cons_of_mem _ hw)
  have hown : s.vm.findClass RX1 = some m.cls := findClass_of_methodNamed B.named
  have hlocks := B.notSynchronized
  subst hsz
  have hD := hD0.self (sz := s.heap.size)
  generalize hAe : va_A [(gp, .inr (1, [.ref gpa, .ref gpb, .ref gpc, .ref gpd, .int gpsz, .int gpsn, .int gpal, .int gpre])), (gpc, .inl (k 0, 12, .inl gpfc)), (gpd, .inl (k 0, 12, .inl gpfd))] s.heap.size = A at hD hm ⊢
  have hA : ∀ q : Nat, s.heap.size ≤ q → A q := fun q h => by rw [← hAe]; exact Or.inr h
  have hS : va_S A s.heap s.heap [] := va_S.rf
  have hl := lv_entry ([.ref gp, .int a1]) (n := 4) (Nat.le_of_ble_eq_true rfl)
  rw [lg_entry_eq]
  generalize (lg_sl ([.ref gp, .int a1]) ++ List.replicate (4 - (lg_sl ([.ref gp, .int a1])).length) Slot.unset).toArray = ls at hl ⊢
  have hl : lv_has ls 4 [(0, .ref gp), (1, .int a1)] := hl
  obtain ⟨H, hH⟩ : ∃ H, H = s.heap := ⟨_, rfl⟩
  rw [← hH] at hP
  have hS : va_S A s.heap H [] := by rw [hH]; exact hS
  suffices hgo : W p l e _ s m _ below meth c H [] 0 0 _ _ by rw [hH] at hgo; exact hgo
  unfold f_X1_look at h
  refine lv_iload_n hx hb dX1_look_0 rfl (lv_at hl 1 rfl) ?_
  refine lv_aload_n hx hb dX1_look_1 rfl (lv_at hl 0 rfl) ?_
  refine va_get (D := D) (ci := 1) (v := .int gpsn) (C := RX1) (T := TX1) (N := 8) hx hb ht hiX1 hown hK hP 0 rfl rfl 5 (by decide) (ht _ wb219) (fun _ h9 => h9) rfl dX1_look_2 ?_
  refine lv_icmp_ne (tgt := 9) hx hb dX1_look_5 (by decide) (fun c5 => ?_) (fun c5 => ?_)
  · have h := zf h c5
    refine lv_aload_n hx hb dX1_look_9 rfl (lv_at hl 0 rfl) ?_
    obtain ⟨r1, h1, h⟩ := zb h
    refine zv (zrV (C := RX1) (T := TX1) (N := 8) (As := []) (rest := []) ⟨hx, hb, hml, hown, ht⟩ (c_X1_forget l D k gp gpa gpb gpc gpd gpsz gpsn gpal gpre  h1 _) (cwV 0 ht (gdV wb424 wb426 wb6 wb79 wb427) rfl rfl rfl (by decide +kernel) ⟨Nat.le_of_ble_eq_true rfl, Nat.le_of_ble_eq_true rfl⟩) hK hP hD hS hA hm [0] rfl rfl 0 1 rfl rfl rfl hl.1 rfl (Nat.le_of_ble_eq_true rfl) dX1_look_10 ⟨Nat.le_refl _, Nat.le_refl _⟩) hP hD hS hA [0] rfl rfl (fun H locs hP hD hS => ?_)
    have hP : va_P D vwCl [(gp, .inr (1, [.ref gpa, .ref gpb, .ref gpc, .ref gpd, .int gpsz, .int r1.1, .int r1.2.1, .int r1.2.2])), (gpc, .inl (k 0, 12, .inl gpfc)), (gpd, .inl (k 0, 12, .inl gpfd))] H := hP
    have hD : va_D A [(gp, .inr (1, [.ref gpa, .ref gpb, .ref gpc, .ref gpd, .int gpsz, .int r1.1, .int r1.2.1, .int r1.2.2])), (gpc, .inl (k 0, 12, .inl gpfc)), (gpd, .inl (k 0, 12, .inl gpfd))] := hD
    refine lv_aload_n hx hb dX1_look_13 rfl (lv_at hl 0 rfl) ?_
    refine lv_iload_n hx hb dX1_look_14 rfl (lv_at hl 1 rfl) ?_
    refine va_put (D := D) (ci := 1) (v := .int a1) (ty := .int) (C := RX1) (T := TX1) (N := 8) hx hb ht hiX1 tyX1 tyX1_ok nmX1 hown hK hP hD hS 0 rfl rfl 5 (by decide) (ht _ wb219) (fun _ h9 => h9) rfl (by decide +kernel) rfl rfl (Nat.le_of_ble_eq_true rfl) dX1_look_15 (fun H locs hP hD hS => ?_)
    have hP : va_P D vwCl [(gp, .inr (1, [.ref gpa, .ref gpb, .ref gpc, .ref gpd, .int gpsz, .int a1, .int r1.2.1, .int r1.2.2])), (gpc, .inl (k 0, 12, .inl gpfc)), (gpd, .inl (k 0, 12, .inl gpfd))] H := hP
    have hD : va_D A [(gp, .inr (1, [.ref gpa, .ref gpb, .ref gpc, .ref gpd, .int gpsz, .int a1, .int r1.2.1, .int r1.2.2])), (gpc, .inl (k 0, 12, .inl gpfc)), (gpd, .inl (k 0, 12, .inl gpfd))] := hD
    refine lv_iconst (v := (-1)) hx hb dX1_look_18 (by decide) ?_
    refine lv_istore_n (lv' := [(2, .int (-1)), (0, .ref gp), (1, .int a1)]) hx hb dX1_look_19 rfl hl (by decide) rfl (fun ls hl => ?_)
    refine lv_iconst (v := 0) hx hb dX1_look_20 (by decide) ?_
    refine lv_istore_n (lv' := [(3, .int 0), (2, .int (-1)), (0, .ref gp), (1, .int a1)]) hx hb dX1_look_21 rfl hl (by decide) rfl (fun ls hl => ?_)
    have loop22 : ∀ (v1 : Int32) (gpsz : Int32) (gpsn : Int32) (gpfc : Nat → Int32) (gpfd : Nat → Int32), ∀ (K : Int32 → Int32 → Int32 → Int32 → Option (Int32 × Int32 × Int32)), (∀ (v2 : Int32) (v3 : Int32) (gpal : Int32) (gpre : Int32), K v2 v3 gpal gpre = some res → ∀ (H : Heap) (locs : List Loc), va_P D vwCl [(gp, .inr (1, [.ref gpa, .ref gpb, .ref gpc, .ref gpd, .int gpsz, .int gpsn, .int gpal, .int gpre])), (gpc, .inl (k 0, 12, .inl gpfc)), (gpd, .inl (k 0, 12, .inl gpfd))] H → va_D A [(gp, .inr (1, [.ref gpa, .ref gpb, .ref gpc, .ref gpd, .int gpsz, .int gpsn, .int gpal, .int gpre])), (gpc, .inl (k 0, 12, .inl gpfc)), (gpd, .inl (k 0, 12, .inl gpfd))] → va_S A s.heap H locs → ∀ ls : Array Slot, lv_has ls 4 [(0, .ref gp), (1, .int v1), (2, .int v2), (3, .int v3)] → W p l e (headSpec wk_X1_look rm_X1_look).room s m ([.ref gp, .int a1] : List Value).toArray below meth c H locs 0 0 (MQ below (va_Qv (fun (_ : Unit) => True) (fun _ tq9 => va_P D vwCl [(gp, .inr (1, [.ref gpa, .ref gpb, .ref gpc, .ref gpd, .int gpsz, .int res.1, .int res.2.1, .int res.2.2])), (gpc, .inl (k 0, 12, .inl gpfc)), (gpd, .inl (k 0, 12, .inl gpfd))] tq9.heap) A) ([.ref gp, .int a1] : List Value).toArray s 0 0 A) (F0 m 115 ls [])) → ∀ (n : Nat) (v2 : Int32) (v3 : Int32) (gpal : Int32) (gpre : Int32), f_X1_look_L22 fu K v1 gpsz gpfc gpfd n v2 v3 gpal gpre = some res → ∀ (H : Heap) (locs : List Loc), va_P D vwCl [(gp, .inr (1, [.ref gpa, .ref gpb, .ref gpc, .ref gpd, .int gpsz, .int gpsn, .int gpal, .int gpre])), (gpc, .inl (k 0, 12, .inl gpfc)), (gpd, .inl (k 0, 12, .inl gpfd))] H → va_D A [(gp, .inr (1, [.ref gpa, .ref gpb, .ref gpc, .ref gpd, .int gpsz, .int gpsn, .int gpal, .int gpre])), (gpc, .inl (k 0, 12, .inl gpfc)), (gpd, .inl (k 0, 12, .inl gpfd))] → va_S A s.heap H locs → ∀ ls : Array Slot, lv_has ls 4 [(0, .ref gp), (1, .int v1), (2, .int v2), (3, .int v3)] → W p l e (headSpec wk_X1_look rm_X1_look).room s m ([.ref gp, .int a1] : List Value).toArray below meth c H locs 0 0 (MQ below (va_Qv (fun (_ : Unit) => True) (fun _ tq9 => va_P D vwCl [(gp, .inr (1, [.ref gpa, .ref gpb, .ref gpc, .ref gpd, .int gpsz, .int res.1, .int res.2.1, .int res.2.2])), (gpc, .inl (k 0, 12, .inl gpfc)), (gpd, .inl (k 0, 12, .inl gpfd))] tq9.heap) A) ([.ref gp, .int a1] : List Value).toArray s 0 0 A) (F0 m 22 ls []) := by
      intro v1 gpsz gpsn gpfc gpfd K hKK n
      induction n with
      | zero =>
        intro v2 v3 gpal gpre h
        rw [f_X1_look_L22] at h
        cases h
      | succ n ih =>
        intro v2 v3 gpal gpre h H locs hP hD hS ls hl
        rw [f_X1_look_L22] at h
        refine lv_iload_n hx hb dX1_look_22 rfl (lv_at hl 3 rfl) ?_
        refine lv_aload_n hx hb dX1_look_23 rfl (lv_at hl 0 rfl) ?_
        refine va_get (D := D) (ci := 1) (v := .int gpsz) (C := RX1) (T := TX1) (N := 8) hx hb ht hiX1 hown hK hP 0 rfl rfl 4 (by decide) (ht _ wb218) (fun _ h9 => h9) rfl dX1_look_24 ?_
        refine lv_icmp_ge (tgt := 115) hx hb dX1_look_27 (by decide) (fun c4 => ?_) (fun c4 => ?_)
        · have h := zt h c4
          exact hKK _ _ _ _ h _ _ hP hD hS _ (lv_sub hl [0, 1, 2, 3] rfl)
        · have h := zf h c4
          refine lv_iload_n hx hb dX1_look_30 rfl (lv_at hl 1 rfl) ?_
          refine lv_iload_n hx hb dX1_look_31 rfl (lv_at hl 3 rfl) ?_
          obtain ⟨r2, h2, h⟩ := zb h
          refine zi (zrS (As := [.int v1, .int v3]) (rest := []) ⟨hx, hb, hml, hown, ht⟩ (c_X1_holds l D k   v1 v3 h2 _) (va_cwS 2 ht (gdS wb437 wb438 wb79 wb439) rfl rfl rfl (by decide +kernel) ⟨Nat.le_of_ble_eq_true rfl, Nat.le_of_ble_eq_true rfl⟩) hK hP hD hS hA hm [] rfl rfl rfl hl.1 rfl (Nat.le_of_ble_eq_true rfl) dX1_look_32 ⟨Nat.le_refl _, Nat.le_refl _⟩) hP hD hS hA [] rfl rfl (fun H locs hP hD hS => ?_)
          have hP : va_P D vwCl [(gp, .inr (1, [.ref gpa, .ref gpb, .ref gpc, .ref gpd, .int gpsz, .int gpsn, .int gpal, .int gpre])), (gpc, .inl (k 0, 12, .inl gpfc)), (gpd, .inl (k 0, 12, .inl gpfd))] H := hP
          have hD : va_D A [(gp, .inr (1, [.ref gpa, .ref gpb, .ref gpc, .ref gpd, .int gpsz, .int gpsn, .int gpal, .int gpre])), (gpc, .inl (k 0, 12, .inl gpfc)), (gpd, .inl (k 0, 12, .inl gpfd))] := hD
          refine lv_if_ne (tgt := 41) hx hb dX1_look_35 (by decide) (fun c3 => ?_) (fun c3 => ?_)
          · have h := zf h c3
            refine lv_aload_n hx hb dX1_look_41 rfl (lv_at hl 0 rfl) ?_
            refine va_get (D := D) (ci := 1) (v := .ref gpd) (C := RX1) (T := TX1) (N := 8) hx hb ht hiX1 hown hK hP 0 rfl rfl 3 (by decide) (ht _ wb217) (fun _ h9 => h9) rfl dX1_look_42 ?_
            refine lv_iload_n hx hb dX1_look_45 rfl (lv_at hl 3 rfl) ?_
            obtain ⟨hi1, h⟩ := zg h
            refine va_iald hx hb hK hP 2 0 rfl rfl hi1 dX1_look_46 ?_
            refine lv_iconst (v := 1) hx hb dX1_look_47 (by decide) ?_
            refine lv_icmp_ne (tgt := 71) hx hb dX1_look_48 (by decide) (fun c2 => ?_) (fun c2 => ?_)
            · have h := zf h c2
              refine lv_aload_n hx hb dX1_look_71 rfl (lv_at hl 0 rfl) ?_
              refine va_get (D := D) (ci := 1) (v := .ref gpd) (C := RX1) (T := TX1) (N := 8) hx hb ht hiX1 hown hK hP 0 rfl rfl 3 (by decide) (ht _ wb217) (fun _ h9 => h9) rfl dX1_look_72 ?_
              refine lv_iload_n hx hb dX1_look_75 rfl (lv_at hl 3 rfl) ?_
              obtain ⟨hi2, h⟩ := zg h
              refine va_iald hx hb hK hP 2 0 rfl rfl hi2 dX1_look_76 ?_
              refine lv_iconst (v := 2) hx hb dX1_look_77 (by decide) ?_
              refine lv_icmp_ne (tgt := 98) hx hb dX1_look_78 (by decide) (fun c1 => ?_) (fun c1 => ?_)
              · have h := zf h c1
                refine lv_iload_n hx hb dX1_look_98 rfl (lv_at hl 2 rfl) ?_
                refine lv_aload_n hx hb dX1_look_99 rfl (lv_at hl 0 rfl) ?_
                refine va_get (D := D) (ci := 1) (v := .ref gpc) (C := RX1) (T := TX1) (N := 8) hx hb ht hiX1 hown hK hP 0 rfl rfl 2 (by decide) (ht _ wb216) (fun _ h9 => h9) rfl dX1_look_100 ?_
                refine lv_iload_n hx hb dX1_look_103 rfl (lv_at hl 3 rfl) ?_
                obtain ⟨hi3, h⟩ := zg h
                refine va_iald hx hb hK hP 1 0 rfl rfl hi3 dX1_look_104 ?_
                refine lv_iconst (v := (-1)) hx hb dX1_look_105 (by decide) ?_
                refine lv_ixor hx hb dX1_look_106 ?_
                refine lv_iand hx hb dX1_look_107 ?_
                refine lv_istore_n (lv' := [(2, .int (v2 &&& ((gpfc (Int32.toNatClampNeg v3)) ^^^ (-1)))), (0, .ref gp), (1, .int v1), (3, .int v3)]) hx hb dX1_look_108 rfl hl (by decide) rfl (fun ls hl => ?_)
                refine lv_iinc (v := v3 + 1) (lv' := [(3, .int (v3 + 1)), (2, .int (v2 &&& ((gpfc (Int32.toNatClampNeg v3)) ^^^ (-1)))), (0, .ref gp), (1, .int v1)]) hx hb dX1_look_109 hl (k := 3) rfl rfl (by decide) rfl (fun ls hl => ?_)
                refine lv_goto (tgt := 22) hx hb dX1_look_112 (by decide) ?_
                exact ih _ _ _ _ h _ _ hP hD hS _ (lv_sub hl [2, 3, 1, 0] rfl)
              · have h := zt h c1
                refine lv_aload_n hx hb dX1_look_81 rfl (lv_at hl 0 rfl) ?_
                refine lv_dup hx hb dX1_look_82 rfl ?_
                refine va_get (D := D) (ci := 1) (v := .int gpre) (C := RX1) (T := TX1) (N := 8) hx hb ht hiX1 hown hK hP 0 rfl rfl 7 (by decide) (ht _ wb221) (fun _ h9 => h9) rfl dX1_look_83 ?_
                refine lv_iload_n hx hb dX1_look_86 rfl (lv_at hl 2 rfl) ?_
                refine lv_aload_n hx hb dX1_look_87 rfl (lv_at hl 0 rfl) ?_
                refine va_get (D := D) (ci := 1) (v := .ref gpc) (C := RX1) (T := TX1) (N := 8) hx hb ht hiX1 hown hK hP 0 rfl rfl 2 (by decide) (ht _ wb216) (fun _ h9 => h9) rfl dX1_look_88 ?_
                refine lv_iload_n hx hb dX1_look_91 rfl (lv_at hl 3 rfl) ?_
                obtain ⟨hi4, h⟩ := zg h
                refine va_iald hx hb hK hP 1 0 rfl rfl hi4 dX1_look_92 ?_
                refine lv_iand hx hb dX1_look_93 ?_
                refine lv_ior hx hb dX1_look_94 ?_
                refine va_put (D := D) (ci := 1) (v := .int (gpre ||| (v2 &&& (gpfc (Int32.toNatClampNeg v3))))) (ty := .int) (C := RX1) (T := TX1) (N := 8) hx hb ht hiX1 tyX1 tyX1_ok nmX1 hown hK hP hD hS 0 rfl rfl 7 (by decide) (ht _ wb221) (fun _ h9 => h9) rfl (by decide +kernel) rfl rfl (Nat.le_of_ble_eq_true rfl) dX1_look_95 (fun H locs hP hD hS => ?_)
                have hP : va_P D vwCl [(gp, .inr (1, [.ref gpa, .ref gpb, .ref gpc, .ref gpd, .int gpsz, .int gpsn, .int gpal, .int (gpre ||| (v2 &&& (gpfc (Int32.toNatClampNeg v3))))])), (gpc, .inl (k 0, 12, .inl gpfc)), (gpd, .inl (k 0, 12, .inl gpfd))] H := hP
                have hD : va_D A [(gp, .inr (1, [.ref gpa, .ref gpb, .ref gpc, .ref gpd, .int gpsz, .int gpsn, .int gpal, .int (gpre ||| (v2 &&& (gpfc (Int32.toNatClampNeg v3))))])), (gpc, .inl (k 0, 12, .inl gpfc)), (gpd, .inl (k 0, 12, .inl gpfd))] := hD
                refine lv_iload_n hx hb dX1_look_98 rfl (lv_at hl 2 rfl) ?_
                refine lv_aload_n hx hb dX1_look_99 rfl (lv_at hl 0 rfl) ?_
                refine va_get (D := D) (ci := 1) (v := .ref gpc) (C := RX1) (T := TX1) (N := 8) hx hb ht hiX1 hown hK hP 0 rfl rfl 2 (by decide) (ht _ wb216) (fun _ h9 => h9) rfl dX1_look_100 ?_
                refine lv_iload_n hx hb dX1_look_103 rfl (lv_at hl 3 rfl) ?_
                obtain ⟨hi5, h⟩ := zg h
                refine va_iald hx hb hK hP 1 0 rfl rfl hi5 dX1_look_104 ?_
                refine lv_iconst (v := (-1)) hx hb dX1_look_105 (by decide) ?_
                refine lv_ixor hx hb dX1_look_106 ?_
                refine lv_iand hx hb dX1_look_107 ?_
                refine lv_istore_n (lv' := [(2, .int (v2 &&& ((gpfc (Int32.toNatClampNeg v3)) ^^^ (-1)))), (0, .ref gp), (1, .int v1), (3, .int v3)]) hx hb dX1_look_108 rfl hl (by decide) rfl (fun ls hl => ?_)
                refine lv_iinc (v := v3 + 1) (lv' := [(3, .int (v3 + 1)), (2, .int (v2 &&& ((gpfc (Int32.toNatClampNeg v3)) ^^^ (-1)))), (0, .ref gp), (1, .int v1)]) hx hb dX1_look_109 hl (k := 3) rfl rfl (by decide) rfl (fun ls hl => ?_)
                refine lv_goto (tgt := 22) hx hb dX1_look_112 (by decide) ?_
                exact ih _ _ _ _ h _ _ hP hD hS _ (lv_sub hl [2, 3, 1, 0] rfl)
            · have h := zt h c2
              refine lv_aload_n hx hb dX1_look_51 rfl (lv_at hl 0 rfl) ?_
              refine lv_dup hx hb dX1_look_52 rfl ?_
              refine va_get (D := D) (ci := 1) (v := .int gpal) (C := RX1) (T := TX1) (N := 8) hx hb ht hiX1 hown hK hP 0 rfl rfl 6 (by decide) (ht _ wb220) (fun _ h9 => h9) rfl dX1_look_53 ?_
              refine lv_iload_n hx hb dX1_look_56 rfl (lv_at hl 2 rfl) ?_
              refine lv_aload_n hx hb dX1_look_57 rfl (lv_at hl 0 rfl) ?_
              refine va_get (D := D) (ci := 1) (v := .ref gpc) (C := RX1) (T := TX1) (N := 8) hx hb ht hiX1 hown hK hP 0 rfl rfl 2 (by decide) (ht _ wb216) (fun _ h9 => h9) rfl dX1_look_58 ?_
              refine lv_iload_n hx hb dX1_look_61 rfl (lv_at hl 3 rfl) ?_
              obtain ⟨hi6, h⟩ := zg h
              refine va_iald hx hb hK hP 1 0 rfl rfl hi6 dX1_look_62 ?_
              refine lv_iand hx hb dX1_look_63 ?_
              refine lv_ior hx hb dX1_look_64 ?_
              refine va_put (D := D) (ci := 1) (v := .int (gpal ||| (v2 &&& (gpfc (Int32.toNatClampNeg v3))))) (ty := .int) (C := RX1) (T := TX1) (N := 8) hx hb ht hiX1 tyX1 tyX1_ok nmX1 hown hK hP hD hS 0 rfl rfl 6 (by decide) (ht _ wb220) (fun _ h9 => h9) rfl (by decide +kernel) rfl rfl (Nat.le_of_ble_eq_true rfl) dX1_look_65 (fun H locs hP hD hS => ?_)
              have hP : va_P D vwCl [(gp, .inr (1, [.ref gpa, .ref gpb, .ref gpc, .ref gpd, .int gpsz, .int gpsn, .int (gpal ||| (v2 &&& (gpfc (Int32.toNatClampNeg v3)))), .int gpre])), (gpc, .inl (k 0, 12, .inl gpfc)), (gpd, .inl (k 0, 12, .inl gpfd))] H := hP
              have hD : va_D A [(gp, .inr (1, [.ref gpa, .ref gpb, .ref gpc, .ref gpd, .int gpsz, .int gpsn, .int (gpal ||| (v2 &&& (gpfc (Int32.toNatClampNeg v3)))), .int gpre])), (gpc, .inl (k 0, 12, .inl gpfc)), (gpd, .inl (k 0, 12, .inl gpfd))] := hD
              refine lv_goto (tgt := 98) hx hb dX1_look_68 (by decide) ?_
              refine lv_iload_n hx hb dX1_look_98 rfl (lv_at hl 2 rfl) ?_
              refine lv_aload_n hx hb dX1_look_99 rfl (lv_at hl 0 rfl) ?_
              refine va_get (D := D) (ci := 1) (v := .ref gpc) (C := RX1) (T := TX1) (N := 8) hx hb ht hiX1 hown hK hP 0 rfl rfl 2 (by decide) (ht _ wb216) (fun _ h9 => h9) rfl dX1_look_100 ?_
              refine lv_iload_n hx hb dX1_look_103 rfl (lv_at hl 3 rfl) ?_
              obtain ⟨hi7, h⟩ := zg h
              refine va_iald hx hb hK hP 1 0 rfl rfl hi7 dX1_look_104 ?_
              refine lv_iconst (v := (-1)) hx hb dX1_look_105 (by decide) ?_
              refine lv_ixor hx hb dX1_look_106 ?_
              refine lv_iand hx hb dX1_look_107 ?_
              refine lv_istore_n (lv' := [(2, .int (v2 &&& ((gpfc (Int32.toNatClampNeg v3)) ^^^ (-1)))), (0, .ref gp), (1, .int v1), (3, .int v3)]) hx hb dX1_look_108 rfl hl (by decide) rfl (fun ls hl => ?_)
              refine lv_iinc (v := v3 + 1) (lv' := [(3, .int (v3 + 1)), (2, .int (v2 &&& ((gpfc (Int32.toNatClampNeg v3)) ^^^ (-1)))), (0, .ref gp), (1, .int v1)]) hx hb dX1_look_109 hl (k := 3) rfl rfl (by decide) rfl (fun ls hl => ?_)
              refine lv_goto (tgt := 22) hx hb dX1_look_112 (by decide) ?_
              exact ih _ _ _ _ h _ _ hP hD hS _ (lv_sub hl [2, 3, 1, 0] rfl)
          · have h := zt h c3
            refine lv_goto (tgt := 109) hx hb dX1_look_38 (by decide) ?_
            refine lv_iinc (v := v3 + 1) (lv' := [(3, .int (v3 + 1)), (0, .ref gp), (1, .int v1), (2, .int v2)]) hx hb dX1_look_109 hl (k := 3) rfl rfl (by decide) rfl (fun ls hl => ?_)
            refine lv_goto (tgt := 22) hx hb dX1_look_112 (by decide) ?_
            exact ih _ _ _ _ h _ _ hP hD hS _ (lv_sub hl [1, 2, 3, 0] rfl)
    refine loop22 _ _ _ _ _ _ ?_ fu _ _ _ _ h _ _ hP hD hS _ (lv_sub hl [2, 3, 1, 0] rfl)
    intro x1 x2 x3 x4 h H locs hP hD hS ls hl
    try dsimp only at h
    have hP : va_P D vwCl [(gp, .inr (1, [.ref gpa, .ref gpb, .ref gpc, .ref gpd, .int gpsz, .int a1, .int x3, .int x4])), (gpc, .inl (k 0, 12, .inl gpfc)), (gpd, .inl (k 0, 12, .inl gpfd))] H := hP
    have hD : va_D A [(gp, .inr (1, [.ref gpa, .ref gpb, .ref gpc, .ref gpd, .int gpsz, .int a1, .int x3, .int x4])), (gpc, .inl (k 0, 12, .inl gpfc)), (gpd, .inl (k 0, 12, .inl gpfd))] := hD
    have hl : lv_has ls 4 [(0, .ref gp), (1, .int a1), (2, .int x1), (3, .int x2)] := hl
    obtain rfl := Option.some.inj h
    exact W.vret hx hb hr (fun t ht9 hW => ⟨⟨(), rfl, trivial, zend ht9 hP⟩, hS.F ht9⟩) hS.2.2 dX1_look_115
  · have h := zt h c5
    obtain rfl := Option.some.inj h
    exact W.vret hx hb hr (fun t ht9 hW => ⟨⟨(), rfl, trivial, zend ht9 hP⟩, hS.F ht9⟩) hS.2.2 dX1_look_8
def f_X1_servicesWithAction (gpal : Int32) (gpre : Int32) (a1 : Int32) : Option (Int32) :=
  if a1 = 1 then (some (gpal)) else (if a1 = 2 then (some (gpre)) else (some ((gpal ||| gpre) ^^^ (-1))))
abbrev wk_X1_servicesWithAction : List Cond := Cond.code yX1_servicesWithAction cX1_servicesWithAction 2 (some .int) :: WB
abbrev rm_X1_servicesWithAction : Room := { frames := 0, cells := 0, slots := 0, locals := 0 }
set_option maxHeartbeats 4000000 in
set_option maxRecDepth 100000 in
theorem c_X1_servicesWithAction (l : Launch) (D : va_G) (k : Nat → Nat) (gp gpa gpb gpc gpd : Nat) (gpsz : Int32) (gpsn : Int32) (gpal : Int32) (gpre : Int32) (a1 : Int32) {res : Int32} (h : f_X1_servicesWithAction gpal gpre a1 = some res) : Ci l yX1_servicesWithAction wk_X1_servicesWithAction rm_X1_servicesWithAction D k [.ref gp, .int a1] [(gp, .inr (1, [.ref gpa, .ref gpb, .ref gpc, .ref gpd, .int gpsz, .int gpsn, .int gpal, .int gpre]))] [(gp, .inr (1, [.ref gpa, .ref gpb, .ref gpc, .ref gpd, .int gpsz, .int gpsn, .int gpal, .int gpre]))] res := by
  unfold Ci
  intro sz
  refine Met.ofW (cc := cX1_servicesWithAction) (maxL := 2) (ret := (some .int)) (by decide) rfl ?_
  intro p e s m args below meth c s₁ B hml hv
  obtain ⟨rfl, hsz, hP, hK, hD0, hm⟩ := hv
  have hx := B.exec
  have hb := B.bytes
  have hr := B.returns
  have ht : ∀ w ∈ WB, w.before _ s = true := fun w hw => atoms_spec (ws := wk_X1_servicesWithAction) B.pre w (List.mem_cons_of_mem _ hw)
  have hown : s.vm.findClass RX1 = some m.cls := findClass_of_methodNamed B.named
  have hlocks := B.notSynchronized
  subst hsz
  have hD := hD0.self (sz := s.heap.size)
  generalize hAe : va_A [(gp, .inr (1, [.ref gpa, .ref gpb, .ref gpc, .ref gpd, .int gpsz, .int gpsn, .int gpal, .int gpre]))] s.heap.size = A at hD hm ⊢
  have hA : ∀ q : Nat, s.heap.size ≤ q → A q := fun q h => by rw [← hAe]; exact Or.inr h
  have hS : va_S A s.heap s.heap [] := va_S.rf
  have hl := lv_entry ([.ref gp, .int a1]) (n := 2) (Nat.le_of_ble_eq_true rfl)
  rw [lg_entry_eq]
  generalize (lg_sl ([.ref gp, .int a1]) ++ List.replicate (2 - (lg_sl ([.ref gp, .int a1])).length) Slot.unset).toArray = ls at hl ⊢
  have hl : lv_has ls 2 [(0, .ref gp), (1, .int a1)] := hl
  obtain ⟨H, hH⟩ : ∃ H, H = s.heap := ⟨_, rfl⟩
  rw [← hH] at hP
  have hS : va_S A s.heap H [] := by rw [hH]; exact hS
  suffices hgo : W p l e _ s m _ below meth c H [] 0 0 _ _ by rw [hH] at hgo; exact hgo
  unfold f_X1_servicesWithAction at h
  refine lv_iload_n hx hb dX1_servicesWithAction_0 rfl (lv_at hl 1 rfl) ?_
  by_cases c1 : a1 = 1
  · have h := zt h c1
    refine lv_lookup (off := 27) (tgt := 28) hx hb dX1_servicesWithAction_1 (by decide) (by rw [c1]; rfl) (by decide) ?_
    refine lv_aload_n hx hb dX1_servicesWithAction_28 rfl (lv_at hl 0 rfl) ?_
    refine va_get (D := D) (ci := 1) (v := .int gpal) (C := RX1) (T := TX1) (N := 8) hx hb ht hiX1 hown hK hP 0 rfl rfl 6 (by decide) (ht _ wb220) (fun _ h9 => h9) rfl dX1_servicesWithAction_29 ?_
    obtain rfl := Option.some.inj h
    exact W.iret (v := gpal) hx hb hr (fun t ht9 hW => ⟨⟨_, (), rfl, rfl, zend ht9 hP⟩, hS.F ht9⟩) hS.2.2 dX1_servicesWithAction_32
  · have h := zf h c1
    by_cases c2 : a1 = 2
    · have h := zt h c2
      refine lv_lookup (off := 32) (tgt := 33) hx hb dX1_servicesWithAction_1 (by decide) (by rw [c2]; rfl) (by decide) ?_
      refine lv_aload_n hx hb dX1_servicesWithAction_33 rfl (lv_at hl 0 rfl) ?_
      refine va_get (D := D) (ci := 1) (v := .int gpre) (C := RX1) (T := TX1) (N := 8) hx hb ht hiX1 hown hK hP 0 rfl rfl 7 (by decide) (ht _ wb221) (fun _ h9 => h9) rfl dX1_servicesWithAction_34 ?_
      obtain rfl := Option.some.inj h
      exact W.iret (v := gpre) hx hb hr (fun t ht9 hW => ⟨⟨_, (), rfl, rfl, zend ht9 hP⟩, hS.F ht9⟩) hS.2.2 dX1_servicesWithAction_37
    · have h := zf h c2
      refine lv_lookup (off := 37) (tgt := 38) hx hb dX1_servicesWithAction_1 (by decide) (by show Op.lookupswitch.offset [(1, 27), (2, 32)] 37 _ = _; rw [lv_osw (a := 1) c1 (by decide), lv_osw (a := 2) c2 (by decide)]; rfl) (by decide) ?_
      refine lv_aload_n hx hb dX1_servicesWithAction_38 rfl (lv_at hl 0 rfl) ?_
      refine va_get (D := D) (ci := 1) (v := .int gpal) (C := RX1) (T := TX1) (N := 8) hx hb ht hiX1 hown hK hP 0 rfl rfl 6 (by decide) (ht _ wb220) (fun _ h9 => h9) rfl dX1_servicesWithAction_39 ?_
      refine lv_aload_n hx hb dX1_servicesWithAction_42 rfl (lv_at hl 0 rfl) ?_
      refine va_get (D := D) (ci := 1) (v := .int gpre) (C := RX1) (T := TX1) (N := 8) hx hb ht hiX1 hown hK hP 0 rfl rfl 7 (by decide) (ht _ wb221) (fun _ h9 => h9) rfl dX1_servicesWithAction_43 ?_
      refine lv_ior hx hb dX1_servicesWithAction_46 ?_
      refine lv_iconst (v := (-1)) hx hb dX1_servicesWithAction_47 (by decide) ?_
      refine lv_ixor hx hb dX1_servicesWithAction_48 ?_
      obtain rfl := Option.some.inj h
      exact W.iret (v := (gpal ||| gpre) ^^^ (-1)) hx hb hr (fun t ht9 hW => ⟨⟨_, (), rfl, rfl, zend ht9 hP⟩, hS.F ht9⟩) hS.2.2 dX1_servicesWithAction_49
def f_X1_casesWithAction_L13 (fu : Nat) (K : Int32 → Int32 → Int32 → Int32 → Int32 → Option (Int32 × Int32 × Int32 × Int32)) (v1 : Int32) (v3 : Int32) (gpsz : Int32) (gpfa : Nat → Int32) (gpfb : Nat → Int32) (gpfc : Nat → Int32) (gpfd : Nat → Int32) : Nat → Int32 → Int32 → Int32 → Int32 → Int32 → Option (Int32 × Int32 × Int32 × Int32)
  | 0, _, _, _, _, _ => none
  | n + 1, v2, v4, gpsn, gpal, gpre =>
  if 32 ≤ v4 then (K v2 v4 gpsn gpal gpre) else (if zok v3 32 then (if zok v4 32 then ((f_X1_look fu gpsz gpsn gpal gpre gpfc gpfd ((gpfa (Int32.toNatClampNeg v3)) &&& (gpfb (Int32.toNatClampNeg v4)))).bind fun r1 => (f_X1_servicesWithAction r1.2.1 r1.2.2 v1).bind fun r2 => (f_J6_bitCount_0f7a4  r2).bind fun r3 => f_X1_casesWithAction_L13 fu K v1 v3 gpsz gpfa gpfb gpfc gpfd n (v2 + r3) (v4 + 1) r1.1 r1.2.1 r1.2.2) else none) else none)
def f_X1_casesWithAction_L4 (fu : Nat) (K : Int32 → Int32 → Int32 → Int32 → Int32 → Option (Int32 × Int32 × Int32 × Int32)) (v1 : Int32) (gpsz : Int32) (gpfa : Nat → Int32) (gpfb : Nat → Int32) (gpfc : Nat → Int32) (gpfd : Nat → Int32) : Nat → Int32 → Int32 → Int32 → Int32 → Int32 → Option (Int32 × Int32 × Int32 × Int32)
  | 0, _, _, _, _, _ => none
  | n + 1, v2, v3, gpsn, gpal, gpre =>
  if 32 ≤ v3 then (K v2 v3 gpsn gpal gpre) else (f_X1_casesWithAction_L13 fu (fun (x1 : Int32) (x2 : Int32) (x3 : Int32) (x4 : Int32) (x5 : Int32) => f_X1_casesWithAction_L4 fu K v1 gpsz gpfa gpfb gpfc gpfd n x1 (v3 + 1) x3 x4 x5) v1 v3 gpsz gpfa gpfb gpfc gpfd fu v2 0 gpsn gpal gpre)
def f_X1_casesWithAction (fu : Nat) (gpsz : Int32) (gpsn : Int32) (gpal : Int32) (gpre : Int32) (gpfa : Nat → Int32) (gpfb : Nat → Int32) (gpfc : Nat → Int32) (gpfd : Nat → Int32) (a1 : Int32) : Option (Int32 × Int32 × Int32 × Int32) :=
  f_X1_casesWithAction_L4 fu (fun (x6 : Int32) (x7 : Int32) (x8 : Int32) (x9 : Int32) (x10 : Int32) => some (x6, x8, x9, x10)) a1 gpsz gpfa gpfb gpfc gpfd fu 0 0 gpsn gpal gpre
abbrev wk_X1_casesWithAction : List Cond := Cond.code yX1_casesWithAction cX1_casesWithAction 5 (some .int) :: WB
abbrev rm_X1_casesWithAction : Room := { frames := 2, cells := 0, slots := 0, locals := 44 }
set_option maxHeartbeats 4000000 in
set_option maxRecDepth 100000 in
theorem c_X1_casesWithAction (l : Launch) (D : va_G) (k : Nat → Nat) (gp gpa gpb gpc gpd : Nat) (gpsz : Int32) (gpsn : Int32) (gpal : Int32) (gpre : Int32) (gpfa : Nat → Int32) (gpfb : Nat → Int32) (gpfc : Nat → Int32) (gpfd : Nat → Int32) (a1 : Int32) (fu : Nat) {res : Int32 × Int32 × Int32 × Int32} (h : f_X1_casesWithAction fu gpsz gpsn gpal gpre gpfa gpfb gpfc gpfd a1 = some res) : Ci l yX1_casesWithAction wk_X1_casesWithAction rm_X1_casesWithAction D k [.ref gp, .int a1] [(gp, .inr (1, [.ref gpa, .ref gpb, .ref gpc, .ref gpd, .int gpsz, .int gpsn, .int gpal, .int gpre])), (gpa, .inl (k 0, 32, .inl gpfa)), (gpb, .inl (k 0, 32, .inl gpfb)), (gpc, .inl (k 0, 12, .inl gpfc)), (gpd, .inl (k 0, 12, .inl gpfd))] [(gp, .inr (1, [.ref gpa, .ref gpb, .ref gpc, .ref gpd, .int gpsz, .int res.2.1, .int res.2.2.1, .int res.2.2.2])), (gpa, .inl (k 0, 32, .inl gpfa)), (gpb, .inl (k 0, 32, .inl gpfb)), (gpc, .inl (k 0, 12, .inl gpfc)), (gpd, .inl (k 0, 12, .inl gpfd))] res.1 := by
  unfold Ci
  intro sz
  refine Met.ofW (cc := cX1_casesWithAction) (maxL := 5) (ret := (some .int)) (by decide) rfl ?_
  intro p e s m args below meth c s₁ B hml hv
  obtain ⟨rfl, hsz, hP, hK, hD0, hm⟩ := hv
  have hx := B.exec
  have hb := B.bytes
  have hr := B.returns
  have ht : ∀ w ∈ WB, w.before _ s = true := fun w hw => atoms_spec (ws := wk_X1_casesWithAction) B.pre w (List.mem_cons_of_mem _ hw)
  have hown : s.vm.findClass RX1 = some m.cls := findClass_of_methodNamed B.named
  have hlocks := B.notSynchronized
  subst hsz
  have hD := hD0.self (sz := s.heap.size)
  generalize hAe : va_A [(gp, .inr (1, [.ref gpa, .ref gpb, .ref gpc, .ref gpd, .int gpsz, .int gpsn, .int gpal, .int gpre])), (gpa, .inl (k 0, 32, .inl gpfa)), (gpb, .inl (k 0, 32, .inl gpfb)), (gpc, .inl (k 0, 12, .inl gpfc)), (gpd, .inl (k 0, 12, .inl gpfd))] s.heap.size = A at hD hm ⊢
  have hA : ∀ q : Nat, s.heap.size ≤ q → A q := fun q h => by rw [← hAe]; exact Or.inr h
  have hS : va_S A s.heap s.heap [] := va_S.rf
  have hl := lv_entry ([.ref gp, .int a1]) (n := 5) (Nat.le_of_ble_eq_true rfl)
  rw [lg_entry_eq]
  generalize (lg_sl ([.ref gp, .int a1]) ++ List.replicate (5 - (lg_sl ([.ref gp, .int a1])).length) Slot.unset).toArray = ls at hl ⊢
  have hl : lv_has ls 5 [(0, .ref gp), (1, .int a1)] := hl
  obtain ⟨H, hH⟩ : ∃ H, H = s.heap := ⟨_, rfl⟩
  rw [← hH] at hP
  have hS : va_S A s.heap H [] := by rw [hH]; exact hS
  suffices hgo : W p l e _ s m _ below meth c H [] 0 0 _ _ by rw [hH] at hgo; exact hgo
  unfold f_X1_casesWithAction at h
  refine lv_iconst (v := 0) hx hb dX1_casesWithAction_0 (by decide) ?_
  refine lv_istore_n (lv' := [(2, .int 0), (0, .ref gp), (1, .int a1)]) hx hb dX1_casesWithAction_1 rfl hl (by decide) rfl (fun ls hl => ?_)
  refine lv_iconst (v := 0) hx hb dX1_casesWithAction_2 (by decide) ?_
  refine lv_istore_n (lv' := [(3, .int 0), (2, .int 0), (0, .ref gp), (1, .int a1)]) hx hb dX1_casesWithAction_3 rfl hl (by decide) rfl (fun ls hl => ?_)
  have loop4 : ∀ (v1 : Int32) (gpsz : Int32) (gpfa : Nat → Int32) (gpfb : Nat → Int32) (gpfc : Nat → Int32) (gpfd : Nat → Int32), ∀ (K : Int32 → Int32 → Int32 → Int32 → Int32 → Option (Int32 × Int32 × Int32 × Int32)), (∀ (v2 : Int32) (v3 : Int32) (gpsn : Int32) (gpal : Int32) (gpre : Int32), K v2 v3 gpsn gpal gpre = some res → ∀ (H : Heap) (locs : List Loc), va_P D vwCl [(gp, .inr (1, [.ref gpa, .ref gpb, .ref gpc, .ref gpd, .int gpsz, .int gpsn, .int gpal, .int gpre])), (gpa, .inl (k 0, 32, .inl gpfa)), (gpb, .inl (k 0, 32, .inl gpfb)), (gpc, .inl (k 0, 12, .inl gpfc)), (gpd, .inl (k 0, 12, .inl gpfd))] H → va_D A [(gp, .inr (1, [.ref gpa, .ref gpb, .ref gpc, .ref gpd, .int gpsz, .int gpsn, .int gpal, .int gpre])), (gpa, .inl (k 0, 32, .inl gpfa)), (gpb, .inl (k 0, 32, .inl gpfb)), (gpc, .inl (k 0, 12, .inl gpfc)), (gpd, .inl (k 0, 12, .inl gpfd))] → va_S A s.heap H locs → ∀ ls : Array Slot, lv_has ls 5 [(0, .ref gp), (1, .int v1), (2, .int v2), (3, .int v3)] → W p l e (headSpec wk_X1_casesWithAction rm_X1_casesWithAction).room s m ([.ref gp, .int a1] : List Value).toArray below meth c H locs 0 0 (MQ below (va_Qi (fun xq9 (_ : Unit) => xq9 = res.1) (fun _ tq9 => va_P D vwCl [(gp, .inr (1, [.ref gpa, .ref gpb, .ref gpc, .ref gpd, .int gpsz, .int res.2.1, .int res.2.2.1, .int res.2.2.2])), (gpa, .inl (k 0, 32, .inl gpfa)), (gpb, .inl (k 0, 32, .inl gpfb)), (gpc, .inl (k 0, 12, .inl gpfc)), (gpd, .inl (k 0, 12, .inl gpfd))] tq9.heap) A) ([.ref gp, .int a1] : List Value).toArray s 0 0 A) (F0 m 61 ls [])) → ∀ (n : Nat) (v2 : Int32) (v3 : Int32) (gpsn : Int32) (gpal : Int32) (gpre : Int32), f_X1_casesWithAction_L4 fu K v1 gpsz gpfa gpfb gpfc gpfd n v2 v3 gpsn gpal gpre = some res → ∀ (H : Heap) (locs : List Loc), va_P D vwCl [(gp, .inr (1, [.ref gpa, .ref gpb, .ref gpc, .ref gpd, .int gpsz, .int gpsn, .int gpal, .int gpre])), (gpa, .inl (k 0, 32, .inl gpfa)), (gpb, .inl (k 0, 32, .inl gpfb)), (gpc, .inl (k 0, 12, .inl gpfc)), (gpd, .inl (k 0, 12, .inl gpfd))] H → va_D A [(gp, .inr (1, [.ref gpa, .ref gpb, .ref gpc, .ref gpd, .int gpsz, .int gpsn, .int gpal, .int gpre])), (gpa, .inl (k 0, 32, .inl gpfa)), (gpb, .inl (k 0, 32, .inl gpfb)), (gpc, .inl (k 0, 12, .inl gpfc)), (gpd, .inl (k 0, 12, .inl gpfd))] → va_S A s.heap H locs → ∀ ls : Array Slot, lv_has ls 5 [(0, .ref gp), (1, .int v1), (2, .int v2), (3, .int v3)] → W p l e (headSpec wk_X1_casesWithAction rm_X1_casesWithAction).room s m ([.ref gp, .int a1] : List Value).toArray below meth c H locs 0 0 (MQ below (va_Qi (fun xq9 (_ : Unit) => xq9 = res.1) (fun _ tq9 => va_P D vwCl [(gp, .inr (1, [.ref gpa, .ref gpb, .ref gpc, .ref gpd, .int gpsz, .int res.2.1, .int res.2.2.1, .int res.2.2.2])), (gpa, .inl (k 0, 32, .inl gpfa)), (gpb, .inl (k 0, 32, .inl gpfb)), (gpc, .inl (k 0, 12, .inl gpfc)), (gpd, .inl (k 0, 12, .inl gpfd))] tq9.heap) A) ([.ref gp, .int a1] : List Value).toArray s 0 0 A) (F0 m 4 ls []) := by
    intro v1 gpsz gpfa gpfb gpfc gpfd K hKK n
    induction n with
    | zero =>
      intro v2 v3 gpsn gpal gpre h
      rw [f_X1_casesWithAction_L4] at h
      cases h
    | succ n ih =>
      intro v2 v3 gpsn gpal gpre h H locs hP hD hS ls hl
      rw [f_X1_casesWithAction_L4] at h
      refine lv_iload_n hx hb dX1_casesWithAction_4 rfl (lv_at hl 3 rfl) ?_
      refine lv_bipush (v := 32) hx hb dX1_casesWithAction_5 (by decide) ?_
      refine lv_icmp_ge (tgt := 61) hx hb dX1_casesWithAction_7 (by decide) (fun c2 => ?_) (fun c2 => ?_)
      · have h := zt h c2
        exact hKK _ _ _ _ _ h _ _ hP hD hS _ (lv_sub hl [0, 1, 2, 3] rfl)
      · have h := zf h c2
        refine lv_iconst (v := 0) hx hb dX1_casesWithAction_10 (by decide) ?_
        refine lv_istore (lv' := [(4, .int 0), (0, .ref gp), (1, .int v1), (2, .int v2), (3, .int v3)]) hx hb dX1_casesWithAction_11 hl (by decide) rfl (fun ls hl => ?_)
        have loop13 : ∀ (v1 : Int32) (v3 : Int32) (gpsz : Int32) (gpfa : Nat → Int32) (gpfb : Nat → Int32) (gpfc : Nat → Int32) (gpfd : Nat → Int32), ∀ (K : Int32 → Int32 → Int32 → Int32 → Int32 → Option (Int32 × Int32 × Int32 × Int32)), (∀ (v2 : Int32) (v4 : Int32) (gpsn : Int32) (gpal : Int32) (gpre : Int32), K v2 v4 gpsn gpal gpre = some res → ∀ (H : Heap) (locs : List Loc), va_P D vwCl [(gp, .inr (1, [.ref gpa, .ref gpb, .ref gpc, .ref gpd, .int gpsz, .int gpsn, .int gpal, .int gpre])), (gpa, .inl (k 0, 32, .inl gpfa)), (gpb, .inl (k 0, 32, .inl gpfb)), (gpc, .inl (k 0, 12, .inl gpfc)), (gpd, .inl (k 0, 12, .inl gpfd))] H → va_D A [(gp, .inr (1, [.ref gpa, .ref gpb, .ref gpc, .ref gpd, .int gpsz, .int gpsn, .int gpal, .int gpre])), (gpa, .inl (k 0, 32, .inl gpfa)), (gpb, .inl (k 0, 32, .inl gpfb)), (gpc, .inl (k 0, 12, .inl gpfc)), (gpd, .inl (k 0, 12, .inl gpfd))] → va_S A s.heap H locs → ∀ ls : Array Slot, lv_has ls 5 [(0, .ref gp), (1, .int v1), (2, .int v2), (3, .int v3), (4, .int v4)] → W p l e (headSpec wk_X1_casesWithAction rm_X1_casesWithAction).room s m ([.ref gp, .int a1] : List Value).toArray below meth c H locs 0 0 (MQ below (va_Qi (fun xq9 (_ : Unit) => xq9 = res.1) (fun _ tq9 => va_P D vwCl [(gp, .inr (1, [.ref gpa, .ref gpb, .ref gpc, .ref gpd, .int gpsz, .int res.2.1, .int res.2.2.1, .int res.2.2.2])), (gpa, .inl (k 0, 32, .inl gpfa)), (gpb, .inl (k 0, 32, .inl gpfb)), (gpc, .inl (k 0, 12, .inl gpfc)), (gpd, .inl (k 0, 12, .inl gpfd))] tq9.heap) A) ([.ref gp, .int a1] : List Value).toArray s 0 0 A) (F0 m 55 ls [])) → ∀ (n : Nat) (v2 : Int32) (v4 : Int32) (gpsn : Int32) (gpal : Int32) (gpre : Int32), f_X1_casesWithAction_L13 fu K v1 v3 gpsz gpfa gpfb gpfc gpfd n v2 v4 gpsn gpal gpre = some res → ∀ (H : Heap) (locs : List Loc), va_P D vwCl [(gp, .inr (1, [.ref gpa, .ref gpb, .ref gpc, .ref gpd, .int gpsz, .int gpsn, .int gpal, .int gpre])), (gpa, .inl (k 0, 32, .inl gpfa)), (gpb, .inl (k 0, 32, .inl gpfb)), (gpc, .inl (k 0, 12, .inl gpfc)), (gpd, .inl (k 0, 12, .inl gpfd))] H → va_D A [(gp, .inr (1, [.ref gpa, .ref gpb, .ref gpc, .ref gpd, .int gpsz, .int gpsn, .int gpal, .int gpre])), (gpa, .inl (k 0, 32, .inl gpfa)), (gpb, .inl (k 0, 32, .inl gpfb)), (gpc, .inl (k 0, 12, .inl gpfc)), (gpd, .inl (k 0, 12, .inl gpfd))] → va_S A s.heap H locs → ∀ ls : Array Slot, lv_has ls 5 [(0, .ref gp), (1, .int v1), (2, .int v2), (3, .int v3), (4, .int v4)] → W p l e (headSpec wk_X1_casesWithAction rm_X1_casesWithAction).room s m ([.ref gp, .int a1] : List Value).toArray below meth c H locs 0 0 (MQ below (va_Qi (fun xq9 (_ : Unit) => xq9 = res.1) (fun _ tq9 => va_P D vwCl [(gp, .inr (1, [.ref gpa, .ref gpb, .ref gpc, .ref gpd, .int gpsz, .int res.2.1, .int res.2.2.1, .int res.2.2.2])), (gpa, .inl (k 0, 32, .inl gpfa)), (gpb, .inl (k 0, 32, .inl gpfb)), (gpc, .inl (k 0, 12, .inl gpfc)), (gpd, .inl (k 0, 12, .inl gpfd))] tq9.heap) A) ([.ref gp, .int a1] : List Value).toArray s 0 0 A) (F0 m 13 ls []) := by
          intro v1 v3 gpsz gpfa gpfb gpfc gpfd K hKK n
          induction n with
          | zero =>
            intro v2 v4 gpsn gpal gpre h
            rw [f_X1_casesWithAction_L13] at h
            cases h
          | succ n ih =>
            intro v2 v4 gpsn gpal gpre h H locs hP hD hS ls hl
            rw [f_X1_casesWithAction_L13] at h
            refine lv_iload hx hb dX1_casesWithAction_13 (lv_at hl 4 rfl) ?_
            refine lv_bipush (v := 32) hx hb dX1_casesWithAction_15 (by decide) ?_
            refine lv_icmp_ge (tgt := 55) hx hb dX1_casesWithAction_17 (by decide) (fun c1 => ?_) (fun c1 => ?_)
            · have h := zt h c1
              exact hKK _ _ _ _ _ h _ _ hP hD hS _ (lv_sub hl [0, 1, 2, 3, 4] rfl)
            · have h := zf h c1
              refine lv_aload_n hx hb dX1_casesWithAction_20 rfl (lv_at hl 0 rfl) ?_
              refine lv_aload_n hx hb dX1_casesWithAction_21 rfl (lv_at hl 0 rfl) ?_
              refine va_get (D := D) (ci := 1) (v := .ref gpa) (C := RX1) (T := TX1) (N := 8) hx hb ht hiX1 hown hK hP 0 rfl rfl 0 (by decide) (ht _ wb214) (fun _ h9 => h9) rfl dX1_casesWithAction_22 ?_
              refine lv_iload_n hx hb dX1_casesWithAction_25 rfl (lv_at hl 3 rfl) ?_
              obtain ⟨hi1, h⟩ := zg h
              refine va_iald hx hb hK hP 1 0 rfl rfl hi1 dX1_casesWithAction_26 ?_
              refine lv_aload_n hx hb dX1_casesWithAction_27 rfl (lv_at hl 0 rfl) ?_
              refine va_get (D := D) (ci := 1) (v := .ref gpb) (C := RX1) (T := TX1) (N := 8) hx hb ht hiX1 hown hK hP 0 rfl rfl 1 (by decide) (ht _ wb215) (fun _ h9 => h9) rfl dX1_casesWithAction_28 ?_
              refine lv_iload hx hb dX1_casesWithAction_31 (lv_at hl 4 rfl) ?_
              obtain ⟨hi2, h⟩ := zg h
              refine va_iald hx hb hK hP 2 0 rfl rfl hi2 dX1_casesWithAction_33 ?_
              refine lv_iand hx hb dX1_casesWithAction_34 ?_
              obtain ⟨r1, h1, h⟩ := zb h
              refine zv (zrV (C := RX1) (T := TX1) (N := 8) (As := [.int ((gpfa (Int32.toNatClampNeg v3)) &&& (gpfb (Int32.toNatClampNeg v4)))]) (rest := []) ⟨hx, hb, hml, hown, ht⟩ (c_X1_look l D k gp gpa gpb gpc gpd gpsz gpsn gpal gpre gpfc gpfd ((gpfa (Int32.toNatClampNeg v3)) &&& (gpfb (Int32.toNatClampNeg v4))) fu h1 _) (cwV 1 ht (gdV wb469 wb471 wb9 wb79 wb472) rfl rfl rfl (by decide +kernel) ⟨Nat.le_of_ble_eq_true rfl, Nat.le_of_ble_eq_true rfl⟩) hK hP hD hS hA hm [0, 3, 4] rfl rfl 0 1 rfl rfl rfl hl.1 rfl (Nat.le_of_ble_eq_true rfl) dX1_casesWithAction_35 ⟨Nat.le_refl _, Nat.le_refl _⟩) hP hD hS hA [0, 3, 4] rfl rfl (fun H locs hP hD hS => ?_)
              have hP : va_P D vwCl [(gp, .inr (1, [.ref gpa, .ref gpb, .ref gpc, .ref gpd, .int gpsz, .int r1.1, .int r1.2.1, .int r1.2.2])), (gpa, .inl (k 0, 32, .inl gpfa)), (gpb, .inl (k 0, 32, .inl gpfb)), (gpc, .inl (k 0, 12, .inl gpfc)), (gpd, .inl (k 0, 12, .inl gpfd))] H := hP
              have hD : va_D A [(gp, .inr (1, [.ref gpa, .ref gpb, .ref gpc, .ref gpd, .int gpsz, .int r1.1, .int r1.2.1, .int r1.2.2])), (gpa, .inl (k 0, 32, .inl gpfa)), (gpb, .inl (k 0, 32, .inl gpfb)), (gpc, .inl (k 0, 12, .inl gpfc)), (gpd, .inl (k 0, 12, .inl gpfd))] := hD
              refine lv_iload_n hx hb dX1_casesWithAction_38 rfl (lv_at hl 2 rfl) ?_
              refine lv_aload_n hx hb dX1_casesWithAction_39 rfl (lv_at hl 0 rfl) ?_
              refine lv_iload_n hx hb dX1_casesWithAction_40 rfl (lv_at hl 1 rfl) ?_
              obtain ⟨r2, h2, h⟩ := zb h
              refine zi (zrV (C := RX1) (T := TX1) (N := 8) (As := [.int v1]) (rest := [.int v2]) ⟨hx, hb, hml, hown, ht⟩ (c_X1_servicesWithAction l D k gp gpa gpb gpc gpd gpsz r1.1 r1.2.1 r1.2.2 v1 h2 _) (cwV 1 ht (gdV wb506 wb508 wb11 wb79 wb509) rfl rfl rfl (by decide +kernel) ⟨Nat.le_of_ble_eq_true rfl, Nat.le_of_ble_eq_true rfl⟩) hK hP hD hS hA hm [0] rfl rfl 0 1 rfl rfl rfl hl.1 rfl (Nat.le_of_ble_eq_true rfl) dX1_casesWithAction_41 ⟨Nat.le_refl _, Nat.le_refl _⟩) hP hD hS hA [0] rfl rfl (fun H locs hP hD hS => ?_)
              have hP : va_P D vwCl [(gp, .inr (1, [.ref gpa, .ref gpb, .ref gpc, .ref gpd, .int gpsz, .int r1.1, .int r1.2.1, .int r1.2.2])), (gpa, .inl (k 0, 32, .inl gpfa)), (gpb, .inl (k 0, 32, .inl gpfb)), (gpc, .inl (k 0, 12, .inl gpfc)), (gpd, .inl (k 0, 12, .inl gpfd))] H := hP
              have hD : va_D A [(gp, .inr (1, [.ref gpa, .ref gpb, .ref gpc, .ref gpd, .int gpsz, .int r1.1, .int r1.2.1, .int r1.2.2])), (gpa, .inl (k 0, 32, .inl gpfa)), (gpb, .inl (k 0, 32, .inl gpfb)), (gpc, .inl (k 0, 12, .inl gpfc)), (gpd, .inl (k 0, 12, .inl gpfd))] := hD
              obtain ⟨r3, h3, h⟩ := zb h
              refine zi (zrS (As := [.int r2]) (rest := [.int v2]) ⟨hx, hb, hml, hown, ht⟩ (c_J6_bitCount_0f7a4 l D k   r2 h3 _) (va_cwS 1 ht (gdS wb440 wb441 wb81 wb442) rfl rfl rfl (by decide +kernel) ⟨Nat.le_of_ble_eq_true rfl, Nat.le_of_ble_eq_true rfl⟩) hK hP hD hS hA hm [] rfl rfl rfl hl.1 rfl (Nat.le_of_ble_eq_true rfl) dX1_casesWithAction_44 ⟨Nat.le_refl _, Nat.le_refl _⟩) hP hD hS hA [] rfl rfl (fun H locs hP hD hS => ?_)
              have hP : va_P D vwCl [(gp, .inr (1, [.ref gpa, .ref gpb, .ref gpc, .ref gpd, .int gpsz, .int r1.1, .int r1.2.1, .int r1.2.2])), (gpa, .inl (k 0, 32, .inl gpfa)), (gpb, .inl (k 0, 32, .inl gpfb)), (gpc, .inl (k 0, 12, .inl gpfc)), (gpd, .inl (k 0, 12, .inl gpfd))] H := hP
              have hD : va_D A [(gp, .inr (1, [.ref gpa, .ref gpb, .ref gpc, .ref gpd, .int gpsz, .int r1.1, .int r1.2.1, .int r1.2.2])), (gpa, .inl (k 0, 32, .inl gpfa)), (gpb, .inl (k 0, 32, .inl gpfb)), (gpc, .inl (k 0, 12, .inl gpfc)), (gpd, .inl (k 0, 12, .inl gpfd))] := hD
              refine lv_iadd hx hb dX1_casesWithAction_47 ?_
              refine lv_istore_n (lv' := [(2, .int (v2 + r3)), (0, .ref gp), (1, .int v1), (3, .int v3), (4, .int v4)]) hx hb dX1_casesWithAction_48 rfl hl (by decide) rfl (fun ls hl => ?_)
              refine lv_iinc (v := v4 + 1) (lv' := [(4, .int (v4 + 1)), (2, .int (v2 + r3)), (0, .ref gp), (1, .int v1), (3, .int v3)]) hx hb dX1_casesWithAction_49 hl (k := 4) rfl rfl (by decide) rfl (fun ls hl => ?_)
              refine lv_goto (tgt := 13) hx hb dX1_casesWithAction_52 (by decide) ?_
              exact ih _ _ _ _ _ h _ _ hP hD hS _ (lv_sub hl [2, 3, 1, 4, 0] rfl)
        refine loop13 _ _ _ _ _ _ _ _ ?_ fu _ _ _ _ _ h _ _ hP hD hS _ (lv_sub hl [1, 2, 3, 4, 0] rfl)
        intro x1 x2 x3 x4 x5 h H locs hP hD hS ls hl
        try dsimp only at h
        have hP : va_P D vwCl [(gp, .inr (1, [.ref gpa, .ref gpb, .ref gpc, .ref gpd, .int gpsz, .int x3, .int x4, .int x5])), (gpa, .inl (k 0, 32, .inl gpfa)), (gpb, .inl (k 0, 32, .inl gpfb)), (gpc, .inl (k 0, 12, .inl gpfc)), (gpd, .inl (k 0, 12, .inl gpfd))] H := hP
        have hD : va_D A [(gp, .inr (1, [.ref gpa, .ref gpb, .ref gpc, .ref gpd, .int gpsz, .int x3, .int x4, .int x5])), (gpa, .inl (k 0, 32, .inl gpfa)), (gpb, .inl (k 0, 32, .inl gpfb)), (gpc, .inl (k 0, 12, .inl gpfc)), (gpd, .inl (k 0, 12, .inl gpfd))] := hD
        have hl : lv_has ls 5 [(0, .ref gp), (1, .int v1), (2, .int x1), (3, .int v3), (4, .int x2)] := hl
        refine lv_iinc (v := v3 + 1) (lv' := [(3, .int (v3 + 1)), (0, .ref gp), (1, .int v1), (2, .int x1), (4, .int x2)]) hx hb dX1_casesWithAction_55 hl (k := 3) rfl rfl (by decide) rfl (fun ls hl => ?_)
        refine lv_goto (tgt := 4) hx hb dX1_casesWithAction_58 (by decide) ?_
        exact ih _ _ _ _ _ h _ _ hP hD hS _ (lv_sub hl [1, 2, 3, 0] rfl)
  refine loop4 _ _ _ _ _ _ _ ?_ fu _ _ _ _ _ h _ _ hP hD hS _ (lv_sub hl [2, 3, 1, 0] rfl)
  intro x6 x7 x8 x9 x10 h H locs hP hD hS ls hl
  try dsimp only at h
  have hP : va_P D vwCl [(gp, .inr (1, [.ref gpa, .ref gpb, .ref gpc, .ref gpd, .int gpsz, .int x8, .int x9, .int x10])), (gpa, .inl (k 0, 32, .inl gpfa)), (gpb, .inl (k 0, 32, .inl gpfb)), (gpc, .inl (k 0, 12, .inl gpfc)), (gpd, .inl (k 0, 12, .inl gpfd))] H := hP
  have hD : va_D A [(gp, .inr (1, [.ref gpa, .ref gpb, .ref gpc, .ref gpd, .int gpsz, .int x8, .int x9, .int x10])), (gpa, .inl (k 0, 32, .inl gpfa)), (gpb, .inl (k 0, 32, .inl gpfb)), (gpc, .inl (k 0, 12, .inl gpfc)), (gpd, .inl (k 0, 12, .inl gpfd))] := hD
  have hl : lv_has ls 5 [(0, .ref gp), (1, .int a1), (2, .int x6), (3, .int x7)] := hl
  refine lv_iload_n hx hb dX1_casesWithAction_61 rfl (lv_at hl 2 rfl) ?_
  obtain rfl := Option.some.inj h
  exact W.iret (v := x6) hx hb hr (fun t ht9 hW => ⟨⟨_, (), rfl, rfl, zend ht9 hP⟩, hS.F ht9⟩) hS.2.2 dX1_casesWithAction_62
def f_X1_differingServices (fu : Nat) (gpsz : Int32) (gpsn : Int32) (gpal : Int32) (gpre : Int32) (gpfa : Nat → Int32) (gpfb : Nat → Int32) (gpfc : Nat → Int32) (gpfd : Nat → Int32) (gqsz : Int32) (gqsn : Int32) (gqal : Int32) (gqre : Int32) (gqfa : Nat → Int32) (gqfb : Nat → Int32) (gqfc : Nat → Int32) (gqfd : Nat → Int32) (a1 : Int32) (a2 : Int32) : Option (Int32 × Int32 × Int32 × Int32 × Int32 × Int32 × Int32) :=
  (f_X5_within  a1 0 31).bind fun r1 => if (zB r1) = 0 then (some (0, gpsn, gpal, gpre, gqsn, gqal, gqre)) else ((f_X5_within  a2 0 31).bind fun r2 => if (zB r2) = 0 then (some (0, gpsn, gpal, gpre, gqsn, gqal, gqre)) else (if zok a1 32 then (if zok a2 32 then ((f_X1_look fu gpsz gpsn gpal gpre gpfc gpfd ((gpfa (Int32.toNatClampNeg a1)) &&& (gpfb (Int32.toNatClampNeg a2)))).bind fun r3 => if zok a1 32 then (if zok a2 32 then ((f_X1_look fu gqsz gqsn gqal gqre gqfc gqfd ((gqfa (Int32.toNatClampNeg a1)) &&& (gqfb (Int32.toNatClampNeg a2)))).bind fun r4 => some ((r3.2.1 ^^^ r4.2.1) ||| (r3.2.2 ^^^ r4.2.2), r3.1, r3.2.1, r3.2.2, r4.1, r4.2.1, r4.2.2)) else none) else none) else none) else none))
abbrev wk_X1_differingServices : List Cond := Cond.code yX1_differingServices cX1_differingServices 4 (some .int) :: WB
abbrev rm_X1_differingServices : Room := { frames := 2, cells := 0, slots := 0, locals := 44 }
set_option maxHeartbeats 4000000 in
set_option maxRecDepth 100000 in
theorem c_X1_differingServices (l : Launch) (D : va_G) (k : Nat → Nat) (gp gpa gpb gpc gpd gq gqa gqb gqc gqd : Nat) (gpsz : Int32) (gpsn : Int32) (gpal : Int32) (gpre : Int32) (gpfa : Nat → Int32) (gpfb : Nat → Int32) (gpfc : Nat → Int32) (gpfd : Nat → Int32) (gqsz : Int32) (gqsn : Int32) (gqal : Int32) (gqre : Int32) (gqfa : Nat → Int32) (gqfb : Nat → Int32) (gqfc : Nat → Int32) (gqfd : Nat → Int32) (a1 : Int32) (a2 : Int32) (fu : Nat) {res : Int32 × Int32 × Int32 × Int32 × Int32 × Int32 × Int32} (h : f_X1_differingServices fu gpsz gpsn gpal gpre gpfa gpfb gpfc gpfd gqsz gqsn gqal gqre gqfa gqfb gqfc gqfd a1 a2 = some res) : Ci l yX1_differingServices wk_X1_differingServices rm_X1_differingServices D k [.ref gp, .ref gq, .int a1, .int a2] [(gp, .inr (1, [.ref gpa, .ref gpb, .ref gpc, .ref gpd, .int gpsz, .int gpsn, .int gpal, .int gpre])), (gpa, .inl (k 0, 32, .inl gpfa)), (gpb, .inl (k 0, 32, .inl gpfb)), (gpc, .inl (k 0, 12, .inl gpfc)), (gpd, .inl (k 0, 12, .inl gpfd)), (gq, .inr (1, [.ref gqa, .ref gqb, .ref gqc, .ref gqd, .int gqsz, .int gqsn, .int gqal, .int gqre])), (gqa, .inl (k 0, 32, .inl gqfa)), (gqb, .inl (k 0, 32, .inl gqfb)), (gqc, .inl (k 0, 12, .inl gqfc)), (gqd, .inl (k 0, 12, .inl gqfd))] [(gp, .inr (1, [.ref gpa, .ref gpb, .ref gpc, .ref gpd, .int gpsz, .int res.2.1, .int res.2.2.1, .int res.2.2.2.1])), (gpa, .inl (k 0, 32, .inl gpfa)), (gpb, .inl (k 0, 32, .inl gpfb)), (gpc, .inl (k 0, 12, .inl gpfc)), (gpd, .inl (k 0, 12, .inl gpfd)), (gq, .inr (1, [.ref gqa, .ref gqb, .ref gqc, .ref gqd, .int gqsz, .int res.2.2.2.2.1, .int res.2.2.2.2.2.1, .int res.2.2.2.2.2.2])), (gqa, .inl (k 0, 32, .inl gqfa)), (gqb, .inl (k 0, 32, .inl gqfb)), (gqc, .inl (k 0, 12, .inl gqfc)), (gqd, .inl (k 0, 12, .inl gqfd))] res.1 := by
  unfold Ci
  intro sz
  refine Met.ofW (cc := cX1_differingServices) (maxL := 4) (ret := (some .int)) (by decide) rfl ?_
  intro p e s m args below meth c s₁ B hml hv
  obtain ⟨rfl, hsz, hP, hK, hD0, hm⟩ := hv
  have hx := B.exec
  have hb := B.bytes
  have hr := B.returns
  have ht : ∀ w ∈ WB, w.before _ s = true := fun w hw => atoms_spec (ws := wk_X1_differingServices) B.pre w (List.mem_cons_of_mem _ hw)
  have hown : s.vm.findClass RX1 = some m.cls := findClass_of_methodNamed B.named
  have hlocks := B.notSynchronized
  subst hsz
  have hD := hD0.self (sz := s.heap.size)
  generalize hAe : va_A [(gp, .inr (1, [.ref gpa, .ref gpb, .ref gpc, .ref gpd, .int gpsz, .int gpsn, .int gpal, .int gpre])), (gpa, .inl (k 0, 32, .inl gpfa)), (gpb, .inl (k 0, 32, .inl gpfb)), (gpc, .inl (k 0, 12, .inl gpfc)), (gpd, .inl (k 0, 12, .inl gpfd)), (gq, .inr (1, [.ref gqa, .ref gqb, .ref gqc, .ref gqd, .int gqsz, .int gqsn, .int gqal, .int gqre])), (gqa, .inl (k 0, 32, .inl gqfa)), (gqb, .inl (k 0, 32, .inl gqfb)), (gqc, .inl (k 0, 12, .inl gqfc)), (gqd, .inl (k 0, 12, .inl gqfd))] s.heap.size = A at hD hm ⊢
  have hA : ∀ q : Nat, s.heap.size ≤ q → A q := fun q h => by rw [← hAe]; exact Or.inr h
  have hS : va_S A s.heap s.heap [] := va_S.rf
  have hl := lv_entry ([.ref gp, .ref gq, .int a1, .int a2]) (n := 4) (Nat.le_of_ble_eq_true rfl)
  rw [lg_entry_eq]
  generalize (lg_sl ([.ref gp, .ref gq, .int a1, .int a2]) ++ List.replicate (4 - (lg_sl ([.ref gp, .ref gq, .int a1, .int a2])).length) Slot.unset).toArray = ls at hl ⊢
  have hl : lv_has ls 4 [(0, .ref gp), (1, .ref gq), (2, .int a1), (3, .int a2)] := hl
  obtain ⟨H, hH⟩ : ∃ H, H = s.heap := ⟨_, rfl⟩
  rw [← hH] at hP
  have hS : va_S A s.heap H [] := by rw [hH]; exact hS
  suffices hgo : W p l e _ s m _ below meth c H [] 0 0 _ _ by rw [hH] at hgo; exact hgo
  unfold f_X1_differingServices at h
  refine lv_iload_n hx hb dX1_differingServices_0 rfl (lv_at hl 2 rfl) ?_
  refine lv_iconst (v := 0) hx hb dX1_differingServices_1 (by decide) ?_
  refine lv_bipush (v := 31) hx hb dX1_differingServices_2 (by decide) ?_
  obtain ⟨r1, h1, h⟩ := zb h
  refine zi (zrN (As := [.int a1, .int 0, .int 31]) (rest := []) ⟨hx, hb, hml, hown, ht⟩ (c_X5_within l D k   a1 0 31 h1 _) ⟨va_cnB 3 ht (gdN wb270) rfl rfl rfl (hm.1 _ (List.mem_of_getElem? (i := 18) rfl)) (ht _ wb72) (by decide +kernel) ⟨Nat.le_of_ble_eq_true rfl, Nat.le_of_ble_eq_true rfl⟩, ht _ wb269, trivial⟩ hK hP hD hS hA hm [] rfl rfl rfl hl.1 rfl (Nat.le_of_ble_eq_true rfl) dX1_differingServices_4 ⟨Nat.le_refl _, Nat.le_refl _⟩) hP hD hS hA [] rfl rfl (fun H locs hP hD hS => ?_)
  have hP : va_P D vwCl [(gp, .inr (1, [.ref gpa, .ref gpb, .ref gpc, .ref gpd, .int gpsz, .int gpsn, .int gpal, .int gpre])), (gpa, .inl (k 0, 32, .inl gpfa)), (gpb, .inl (k 0, 32, .inl gpfb)), (gpc, .inl (k 0, 12, .inl gpfc)), (gpd, .inl (k 0, 12, .inl gpfd)), (gq, .inr (1, [.ref gqa, .ref gqb, .ref gqc, .ref gqd, .int gqsz, .int gqsn, .int gqal, .int gqre])), (gqa, .inl (k 0, 32, .inl gqfa)), (gqb, .inl (k 0, 32, .inl gqfb)), (gqc, .inl (k 0, 12, .inl gqfc)), (gqd, .inl (k 0, 12, .inl gqfd))] H := hP
  have hD : va_D A [(gp, .inr (1, [.ref gpa, .ref gpb, .ref gpc, .ref gpd, .int gpsz, .int gpsn, .int gpal, .int gpre])), (gpa, .inl (k 0, 32, .inl gpfa)), (gpb, .inl (k 0, 32, .inl gpfb)), (gpc, .inl (k 0, 12, .inl gpfc)), (gpd, .inl (k 0, 12, .inl gpfd)), (gq, .inr (1, [.ref gqa, .ref gqb, .ref gqc, .ref gqd, .int gqsz, .int gqsn, .int gqal, .int gqre])), (gqa, .inl (k 0, 32, .inl gqfa)), (gqb, .inl (k 0, 32, .inl gqfb)), (gqc, .inl (k 0, 12, .inl gqfc)), (gqd, .inl (k 0, 12, .inl gqfd))] := hD
  refine lv_if_eq (tgt := 20) hx hb dX1_differingServices_7 (by decide) (fun c2 => ?_) (fun c2 => ?_)
  · have h := zt h c2
    refine lv_iconst (v := 0) hx hb dX1_differingServices_20 (by decide) ?_
    obtain rfl := Option.some.inj h
    exact W.iret (v := 0) hx hb hr (fun t ht9 hW => ⟨⟨_, (), rfl, rfl, zend ht9 hP⟩, hS.F ht9⟩) hS.2.2 dX1_differingServices_21
  · have h := zf h c2
    refine lv_iload_n hx hb dX1_differingServices_10 rfl (lv_at hl 3 rfl) ?_
    refine lv_iconst (v := 0) hx hb dX1_differingServices_11 (by decide) ?_
    refine lv_bipush (v := 31) hx hb dX1_differingServices_12 (by decide) ?_
    obtain ⟨r2, h2, h⟩ := zb h
    refine zi (zrN (As := [.int a2, .int 0, .int 31]) (rest := []) ⟨hx, hb, hml, hown, ht⟩ (c_X5_within l D k   a2 0 31 h2 _) ⟨va_cnB 3 ht (gdN wb270) rfl rfl rfl (hm.1 _ (List.mem_of_getElem? (i := 18) rfl)) (ht _ wb72) (by decide +kernel) ⟨Nat.le_of_ble_eq_true rfl, Nat.le_of_ble_eq_true rfl⟩, ht _ wb269, trivial⟩ hK hP hD hS hA hm [] rfl rfl rfl hl.1 rfl (Nat.le_of_ble_eq_true rfl) dX1_differingServices_14 ⟨Nat.le_refl _, Nat.le_refl _⟩) hP hD hS hA [] rfl rfl (fun H locs hP hD hS => ?_)
    have hP : va_P D vwCl [(gp, .inr (1, [.ref gpa, .ref gpb, .ref gpc, .ref gpd, .int gpsz, .int gpsn, .int gpal, .int gpre])), (gpa, .inl (k 0, 32, .inl gpfa)), (gpb, .inl (k 0, 32, .inl gpfb)), (gpc, .inl (k 0, 12, .inl gpfc)), (gpd, .inl (k 0, 12, .inl gpfd)), (gq, .inr (1, [.ref gqa, .ref gqb, .ref gqc, .ref gqd, .int gqsz, .int gqsn, .int gqal, .int gqre])), (gqa, .inl (k 0, 32, .inl gqfa)), (gqb, .inl (k 0, 32, .inl gqfb)), (gqc, .inl (k 0, 12, .inl gqfc)), (gqd, .inl (k 0, 12, .inl gqfd))] H := hP
    have hD : va_D A [(gp, .inr (1, [.ref gpa, .ref gpb, .ref gpc, .ref gpd, .int gpsz, .int gpsn, .int gpal, .int gpre])), (gpa, .inl (k 0, 32, .inl gpfa)), (gpb, .inl (k 0, 32, .inl gpfb)), (gpc, .inl (k 0, 12, .inl gpfc)), (gpd, .inl (k 0, 12, .inl gpfd)), (gq, .inr (1, [.ref gqa, .ref gqb, .ref gqc, .ref gqd, .int gqsz, .int gqsn, .int gqal, .int gqre])), (gqa, .inl (k 0, 32, .inl gqfa)), (gqb, .inl (k 0, 32, .inl gqfb)), (gqc, .inl (k 0, 12, .inl gqfc)), (gqd, .inl (k 0, 12, .inl gqfd))] := hD
    refine lv_if_ne (tgt := 22) hx hb dX1_differingServices_17 (by decide) (fun c1 => ?_) (fun c1 => ?_)
    · have h := zf h c1
      refine lv_aload_n hx hb dX1_differingServices_22 rfl (lv_at hl 0 rfl) ?_
      refine lv_aload_n hx hb dX1_differingServices_23 rfl (lv_at hl 0 rfl) ?_
      refine va_get (D := D) (ci := 1) (v := .ref gpa) (C := RX1) (T := TX1) (N := 8) hx hb ht hiX1 hown hK hP 0 rfl rfl 0 (by decide) (ht _ wb214) (fun _ h9 => h9) rfl dX1_differingServices_24 ?_
      refine lv_iload_n hx hb dX1_differingServices_27 rfl (lv_at hl 2 rfl) ?_
      obtain ⟨hi1, h⟩ := zg h
      refine va_iald hx hb hK hP 1 0 rfl rfl hi1 dX1_differingServices_28 ?_
      refine lv_aload_n hx hb dX1_differingServices_29 rfl (lv_at hl 0 rfl) ?_
      refine va_get (D := D) (ci := 1) (v := .ref gpb) (C := RX1) (T := TX1) (N := 8) hx hb ht hiX1 hown hK hP 0 rfl rfl 1 (by decide) (ht _ wb215) (fun _ h9 => h9) rfl dX1_differingServices_30 ?_
      refine lv_iload_n hx hb dX1_differingServices_33 rfl (lv_at hl 3 rfl) ?_
      obtain ⟨hi2, h⟩ := zg h
      refine va_iald hx hb hK hP 2 0 rfl rfl hi2 dX1_differingServices_34 ?_
      refine lv_iand hx hb dX1_differingServices_35 ?_
      obtain ⟨r3, h3, h⟩ := zb h
      refine zv (zrV (C := RX1) (T := TX1) (N := 8) (As := [.int ((gpfa (Int32.toNatClampNeg a1)) &&& (gpfb (Int32.toNatClampNeg a2)))]) (rest := []) ⟨hx, hb, hml, hown, ht⟩ (c_X1_look l D k gp gpa gpb gpc gpd gpsz gpsn gpal gpre gpfc gpfd ((gpfa (Int32.toNatClampNeg a1)) &&& (gpfb (Int32.toNatClampNeg a2))) fu h3 _) (cwV 1 ht (gdV wb469 wb471 wb9 wb79 wb472) rfl rfl rfl (by decide +kernel) ⟨Nat.le_of_ble_eq_true rfl, Nat.le_of_ble_eq_true rfl⟩) hK hP hD hS hA hm [0, 3, 4] rfl rfl 0 1 rfl rfl rfl hl.1 rfl (Nat.le_of_ble_eq_true rfl) dX1_differingServices_36 ⟨Nat.le_refl _, Nat.le_refl _⟩) hP hD hS hA [0, 3, 4] rfl rfl (fun H locs hP hD hS => ?_)
      have hP : va_P D vwCl [(gp, .inr (1, [.ref gpa, .ref gpb, .ref gpc, .ref gpd, .int gpsz, .int r3.1, .int r3.2.1, .int r3.2.2])), (gpa, .inl (k 0, 32, .inl gpfa)), (gpb, .inl (k 0, 32, .inl gpfb)), (gpc, .inl (k 0, 12, .inl gpfc)), (gpd, .inl (k 0, 12, .inl gpfd)), (gq, .inr (1, [.ref gqa, .ref gqb, .ref gqc, .ref gqd, .int gqsz, .int gqsn, .int gqal, .int gqre])), (gqa, .inl (k 0, 32, .inl gqfa)), (gqb, .inl (k 0, 32, .inl gqfb)), (gqc, .inl (k 0, 12, .inl gqfc)), (gqd, .inl (k 0, 12, .inl gqfd))] H := hP
      have hD : va_D A [(gp, .inr (1, [.ref gpa, .ref gpb, .ref gpc, .ref gpd, .int gpsz, .int r3.1, .int r3.2.1, .int r3.2.2])), (gpa, .inl (k 0, 32, .inl gpfa)), (gpb, .inl (k 0, 32, .inl gpfb)), (gpc, .inl (k 0, 12, .inl gpfc)), (gpd, .inl (k 0, 12, .inl gpfd)), (gq, .inr (1, [.ref gqa, .ref gqb, .ref gqc, .ref gqd, .int gqsz, .int gqsn, .int gqal, .int gqre])), (gqa, .inl (k 0, 32, .inl gqfa)), (gqb, .inl (k 0, 32, .inl gqfb)), (gqc, .inl (k 0, 12, .inl gqfc)), (gqd, .inl (k 0, 12, .inl gqfd))] := hD
      refine lv_aload_n hx hb dX1_differingServices_39 rfl (lv_at hl 1 rfl) ?_
      refine lv_aload_n hx hb dX1_differingServices_40 rfl (lv_at hl 1 rfl) ?_
      refine va_get (D := D) (ci := 1) (v := .ref gqa) (C := RX1) (T := TX1) (N := 8) hx hb ht hiX1 hown hK hP 5 rfl rfl 0 (by decide) (ht _ wb214) (fun _ h9 => h9) rfl dX1_differingServices_41 ?_
      refine lv_iload_n hx hb dX1_differingServices_44 rfl (lv_at hl 2 rfl) ?_
      obtain ⟨hi3, h⟩ := zg h
      refine va_iald hx hb hK hP 6 0 rfl rfl hi3 dX1_differingServices_45 ?_
      refine lv_aload_n hx hb dX1_differingServices_46 rfl (lv_at hl 1 rfl) ?_
      refine va_get (D := D) (ci := 1) (v := .ref gqb) (C := RX1) (T := TX1) (N := 8) hx hb ht hiX1 hown hK hP 5 rfl rfl 1 (by decide) (ht _ wb215) (fun _ h9 => h9) rfl dX1_differingServices_47 ?_
      refine lv_iload_n hx hb dX1_differingServices_50 rfl (lv_at hl 3 rfl) ?_
      obtain ⟨hi4, h⟩ := zg h
      refine va_iald hx hb hK hP 7 0 rfl rfl hi4 dX1_differingServices_51 ?_
      refine lv_iand hx hb dX1_differingServices_52 ?_
      obtain ⟨r4, h4, h⟩ := zb h
      refine zv (zrV (C := RX1) (T := TX1) (N := 8) (As := [.int ((gqfa (Int32.toNatClampNeg a1)) &&& (gqfb (Int32.toNatClampNeg a2)))]) (rest := []) ⟨hx, hb, hml, hown, ht⟩ (c_X1_look l D k gq gqa gqb gqc gqd gqsz gqsn gqal gqre gqfc gqfd ((gqfa (Int32.toNatClampNeg a1)) &&& (gqfb (Int32.toNatClampNeg a2))) fu h4 _) (cwV 1 ht (gdV wb469 wb471 wb9 wb79 wb472) rfl rfl rfl (by decide +kernel) ⟨Nat.le_of_ble_eq_true rfl, Nat.le_of_ble_eq_true rfl⟩) hK hP hD hS hA hm [5, 8, 9] rfl rfl 5 1 rfl rfl rfl hl.1 rfl (Nat.le_of_ble_eq_true rfl) dX1_differingServices_53 ⟨Nat.le_refl _, Nat.le_refl _⟩) hP hD hS hA [5, 8, 9] rfl rfl (fun H locs hP hD hS => ?_)
      have hP : va_P D vwCl [(gp, .inr (1, [.ref gpa, .ref gpb, .ref gpc, .ref gpd, .int gpsz, .int r3.1, .int r3.2.1, .int r3.2.2])), (gpa, .inl (k 0, 32, .inl gpfa)), (gpb, .inl (k 0, 32, .inl gpfb)), (gpc, .inl (k 0, 12, .inl gpfc)), (gpd, .inl (k 0, 12, .inl gpfd)), (gq, .inr (1, [.ref gqa, .ref gqb, .ref gqc, .ref gqd, .int gqsz, .int r4.1, .int r4.2.1, .int r4.2.2])), (gqa, .inl (k 0, 32, .inl gqfa)), (gqb, .inl (k 0, 32, .inl gqfb)), (gqc, .inl (k 0, 12, .inl gqfc)), (gqd, .inl (k 0, 12, .inl gqfd))] H := hP
      have hD : va_D A [(gp, .inr (1, [.ref gpa, .ref gpb, .ref gpc, .ref gpd, .int gpsz, .int r3.1, .int r3.2.1, .int r3.2.2])), (gpa, .inl (k 0, 32, .inl gpfa)), (gpb, .inl (k 0, 32, .inl gpfb)), (gpc, .inl (k 0, 12, .inl gpfc)), (gpd, .inl (k 0, 12, .inl gpfd)), (gq, .inr (1, [.ref gqa, .ref gqb, .ref gqc, .ref gqd, .int gqsz, .int r4.1, .int r4.2.1, .int r4.2.2])), (gqa, .inl (k 0, 32, .inl gqfa)), (gqb, .inl (k 0, 32, .inl gqfb)), (gqc, .inl (k 0, 12, .inl gqfc)), (gqd, .inl (k 0, 12, .inl gqfd))] := hD
      refine lv_aload_n hx hb dX1_differingServices_56 rfl (lv_at hl 0 rfl) ?_
      refine va_get (D := D) (ci := 1) (v := .int r3.2.1) (C := RX1) (T := TX1) (N := 8) hx hb ht hiX1 hown hK hP 0 rfl rfl 6 (by decide) (ht _ wb220) (fun _ h9 => h9) rfl dX1_differingServices_57 ?_
      refine lv_aload_n hx hb dX1_differingServices_60 rfl (lv_at hl 1 rfl) ?_
      refine va_get (D := D) (ci := 1) (v := .int r4.2.1) (C := RX1) (T := TX1) (N := 8) hx hb ht hiX1 hown hK hP 5 rfl rfl 6 (by decide) (ht _ wb220) (fun _ h9 => h9) rfl dX1_differingServices_61 ?_
      refine lv_ixor hx hb dX1_differingServices_64 ?_
      refine lv_aload_n hx hb dX1_differingServices_65 rfl (lv_at hl 0 rfl) ?_
      refine va_get (D := D) (ci := 1) (v := .int r3.2.2) (C := RX1) (T := TX1) (N := 8) hx hb ht hiX1 hown hK hP 0 rfl rfl 7 (by decide) (ht _ wb221) (fun _ h9 => h9) rfl dX1_differingServices_66 ?_
      refine lv_aload_n hx hb dX1_differingServices_69 rfl (lv_at hl 1 rfl) ?_
      refine va_get (D := D) (ci := 1) (v := .int r4.2.2) (C := RX1) (T := TX1) (N := 8) hx hb ht hiX1 hown hK hP 5 rfl rfl 7 (by decide) (ht _ wb221) (fun _ h9 => h9) rfl dX1_differingServices_70 ?_
      refine lv_ixor hx hb dX1_differingServices_73 ?_
      refine lv_ior hx hb dX1_differingServices_74 ?_
      obtain rfl := Option.some.inj h
      exact W.iret (v := (r3.2.1 ^^^ r4.2.1) ||| (r3.2.2 ^^^ r4.2.2)) hx hb hr (fun t ht9 hW => ⟨⟨_, (), rfl, rfl, zend ht9 hP⟩, hS.F ht9⟩) hS.2.2 dX1_differingServices_75
    · have h := zt h c1
      refine lv_iconst (v := 0) hx hb dX1_differingServices_20 (by decide) ?_
      obtain rfl := Option.some.inj h
      exact W.iret (v := 0) hx hb hr (fun t ht9 hW => ⟨⟨_, (), rfl, rfl, zend ht9 hP⟩, hS.F ht9⟩) hS.2.2 dX1_differingServices_21
def f_X1_differences_L13 (fu : Nat) (K : Int32 → Int32 → Int32 → Int32 → Int32 → Int32 → Int32 → Int32 → Option (Int32 × Int32 × Int32 × Int32 × Int32 × Int32 × Int32)) (v3 : Int32) (gpsz : Int32) (gpfa : Nat → Int32) (gpfb : Nat → Int32) (gpfc : Nat → Int32) (gpfd : Nat → Int32) (gqsz : Int32) (gqfa : Nat → Int32) (gqfb : Nat → Int32) (gqfc : Nat → Int32) (gqfd : Nat → Int32) : Nat → Int32 → Int32 → Int32 → Int32 → Int32 → Int32 → Int32 → Int32 → Option (Int32 × Int32 × Int32 × Int32 × Int32 × Int32 × Int32)
  | 0, _, _, _, _, _, _, _, _ => none
  | n + 1, v2, v4, gpsn, gpal, gpre, gqsn, gqal, gqre =>
  if 32 ≤ v4 then (K v2 v4 gpsn gpal gpre gqsn gqal gqre) else ((f_X1_differingServices fu gpsz gpsn gpal gpre gpfa gpfb gpfc gpfd gqsz gqsn gqal gqre gqfa gqfb gqfc gqfd v3 v4).bind fun r1 => (f_J6_bitCount_0f7a4  r1.1).bind fun r2 => f_X1_differences_L13 fu K v3 gpsz gpfa gpfb gpfc gpfd gqsz gqfa gqfb gqfc gqfd n (v2 + r2) (v4 + 1) r1.2.1 r1.2.2.1 r1.2.2.2.1 r1.2.2.2.2.1 r1.2.2.2.2.2.1 r1.2.2.2.2.2.2)
def f_X1_differences_L4 (fu : Nat) (K : Int32 → Int32 → Int32 → Int32 → Int32 → Int32 → Int32 → Int32 → Option (Int32 × Int32 × Int32 × Int32 × Int32 × Int32 × Int32)) (gpsz : Int32) (gpfa : Nat → Int32) (gpfb : Nat → Int32) (gpfc : Nat → Int32) (gpfd : Nat → Int32) (gqsz : Int32) (gqfa : Nat → Int32) (gqfb : Nat → Int32) (gqfc : Nat → Int32) (gqfd : Nat → Int32) : Nat → Int32 → Int32 → Int32 → Int32 → Int32 → Int32 → Int32 → Int32 → Option (Int32 × Int32 × Int32 × Int32 × Int32 × Int32 × Int32)
  | 0, _, _, _, _, _, _, _, _ => none
  | n + 1, v2, v3, gpsn, gpal, gpre, gqsn, gqal, gqre =>
  if 32 ≤ v3 then (K v2 v3 gpsn gpal gpre gqsn gqal gqre) else (f_X1_differences_L13 fu (fun (x1 : Int32) (x2 : Int32) (x3 : Int32) (x4 : Int32) (x5 : Int32) (x6 : Int32) (x7 : Int32) (x8 : Int32) => f_X1_differences_L4 fu K gpsz gpfa gpfb gpfc gpfd gqsz gqfa gqfb gqfc gqfd n x1 (v3 + 1) x3 x4 x5 x6 x7 x8) v3 gpsz gpfa gpfb gpfc gpfd gqsz gqfa gqfb gqfc gqfd fu v2 0 gpsn gpal gpre gqsn gqal gqre)
def f_X1_differences (fu : Nat) (gpsz : Int32) (gpsn : Int32) (gpal : Int32) (gpre : Int32) (gpfa : Nat → Int32) (gpfb : Nat → Int32) (gpfc : Nat → Int32) (gpfd : Nat → Int32) (gqsz : Int32) (gqsn : Int32) (gqal : Int32) (gqre : Int32) (gqfa : Nat → Int32) (gqfb : Nat → Int32) (gqfc : Nat → Int32) (gqfd : Nat → Int32)  : Option (Int32 × Int32 × Int32 × Int32 × Int32 × Int32 × Int32) :=
  f_X1_differences_L4 fu (fun (x9 : Int32) (x10 : Int32) (x11 : Int32) (x12 : Int32) (x13 : Int32) (x14 : Int32) (x15 : Int32) (x16 : Int32) => some (x9, x11, x12, x13, x14, x15, x16)) gpsz gpfa gpfb gpfc gpfd gqsz gqfa gqfb gqfc gqfd fu 0 0 gpsn gpal gpre gqsn gqal gqre
abbrev wk_X1_differences : List Cond := Cond.code yX1_differences cX1_differences 5 (some .int) :: WB
abbrev rm_X1_differences : Room := { frames := 3, cells := 0, slots := 0, locals := 67 }
set_option maxHeartbeats 4000000 in
set_option maxRecDepth 100000 in
theorem c_X1_differences (l : Launch) (D : va_G) (k : Nat → Nat) (gp gpa gpb gpc gpd gq gqa gqb gqc gqd : Nat) (gpsz : Int32) (gpsn : Int32) (gpal : Int32) (gpre : Int32) (gpfa : Nat → Int32) (gpfb : Nat → Int32) (gpfc : Nat → Int32) (gpfd : Nat → Int32) (gqsz : Int32) (gqsn : Int32) (gqal : Int32) (gqre : Int32) (gqfa : Nat → Int32) (gqfb : Nat → Int32) (gqfc : Nat → Int32) (gqfd : Nat → Int32)  (fu : Nat) {res : Int32 × Int32 × Int32 × Int32 × Int32 × Int32 × Int32} (h : f_X1_differences fu gpsz gpsn gpal gpre gpfa gpfb gpfc gpfd gqsz gqsn gqal gqre gqfa gqfb gqfc gqfd  = some res) : Ci l yX1_differences wk_X1_differences rm_X1_differences D k [.ref gp, .ref gq] [(gp, .inr (1, [.ref gpa, .ref gpb, .ref gpc, .ref gpd, .int gpsz, .int gpsn, .int gpal, .int gpre])), (gpa, .inl (k 0, 32, .inl gpfa)), (gpb, .inl (k 0, 32, .inl gpfb)), (gpc, .inl (k 0, 12, .inl gpfc)), (gpd, .inl (k 0, 12, .inl gpfd)), (gq, .inr (1, [.ref gqa, .ref gqb, .ref gqc, .ref gqd, .int gqsz, .int gqsn, .int gqal, .int gqre])), (gqa, .inl (k 0, 32, .inl gqfa)), (gqb, .inl (k 0, 32, .inl gqfb)), (gqc, .inl (k 0, 12, .inl gqfc)), (gqd, .inl (k 0, 12, .inl gqfd))] [(gp, .inr (1, [.ref gpa, .ref gpb, .ref gpc, .ref gpd, .int gpsz, .int res.2.1, .int res.2.2.1, .int res.2.2.2.1])), (gpa, .inl (k 0, 32, .inl gpfa)), (gpb, .inl (k 0, 32, .inl gpfb)), (gpc, .inl (k 0, 12, .inl gpfc)), (gpd, .inl (k 0, 12, .inl gpfd)), (gq, .inr (1, [.ref gqa, .ref gqb, .ref gqc, .ref gqd, .int gqsz, .int res.2.2.2.2.1, .int res.2.2.2.2.2.1, .int res.2.2.2.2.2.2])), (gqa, .inl (k 0, 32, .inl gqfa)), (gqb, .inl (k 0, 32, .inl gqfb)), (gqc, .inl (k 0, 12, .inl gqfc)), (gqd, .inl (k 0, 12, .inl gqfd))] res.1 := by
  unfold Ci
  intro sz
  refine Met.ofW (cc := cX1_differences) (maxL := 5) (ret := (some .int)) (by decide) rfl ?_
  intro p e s m args below meth c s₁ B hml hv
  obtain ⟨rfl, hsz, hP, hK, hD0, hm⟩ := hv
  have hx := B.exec
  have hb := B.bytes
  have hr := B.returns
  have ht : ∀ w ∈ WB, w.before _ s = true := fun w hw => atoms_spec (ws := wk_X1_differences) B.pre w (List.mem_cons_of_mem _ hw)
  have hown : s.vm.findClass RX1 = some m.cls := findClass_of_methodNamed B.named
  have hlocks := B.notSynchronized
  subst hsz
  have hD := hD0.self (sz := s.heap.size)
  generalize hAe : va_A [(gp, .inr (1, [.ref gpa, .ref gpb, .ref gpc, .ref gpd, .int gpsz, .int gpsn, .int gpal, .int gpre])), (gpa, .inl (k 0, 32, .inl gpfa)), (gpb, .inl (k 0, 32, .inl gpfb)), (gpc, .inl (k 0, 12, .inl gpfc)), (gpd, .inl (k 0, 12, .inl gpfd)), (gq, .inr (1, [.ref gqa, .ref gqb, .ref gqc, .ref gqd, .int gqsz, .int gqsn, .int gqal, .int gqre])), (gqa, .inl (k 0, 32, .inl gqfa)), (gqb, .inl (k 0, 32, .inl gqfb)), (gqc, .inl (k 0, 12, .inl gqfc)), (gqd, .inl (k 0, 12, .inl gqfd))] s.heap.size = A at hD hm ⊢
  have hA : ∀ q : Nat, s.heap.size ≤ q → A q := fun q h => by rw [← hAe]; exact Or.inr h
  have hS : va_S A s.heap s.heap [] := va_S.rf
  have hl := lv_entry ([.ref gp, .ref gq]) (n := 5) (Nat.le_of_ble_eq_true rfl)
  rw [lg_entry_eq]
  generalize (lg_sl ([.ref gp, .ref gq]) ++ List.replicate (5 - (lg_sl ([.ref gp, .ref gq])).length) Slot.unset).toArray = ls at hl ⊢
  have hl : lv_has ls 5 [(0, .ref gp), (1, .ref gq)] := hl
  obtain ⟨H, hH⟩ : ∃ H, H = s.heap := ⟨_, rfl⟩
  rw [← hH] at hP
  have hS : va_S A s.heap H [] := by rw [hH]; exact hS
  suffices hgo : W p l e _ s m _ below meth c H [] 0 0 _ _ by rw [hH] at hgo; exact hgo
  unfold f_X1_differences at h
  refine lv_iconst (v := 0) hx hb dX1_differences_0 (by decide) ?_
  refine lv_istore_n (lv' := [(2, .int 0), (0, .ref gp), (1, .ref gq)]) hx hb dX1_differences_1 rfl hl (by decide) rfl (fun ls hl => ?_)
  refine lv_iconst (v := 0) hx hb dX1_differences_2 (by decide) ?_
  refine lv_istore_n (lv' := [(3, .int 0), (2, .int 0), (0, .ref gp), (1, .ref gq)]) hx hb dX1_differences_3 rfl hl (by decide) rfl (fun ls hl => ?_)
  have loop4 : ∀ (gpsz : Int32) (gpfa : Nat → Int32) (gpfb : Nat → Int32) (gpfc : Nat → Int32) (gpfd : Nat → Int32) (gqsz : Int32) (gqfa : Nat → Int32) (gqfb : Nat → Int32) (gqfc : Nat → Int32) (gqfd : Nat → Int32), ∀ (K : Int32 → Int32 → Int32 → Int32 → Int32 → Int32 → Int32 → Int32 → Option (Int32 × Int32 × Int32 × Int32 × Int32 × Int32 × Int32)), (∀ (v2 : Int32) (v3 : Int32) (gpsn : Int32) (gpal : Int32) (gpre : Int32) (gqsn : Int32) (gqal : Int32) (gqre : Int32), K v2 v3 gpsn gpal gpre gqsn gqal gqre = some res → ∀ (H : Heap) (locs : List Loc), va_P D vwCl [(gp, .inr (1, [.ref gpa, .ref gpb, .ref gpc, .ref gpd, .int gpsz, .int gpsn, .int gpal, .int gpre])), (gpa, .inl (k 0, 32, .inl gpfa)), (gpb, .inl (k 0, 32, .inl gpfb)), (gpc, .inl (k 0, 12, .inl gpfc)), (gpd, .inl (k 0, 12, .inl gpfd)), (gq, .inr (1, [.ref gqa, .ref gqb, .ref gqc, .ref gqd, .int gqsz, .int gqsn, .int gqal, .int gqre])), (gqa, .inl (k 0, 32, .inl gqfa)), (gqb, .inl (k 0, 32, .inl gqfb)), (gqc, .inl (k 0, 12, .inl gqfc)), (gqd, .inl (k 0, 12, .inl gqfd))] H → va_D A [(gp, .inr (1, [.ref gpa, .ref gpb, .ref gpc, .ref gpd, .int gpsz, .int gpsn, .int gpal, .int gpre])), (gpa, .inl (k 0, 32, .inl gpfa)), (gpb, .inl (k 0, 32, .inl gpfb)), (gpc, .inl (k 0, 12, .inl gpfc)), (gpd, .inl (k 0, 12, .inl gpfd)), (gq, .inr (1, [.ref gqa, .ref gqb, .ref gqc, .ref gqd, .int gqsz, .int gqsn, .int gqal, .int gqre])), (gqa, .inl (k 0, 32, .inl gqfa)), (gqb, .inl (k 0, 32, .inl gqfb)), (gqc, .inl (k 0, 12, .inl gqfc)), (gqd, .inl (k 0, 12, .inl gqfd))] → va_S A s.heap H locs → ∀ ls : Array Slot, lv_has ls 5 [(0, .ref gp), (1, .ref gq), (2, .int v2), (3, .int v3)] → W p l e (headSpec wk_X1_differences rm_X1_differences).room s m ([.ref gp, .ref gq] : List Value).toArray below meth c H locs 0 0 (MQ below (va_Qi (fun xq9 (_ : Unit) => xq9 = res.1) (fun _ tq9 => va_P D vwCl [(gp, .inr (1, [.ref gpa, .ref gpb, .ref gpc, .ref gpd, .int gpsz, .int res.2.1, .int res.2.2.1, .int res.2.2.2.1])), (gpa, .inl (k 0, 32, .inl gpfa)), (gpb, .inl (k 0, 32, .inl gpfb)), (gpc, .inl (k 0, 12, .inl gpfc)), (gpd, .inl (k 0, 12, .inl gpfd)), (gq, .inr (1, [.ref gqa, .ref gqb, .ref gqc, .ref gqd, .int gqsz, .int res.2.2.2.2.1, .int res.2.2.2.2.2.1, .int res.2.2.2.2.2.2])), (gqa, .inl (k 0, 32, .inl gqfa)), (gqb, .inl (k 0, 32, .inl gqfb)), (gqc, .inl (k 0, 12, .inl gqfc)), (gqd, .inl (k 0, 12, .inl gqfd))] tq9.heap) A) ([.ref gp, .ref gq] : List Value).toArray s 0 0 A) (F0 m 46 ls [])) → ∀ (n : Nat) (v2 : Int32) (v3 : Int32) (gpsn : Int32) (gpal : Int32) (gpre : Int32) (gqsn : Int32) (gqal : Int32) (gqre : Int32), f_X1_differences_L4 fu K gpsz gpfa gpfb gpfc gpfd gqsz gqfa gqfb gqfc gqfd n v2 v3 gpsn gpal gpre gqsn gqal gqre = some res → ∀ (H : Heap) (locs : List Loc), va_P D vwCl [(gp, .inr (1, [.ref gpa, .ref gpb, .ref gpc, .ref gpd, .int gpsz, .int gpsn, .int gpal, .int gpre])), (gpa, .inl (k 0, 32, .inl gpfa)), (gpb, .inl (k 0, 32, .inl gpfb)), (gpc, .inl (k 0, 12, .inl gpfc)), (gpd, .inl (k 0, 12, .inl gpfd)), (gq, .inr (1, [.ref gqa, .ref gqb, .ref gqc, .ref gqd, .int gqsz, .int gqsn, .int gqal, .int gqre])), (gqa, .inl (k 0, 32, .inl gqfa)), (gqb, .inl (k 0, 32, .inl gqfb)), (gqc, .inl (k 0, 12, .inl gqfc)), (gqd, .inl (k 0, 12, .inl gqfd))] H → va_D A [(gp, .inr (1, [.ref gpa, .ref gpb, .ref gpc, .ref gpd, .int gpsz, .int gpsn, .int gpal, .int gpre])), (gpa, .inl (k 0, 32, .inl gpfa)), (gpb, .inl (k 0, 32, .inl gpfb)), (gpc, .inl (k 0, 12, .inl gpfc)), (gpd, .inl (k 0, 12, .inl gpfd)), (gq, .inr (1, [.ref gqa, .ref gqb, .ref gqc, .ref gqd, .int gqsz, .int gqsn, .int gqal, .int gqre])), (gqa, .inl (k 0, 32, .inl gqfa)), (gqb, .inl (k 0, 32, .inl gqfb)), (gqc, .inl (k 0, 12, .inl gqfc)), (gqd, .inl (k 0, 12, .inl gqfd))] → va_S A s.heap H locs → ∀ ls : Array Slot, lv_has ls 5 [(0, .ref gp), (1, .ref gq), (2, .int v2), (3, .int v3)] → W p l e (headSpec wk_X1_differences rm_X1_differences).room s m ([.ref gp, .ref gq] : List Value).toArray below meth c H locs 0 0 (MQ below (va_Qi (fun xq9 (_ : Unit) => xq9 = res.1) (fun _ tq9 => va_P D vwCl [(gp, .inr (1, [.ref gpa, .ref gpb, .ref gpc, .ref gpd, .int gpsz, .int res.2.1, .int res.2.2.1, .int res.2.2.2.1])), (gpa, .inl (k 0, 32, .inl gpfa)), (gpb, .inl (k 0, 32, .inl gpfb)), (gpc, .inl (k 0, 12, .inl gpfc)), (gpd, .inl (k 0, 12, .inl gpfd)), (gq, .inr (1, [.ref gqa, .ref gqb, .ref gqc, .ref gqd, .int gqsz, .int res.2.2.2.2.1, .int res.2.2.2.2.2.1, .int res.2.2.2.2.2.2])), (gqa, .inl (k 0, 32, .inl gqfa)), (gqb, .inl (k 0, 32, .inl gqfb)), (gqc, .inl (k 0, 12, .inl gqfc)), (gqd, .inl (k 0, 12, .inl gqfd))] tq9.heap) A) ([.ref gp, .ref gq] : List Value).toArray s 0 0 A) (F0 m 4 ls []) := by
    intro gpsz gpfa gpfb gpfc gpfd gqsz gqfa gqfb gqfc gqfd K hKK n
    induction n with
    | zero =>
      intro v2 v3 gpsn gpal gpre gqsn gqal gqre h
      rw [f_X1_differences_L4] at h
      cases h
    | succ n ih =>
      intro v2 v3 gpsn gpal gpre gqsn gqal gqre h H locs hP hD hS ls hl
      rw [f_X1_differences_L4] at h
      refine lv_iload_n hx hb dX1_differences_4 rfl (lv_at hl 3 rfl) ?_
      refine lv_bipush (v := 32) hx hb dX1_differences_5 (by decide) ?_
      refine lv_icmp_ge (tgt := 46) hx hb dX1_differences_7 (by decide) (fun c2 => ?_) (fun c2 => ?_)
      · have h := zt h c2
        exact hKK _ _ _ _ _ _ _ _ h _ _ hP hD hS _ (lv_sub hl [0, 1, 2, 3] rfl)
      · have h := zf h c2
        refine lv_iconst (v := 0) hx hb dX1_differences_10 (by decide) ?_
        refine lv_istore (lv' := [(4, .int 0), (0, .ref gp), (1, .ref gq), (2, .int v2), (3, .int v3)]) hx hb dX1_differences_11 hl (by decide) rfl (fun ls hl => ?_)
        have loop13 : ∀ (v3 : Int32) (gpsz : Int32) (gpfa : Nat → Int32) (gpfb : Nat → Int32) (gpfc : Nat → Int32) (gpfd : Nat → Int32) (gqsz : Int32) (gqfa : Nat → Int32) (gqfb : Nat → Int32) (gqfc : Nat → Int32) (gqfd : Nat → Int32), ∀ (K : Int32 → Int32 → Int32 → Int32 → Int32 → Int32 → Int32 → Int32 → Option (Int32 × Int32 × Int32 × Int32 × Int32 × Int32 × Int32)), (∀ (v2 : Int32) (v4 : Int32) (gpsn : Int32) (gpal : Int32) (gpre : Int32) (gqsn : Int32) (gqal : Int32) (gqre : Int32), K v2 v4 gpsn gpal gpre gqsn gqal gqre = some res → ∀ (H : Heap) (locs : List Loc), va_P D vwCl [(gp, .inr (1, [.ref gpa, .ref gpb, .ref gpc, .ref gpd, .int gpsz, .int gpsn, .int gpal, .int gpre])), (gpa, .inl (k 0, 32, .inl gpfa)), (gpb, .inl (k 0, 32, .inl gpfb)), (gpc, .inl (k 0, 12, .inl gpfc)), (gpd, .inl (k 0, 12, .inl gpfd)), (gq, .inr (1, [.ref gqa, .ref gqb, .ref gqc, .ref gqd, .int gqsz, .int gqsn, .int gqal, .int gqre])), (gqa, .inl (k 0, 32, .inl gqfa)), (gqb, .inl (k 0, 32, .inl gqfb)), (gqc, .inl (k 0, 12, .inl gqfc)), (gqd, .inl (k 0, 12, .inl gqfd))] H → va_D A [(gp, .inr (1, [.ref gpa, .ref gpb, .ref gpc, .ref gpd, .int gpsz, .int gpsn, .int gpal, .int gpre])), (gpa, .inl (k 0, 32, .inl gpfa)), (gpb, .inl (k 0, 32, .inl gpfb)), (gpc, .inl (k 0, 12, .inl gpfc)), (gpd, .inl (k 0, 12, .inl gpfd)), (gq, .inr (1, [.ref gqa, .ref gqb, .ref gqc, .ref gqd, .int gqsz, .int gqsn, .int gqal, .int gqre])), (gqa, .inl (k 0, 32, .inl gqfa)), (gqb, .inl (k 0, 32, .inl gqfb)), (gqc, .inl (k 0, 12, .inl gqfc)), (gqd, .inl (k 0, 12, .inl gqfd))] → va_S A s.heap H locs → ∀ ls : Array Slot, lv_has ls 5 [(0, .ref gp), (1, .ref gq), (2, .int v2), (3, .int v3), (4, .int v4)] → W p l e (headSpec wk_X1_differences rm_X1_differences).room s m ([.ref gp, .ref gq] : List Value).toArray below meth c H locs 0 0 (MQ below (va_Qi (fun xq9 (_ : Unit) => xq9 = res.1) (fun _ tq9 => va_P D vwCl [(gp, .inr (1, [.ref gpa, .ref gpb, .ref gpc, .ref gpd, .int gpsz, .int res.2.1, .int res.2.2.1, .int res.2.2.2.1])), (gpa, .inl (k 0, 32, .inl gpfa)), (gpb, .inl (k 0, 32, .inl gpfb)), (gpc, .inl (k 0, 12, .inl gpfc)), (gpd, .inl (k 0, 12, .inl gpfd)), (gq, .inr (1, [.ref gqa, .ref gqb, .ref gqc, .ref gqd, .int gqsz, .int res.2.2.2.2.1, .int res.2.2.2.2.2.1, .int res.2.2.2.2.2.2])), (gqa, .inl (k 0, 32, .inl gqfa)), (gqb, .inl (k 0, 32, .inl gqfb)), (gqc, .inl (k 0, 12, .inl gqfc)), (gqd, .inl (k 0, 12, .inl gqfd))] tq9.heap) A) ([.ref gp, .ref gq] : List Value).toArray s 0 0 A) (F0 m 40 ls [])) → ∀ (n : Nat) (v2 : Int32) (v4 : Int32) (gpsn : Int32) (gpal : Int32) (gpre : Int32) (gqsn : Int32) (gqal : Int32) (gqre : Int32), f_X1_differences_L13 fu K v3 gpsz gpfa gpfb gpfc gpfd gqsz gqfa gqfb gqfc gqfd n v2 v4 gpsn gpal gpre gqsn gqal gqre = some res → ∀ (H : Heap) (locs : List Loc), va_P D vwCl [(gp, .inr (1, [.ref gpa, .ref gpb, .ref gpc, .ref gpd, .int gpsz, .int gpsn, .int gpal, .int gpre])), (gpa, .inl (k 0, 32, .inl gpfa)), (gpb, .inl (k 0, 32, .inl gpfb)), (gpc, .inl (k 0, 12, .inl gpfc)), (gpd, .inl (k 0, 12, .inl gpfd)), (gq, .inr (1, [.ref gqa, .ref gqb, .ref gqc, .ref gqd, .int gqsz, .int gqsn, .int gqal, .int gqre])), (gqa, .inl (k 0, 32, .inl gqfa)), (gqb, .inl (k 0, 32, .inl gqfb)), (gqc, .inl (k 0, 12, .inl gqfc)), (gqd, .inl (k 0, 12, .inl gqfd))] H → va_D A [(gp, .inr (1, [.ref gpa, .ref gpb, .ref gpc, .ref gpd, .int gpsz, .int gpsn, .int gpal, .int gpre])), (gpa, .inl (k 0, 32, .inl gpfa)), (gpb, .inl (k 0, 32, .inl gpfb)), (gpc, .inl (k 0, 12, .inl gpfc)), (gpd, .inl (k 0, 12, .inl gpfd)), (gq, .inr (1, [.ref gqa, .ref gqb, .ref gqc, .ref gqd, .int gqsz, .int gqsn, .int gqal, .int gqre])), (gqa, .inl (k 0, 32, .inl gqfa)), (gqb, .inl (k 0, 32, .inl gqfb)), (gqc, .inl (k 0, 12, .inl gqfc)), (gqd, .inl (k 0, 12, .inl gqfd))] → va_S A s.heap H locs → ∀ ls : Array Slot, lv_has ls 5 [(0, .ref gp), (1, .ref gq), (2, .int v2), (3, .int v3), (4, .int v4)] → W p l e (headSpec wk_X1_differences rm_X1_differences).room s m ([.ref gp, .ref gq] : List Value).toArray below meth c H locs 0 0 (MQ below (va_Qi (fun xq9 (_ : Unit) => xq9 = res.1) (fun _ tq9 => va_P D vwCl [(gp, .inr (1, [.ref gpa, .ref gpb, .ref gpc, .ref gpd, .int gpsz, .int res.2.1, .int res.2.2.1, .int res.2.2.2.1])), (gpa, .inl (k 0, 32, .inl gpfa)), (gpb, .inl (k 0, 32, .inl gpfb)), (gpc, .inl (k 0, 12, .inl gpfc)), (gpd, .inl (k 0, 12, .inl gpfd)), (gq, .inr (1, [.ref gqa, .ref gqb, .ref gqc, .ref gqd, .int gqsz, .int res.2.2.2.2.1, .int res.2.2.2.2.2.1, .int res.2.2.2.2.2.2])), (gqa, .inl (k 0, 32, .inl gqfa)), (gqb, .inl (k 0, 32, .inl gqfb)), (gqc, .inl (k 0, 12, .inl gqfc)), (gqd, .inl (k 0, 12, .inl gqfd))] tq9.heap) A) ([.ref gp, .ref gq] : List Value).toArray s 0 0 A) (F0 m 13 ls []) := by
          intro v3 gpsz gpfa gpfb gpfc gpfd gqsz gqfa gqfb gqfc gqfd K hKK n
          induction n with
          | zero =>
            intro v2 v4 gpsn gpal gpre gqsn gqal gqre h
            rw [f_X1_differences_L13] at h
            cases h
          | succ n ih =>
            intro v2 v4 gpsn gpal gpre gqsn gqal gqre h H locs hP hD hS ls hl
            rw [f_X1_differences_L13] at h
            refine lv_iload hx hb dX1_differences_13 (lv_at hl 4 rfl) ?_
            refine lv_bipush (v := 32) hx hb dX1_differences_15 (by decide) ?_
            refine lv_icmp_ge (tgt := 40) hx hb dX1_differences_17 (by decide) (fun c1 => ?_) (fun c1 => ?_)
            · have h := zt h c1
              exact hKK _ _ _ _ _ _ _ _ h _ _ hP hD hS _ (lv_sub hl [0, 1, 2, 3, 4] rfl)
            · have h := zf h c1
              refine lv_iload_n hx hb dX1_differences_20 rfl (lv_at hl 2 rfl) ?_
              refine lv_aload_n hx hb dX1_differences_21 rfl (lv_at hl 0 rfl) ?_
              refine lv_aload_n hx hb dX1_differences_22 rfl (lv_at hl 1 rfl) ?_
              refine lv_iload_n hx hb dX1_differences_23 rfl (lv_at hl 3 rfl) ?_
              refine lv_iload hx hb dX1_differences_24 (lv_at hl 4 rfl) ?_
              obtain ⟨r1, h1, h⟩ := zb h
              refine zi (zrV (C := RX1) (T := TX1) (N := 8) (As := [.ref gq, .int v3, .int v4]) (rest := [.int v2]) ⟨hx, hb, hml, hown, ht⟩ (c_X1_differingServices l D k gp gpa gpb gpc gpd gq gqa gqb gqc gqd gpsz gpsn gpal gpre gpfa gpfb gpfc gpfd gqsz gqsn gqal gqre gqfa gqfb gqfc gqfd v3 v4 fu h1 _) (cwV 3 ht (gdV wb465 wb467 wb8 wb79 wb468) rfl rfl rfl (by decide +kernel) ⟨Nat.le_of_ble_eq_true rfl, Nat.le_of_ble_eq_true rfl⟩) hK hP hD hS hA hm [0, 1, 2, 3, 4, 5, 6, 7, 8, 9] rfl rfl 0 1 rfl rfl rfl hl.1 rfl (Nat.le_of_ble_eq_true rfl) dX1_differences_26 ⟨Nat.le_refl _, Nat.le_refl _⟩) hP hD hS hA [0, 1, 2, 3, 4, 5, 6, 7, 8, 9] rfl rfl (fun H locs hP hD hS => ?_)
              have hP : va_P D vwCl [(gp, .inr (1, [.ref gpa, .ref gpb, .ref gpc, .ref gpd, .int gpsz, .int r1.2.1, .int r1.2.2.1, .int r1.2.2.2.1])), (gpa, .inl (k 0, 32, .inl gpfa)), (gpb, .inl (k 0, 32, .inl gpfb)), (gpc, .inl (k 0, 12, .inl gpfc)), (gpd, .inl (k 0, 12, .inl gpfd)), (gq, .inr (1, [.ref gqa, .ref gqb, .ref gqc, .ref gqd, .int gqsz, .int r1.2.2.2.2.1, .int r1.2.2.2.2.2.1, .int r1.2.2.2.2.2.2])), (gqa, .inl (k 0, 32, .inl gqfa)), (gqb, .inl (k 0, 32, .inl gqfb)), (gqc, .inl (k 0, 12, .inl gqfc)), (gqd, .inl (k 0, 12, .inl gqfd))] H := hP
              have hD : va_D A [(gp, .inr (1, [.ref gpa, .ref gpb, .ref gpc, .ref gpd, .int gpsz, .int r1.2.1, .int r1.2.2.1, .int r1.2.2.2.1])), (gpa, .inl (k 0, 32, .inl gpfa)), (gpb, .inl (k 0, 32, .inl gpfb)), (gpc, .inl (k 0, 12, .inl gpfc)), (gpd, .inl (k 0, 12, .inl gpfd)), (gq, .inr (1, [.ref gqa, .ref gqb, .ref gqc, .ref gqd, .int gqsz, .int r1.2.2.2.2.1, .int r1.2.2.2.2.2.1, .int r1.2.2.2.2.2.2])), (gqa, .inl (k 0, 32, .inl gqfa)), (gqb, .inl (k 0, 32, .inl gqfb)), (gqc, .inl (k 0, 12, .inl gqfc)), (gqd, .inl (k 0, 12, .inl gqfd))] := hD
              obtain ⟨r2, h2, h⟩ := zb h
              refine zi (zrS (As := [.int r1.1]) (rest := [.int v2]) ⟨hx, hb, hml, hown, ht⟩ (c_J6_bitCount_0f7a4 l D k   r1.1 h2 _) (va_cwS 1 ht (gdS wb440 wb441 wb81 wb442) rfl rfl rfl (by decide +kernel) ⟨Nat.le_of_ble_eq_true rfl, Nat.le_of_ble_eq_true rfl⟩) hK hP hD hS hA hm [] rfl rfl rfl hl.1 rfl (Nat.le_of_ble_eq_true rfl) dX1_differences_29 ⟨Nat.le_refl _, Nat.le_refl _⟩) hP hD hS hA [] rfl rfl (fun H locs hP hD hS => ?_)
              have hP : va_P D vwCl [(gp, .inr (1, [.ref gpa, .ref gpb, .ref gpc, .ref gpd, .int gpsz, .int r1.2.1, .int r1.2.2.1, .int r1.2.2.2.1])), (gpa, .inl (k 0, 32, .inl gpfa)), (gpb, .inl (k 0, 32, .inl gpfb)), (gpc, .inl (k 0, 12, .inl gpfc)), (gpd, .inl (k 0, 12, .inl gpfd)), (gq, .inr (1, [.ref gqa, .ref gqb, .ref gqc, .ref gqd, .int gqsz, .int r1.2.2.2.2.1, .int r1.2.2.2.2.2.1, .int r1.2.2.2.2.2.2])), (gqa, .inl (k 0, 32, .inl gqfa)), (gqb, .inl (k 0, 32, .inl gqfb)), (gqc, .inl (k 0, 12, .inl gqfc)), (gqd, .inl (k 0, 12, .inl gqfd))] H := hP
              have hD : va_D A [(gp, .inr (1, [.ref gpa, .ref gpb, .ref gpc, .ref gpd, .int gpsz, .int r1.2.1, .int r1.2.2.1, .int r1.2.2.2.1])), (gpa, .inl (k 0, 32, .inl gpfa)), (gpb, .inl (k 0, 32, .inl gpfb)), (gpc, .inl (k 0, 12, .inl gpfc)), (gpd, .inl (k 0, 12, .inl gpfd)), (gq, .inr (1, [.ref gqa, .ref gqb, .ref gqc, .ref gqd, .int gqsz, .int r1.2.2.2.2.1, .int r1.2.2.2.2.2.1, .int r1.2.2.2.2.2.2])), (gqa, .inl (k 0, 32, .inl gqfa)), (gqb, .inl (k 0, 32, .inl gqfb)), (gqc, .inl (k 0, 12, .inl gqfc)), (gqd, .inl (k 0, 12, .inl gqfd))] := hD
              refine lv_iadd hx hb dX1_differences_32 ?_
              refine lv_istore_n (lv' := [(2, .int (v2 + r2)), (0, .ref gp), (1, .ref gq), (3, .int v3), (4, .int v4)]) hx hb dX1_differences_33 rfl hl (by decide) rfl (fun ls hl => ?_)
              refine lv_iinc (v := v4 + 1) (lv' := [(4, .int (v4 + 1)), (2, .int (v2 + r2)), (0, .ref gp), (1, .ref gq), (3, .int v3)]) hx hb dX1_differences_34 hl (k := 4) rfl rfl (by decide) rfl (fun ls hl => ?_)
              refine lv_goto (tgt := 13) hx hb dX1_differences_37 (by decide) ?_
              exact ih _ _ _ _ _ _ _ _ h _ _ hP hD hS _ (lv_sub hl [2, 3, 1, 4, 0] rfl)
        refine loop13 _ _ _ _ _ _ _ _ _ _ _ _ ?_ fu _ _ _ _ _ _ _ _ h _ _ hP hD hS _ (lv_sub hl [1, 2, 3, 4, 0] rfl)
        intro x1 x2 x3 x4 x5 x6 x7 x8 h H locs hP hD hS ls hl
        try dsimp only at h
        have hP : va_P D vwCl [(gp, .inr (1, [.ref gpa, .ref gpb, .ref gpc, .ref gpd, .int gpsz, .int x3, .int x4, .int x5])), (gpa, .inl (k 0, 32, .inl gpfa)), (gpb, .inl (k 0, 32, .inl gpfb)), (gpc, .inl (k 0, 12, .inl gpfc)), (gpd, .inl (k 0, 12, .inl gpfd)), (gq, .inr (1, [.ref gqa, .ref gqb, .ref gqc, .ref gqd, .int gqsz, .int x6, .int x7, .int x8])), (gqa, .inl (k 0, 32, .inl gqfa)), (gqb, .inl (k 0, 32, .inl gqfb)), (gqc, .inl (k 0, 12, .inl gqfc)), (gqd, .inl (k 0, 12, .inl gqfd))] H := hP
        have hD : va_D A [(gp, .inr (1, [.ref gpa, .ref gpb, .ref gpc, .ref gpd, .int gpsz, .int x3, .int x4, .int x5])), (gpa, .inl (k 0, 32, .inl gpfa)), (gpb, .inl (k 0, 32, .inl gpfb)), (gpc, .inl (k 0, 12, .inl gpfc)), (gpd, .inl (k 0, 12, .inl gpfd)), (gq, .inr (1, [.ref gqa, .ref gqb, .ref gqc, .ref gqd, .int gqsz, .int x6, .int x7, .int x8])), (gqa, .inl (k 0, 32, .inl gqfa)), (gqb, .inl (k 0, 32, .inl gqfb)), (gqc, .inl (k 0, 12, .inl gqfc)), (gqd, .inl (k 0, 12, .inl gqfd))] := hD
        have hl : lv_has ls 5 [(0, .ref gp), (1, .ref gq), (2, .int x1), (3, .int v3), (4, .int x2)] := hl
        refine lv_iinc (v := v3 + 1) (lv' := [(3, .int (v3 + 1)), (0, .ref gp), (1, .ref gq), (2, .int x1), (4, .int x2)]) hx hb dX1_differences_40 hl (k := 3) rfl rfl (by decide) rfl (fun ls hl => ?_)
        refine lv_goto (tgt := 4) hx hb dX1_differences_43 (by decide) ?_
        exact ih _ _ _ _ _ _ _ _ h _ _ hP hD hS _ (lv_sub hl [1, 2, 3, 0] rfl)
  refine loop4 _ _ _ _ _ _ _ _ _ _ _ ?_ fu _ _ _ _ _ _ _ _ h _ _ hP hD hS _ (lv_sub hl [2, 3, 1, 0] rfl)
  intro x9 x10 x11 x12 x13 x14 x15 x16 h H locs hP hD hS ls hl
  try dsimp only at h
  have hP : va_P D vwCl [(gp, .inr (1, [.ref gpa, .ref gpb, .ref gpc, .ref gpd, .int gpsz, .int x11, .int x12, .int x13])), (gpa, .inl (k 0, 32, .inl gpfa)), (gpb, .inl (k 0, 32, .inl gpfb)), (gpc, .inl (k 0, 12, .inl gpfc)), (gpd, .inl (k 0, 12, .inl gpfd)), (gq, .inr (1, [.ref gqa, .ref gqb, .ref gqc, .ref gqd, .int gqsz, .int x14, .int x15, .int x16])), (gqa, .inl (k 0, 32, .inl gqfa)), (gqb, .inl (k 0, 32, .inl gqfb)), (gqc, .inl (k 0, 12, .inl gqfc)), (gqd, .inl (k 0, 12, .inl gqfd))] H := hP
  have hD : va_D A [(gp, .inr (1, [.ref gpa, .ref gpb, .ref gpc, .ref gpd, .int gpsz, .int x11, .int x12, .int x13])), (gpa, .inl (k 0, 32, .inl gpfa)), (gpb, .inl (k 0, 32, .inl gpfb)), (gpc, .inl (k 0, 12, .inl gpfc)), (gpd, .inl (k 0, 12, .inl gpfd)), (gq, .inr (1, [.ref gqa, .ref gqb, .ref gqc, .ref gqd, .int gqsz, .int x14, .int x15, .int x16])), (gqa, .inl (k 0, 32, .inl gqfa)), (gqb, .inl (k 0, 32, .inl gqfb)), (gqc, .inl (k 0, 12, .inl gqfc)), (gqd, .inl (k 0, 12, .inl gqfd))] := hD
  have hl : lv_has ls 5 [(0, .ref gp), (1, .ref gq), (2, .int x9), (3, .int x10)] := hl
  refine lv_iload_n hx hb dX1_differences_46 rfl (lv_at hl 2 rfl) ?_
  obtain rfl := Option.some.inj h
  exact W.iret (v := x9) hx hb hr (fun t ht9 hW => ⟨⟨_, (), rfl, rfl, zend ht9 hP⟩, hS.F ht9⟩) hS.2.2 dX1_differences_47
def f_X1_firstDifference_L10 (fu : Nat) (K : Int32 → Int32 → Int32 → Int32 → Int32 → Int32 → Int32 → Option (Int32 × Int32 × Int32 × Int32 × Int32 × Int32 × Int32)) (v2 : Int32) (gpsz : Int32) (gpfa : Nat → Int32) (gpfb : Nat → Int32) (gpfc : Nat → Int32) (gpfd : Nat → Int32) (gqsz : Int32) (gqfa : Nat → Int32) (gqfb : Nat → Int32) (gqfc : Nat → Int32) (gqfd : Nat → Int32) : Nat → Int32 → Int32 → Int32 → Int32 → Int32 → Int32 → Int32 → Option (Int32 × Int32 × Int32 × Int32 × Int32 × Int32 × Int32)
  | 0, _, _, _, _, _, _, _ => none
  | n + 1, v3, gpsn, gpal, gpre, gqsn, gqal, gqre =>
  if 32 ≤ v3 then (K v3 gpsn gpal gpre gqsn gqal gqre) else ((f_X1_differingServices fu gpsz gpsn gpal gpre gpfa gpfb gpfc gpfd gqsz gqsn gqal gqre gqfa gqfb gqfc gqfd v2 v3).bind fun r1 => if r1.1 = 0 then (f_X1_firstDifference_L10 fu K v2 gpsz gpfa gpfb gpfc gpfd gqsz gqfa gqfb gqfc gqfd n (v3 + 1) r1.2.1 r1.2.2.1 r1.2.2.2.1 r1.2.2.2.2.1 r1.2.2.2.2.2.1 r1.2.2.2.2.2.2) else ((f_X1_leastOf fu  r1.1).bind fun r2 => some ((((v2 * 32) + v3) * 32) + r2, r1.2.1, r1.2.2.1, r1.2.2.2.1, r1.2.2.2.2.1, r1.2.2.2.2.2.1, r1.2.2.2.2.2.2)))
def f_X1_firstDifference_L2 (fu : Nat) (K : Int32 → Int32 → Int32 → Int32 → Int32 → Int32 → Int32 → Option (Int32 × Int32 × Int32 × Int32 × Int32 × Int32 × Int32)) (gpsz : Int32) (gpfa : Nat → Int32) (gpfb : Nat → Int32) (gpfc : Nat → Int32) (gpfd : Nat → Int32) (gqsz : Int32) (gqfa : Nat → Int32) (gqfb : Nat → Int32) (gqfc : Nat → Int32) (gqfd : Nat → Int32) : Nat → Int32 → Int32 → Int32 → Int32 → Int32 → Int32 → Int32 → Option (Int32 × Int32 × Int32 × Int32 × Int32 × Int32 × Int32)
  | 0, _, _, _, _, _, _, _ => none
  | n + 1, v2, gpsn, gpal, gpre, gqsn, gqal, gqre =>
  if 32 ≤ v2 then (K v2 gpsn gpal gpre gqsn gqal gqre) else (f_X1_firstDifference_L10 fu (fun (x1 : Int32) (x2 : Int32) (x3 : Int32) (x4 : Int32) (x5 : Int32) (x6 : Int32) (x7 : Int32) => f_X1_firstDifference_L2 fu K gpsz gpfa gpfb gpfc gpfd gqsz gqfa gqfb gqfc gqfd n (v2 + 1) x2 x3 x4 x5 x6 x7) v2 gpsz gpfa gpfb gpfc gpfd gqsz gqfa gqfb gqfc gqfd fu 0 gpsn gpal gpre gqsn gqal gqre)
def f_X1_firstDifference (fu : Nat) (gpsz : Int32) (gpsn : Int32) (gpal : Int32) (gpre : Int32) (gpfa : Nat → Int32) (gpfb : Nat → Int32) (gpfc : Nat → Int32) (gpfd : Nat → Int32) (gqsz : Int32) (gqsn : Int32) (gqal : Int32) (gqre : Int32) (gqfa : Nat → Int32) (gqfb : Nat → Int32) (gqfc : Nat → Int32) (gqfd : Nat → Int32)  : Option (Int32 × Int32 × Int32 × Int32 × Int32 × Int32 × Int32) :=
  f_X1_firstDifference_L2 fu (fun (x8 : Int32) (x9 : Int32) (x10 : Int32) (x11 : Int32) (x12 : Int32) (x13 : Int32) (x14 : Int32) => some ((-1), x9, x10, x11, x12, x13, x14)) gpsz gpfa gpfb gpfc gpfd gqsz gqfa gqfb gqfc gqfd fu 0 gpsn gpal gpre gqsn gqal gqre
abbrev wk_X1_firstDifference : List Cond := Cond.code yX1_firstDifference cX1_firstDifference 5 (some .int) :: WB
abbrev rm_X1_firstDifference : Room := { frames := 3, cells := 0, slots := 0, locals := 67 }
set_option maxHeartbeats 4000000 in
set_option maxRecDepth 100000 in
theorem c_X1_firstDifference (l : Launch) (D : va_G) (k : Nat → Nat) (gp gpa gpb gpc gpd gq gqa gqb gqc gqd : Nat) (gpsz : Int32) (gpsn : Int32) (gpal : Int32) (gpre : Int32) (gpfa : Nat → Int32) (gpfb : Nat → Int32) (gpfc : Nat → Int32) (gpfd : Nat → Int32) (gqsz : Int32) (gqsn : Int32) (gqal : Int32) (gqre : Int32) (gqfa : Nat → Int32) (gqfb : Nat → Int32) (gqfc : Nat → Int32) (gqfd : Nat → Int32)  (fu : Nat) {res : Int32 × Int32 × Int32 × Int32 × Int32 × Int32 × Int32} (h : f_X1_firstDifference fu gpsz gpsn gpal gpre gpfa gpfb gpfc gpfd gqsz gqsn gqal gqre gqfa gqfb gqfc gqfd  = some res) : Ci l yX1_firstDifference wk_X1_firstDifference rm_X1_firstDifference D k [.ref gp, .ref gq] [(gp, .inr (1, [.ref gpa, .ref gpb, .ref gpc, .ref gpd, .int gpsz, .int gpsn, .int gpal, .int gpre])), (gpa, .inl (k 0, 32, .inl gpfa)), (gpb, .inl (k 0, 32, .inl gpfb)), (gpc, .inl (k 0, 12, .inl gpfc)), (gpd, .inl (k 0, 12, .inl gpfd)), (gq, .inr (1, [.ref gqa, .ref gqb, .ref gqc, .ref gqd, .int gqsz, .int gqsn, .int gqal, .int gqre])), (gqa, .inl (k 0, 32, .inl gqfa)), (gqb, .inl (k 0, 32, .inl gqfb)), (gqc, .inl (k 0, 12, .inl gqfc)), (gqd, .inl (k 0, 12, .inl gqfd))] [(gp, .inr (1, [.ref gpa, .ref gpb, .ref gpc, .ref gpd, .int gpsz, .int res.2.1, .int res.2.2.1, .int res.2.2.2.1])), (gpa, .inl (k 0, 32, .inl gpfa)), (gpb, .inl (k 0, 32, .inl gpfb)), (gpc, .inl (k 0, 12, .inl gpfc)), (gpd, .inl (k 0, 12, .inl gpfd)), (gq, .inr (1, [.ref gqa, .ref gqb, .ref gqc, .ref gqd, .int gqsz, .int res.2.2.2.2.1, .int res.2.2.2.2.2.1, .int res.2.2.2.2.2.2])), (gqa, .inl (k 0, 32, .inl gqfa)), (gqb, .inl (k 0, 32, .inl gqfb)), (gqc, .inl (k 0, 12, .inl gqfc)), (gqd, .inl (k 0, 12, .inl gqfd))] res.1 := by
  unfold Ci
  intro sz
  refine Met.ofW (cc := cX1_firstDifference) (maxL := 5) (ret := (some .int)) (by decide) rfl ?_
  intro p e s m args below meth c s₁ B hml hv
  obtain ⟨rfl, hsz, hP, hK, hD0, hm⟩ := hv
  have hx := B.exec
  have hb := B.bytes
  have hr := B.returns
  have ht : ∀ w ∈ WB, w.before _ s = true := fun w hw => atoms_spec (ws := wk_X1_firstDifference) B.pre w (List.mem_cons_of_mem _ hw)
  have hown : s.vm.findClass RX1 = some m.cls := findClass_of_methodNamed B.named
  have hlocks := B.notSynchronized
  subst hsz
  have hD := hD0.self (sz := s.heap.size)
  generalize hAe : va_A [(gp, .inr (1, [.ref gpa, .ref gpb, .ref gpc, .ref gpd, .int gpsz, .int gpsn, .int gpal, .int gpre])), (gpa, .inl (k 0, 32, .inl gpfa)), (gpb, .inl (k 0, 32, .inl gpfb)), (gpc, .inl (k 0, 12, .inl gpfc)), (gpd, .inl (k 0, 12, .inl gpfd)), (gq, .inr (1, [.ref gqa, .ref gqb, .ref gqc, .ref gqd, .int gqsz, .int gqsn, .int gqal, .int gqre])), (gqa, .inl (k 0, 32, .inl gqfa)), (gqb, .inl (k 0, 32, .inl gqfb)), (gqc, .inl (k 0, 12, .inl gqfc)), (gqd, .inl (k 0, 12, .inl gqfd))] s.heap.size = A at hD hm ⊢
  have hA : ∀ q : Nat, s.heap.size ≤ q → A q := fun q h => by rw [← hAe]; exact Or.inr h
  have hS : va_S A s.heap s.heap [] := va_S.rf
  have hl := lv_entry ([.ref gp, .ref gq]) (n := 5) (Nat.le_of_ble_eq_true rfl)
  rw [lg_entry_eq]
  generalize (lg_sl ([.ref gp, .ref gq]) ++ List.replicate (5 - (lg_sl ([.ref gp, .ref gq])).length) Slot.unset).toArray = ls at hl ⊢
  have hl : lv_has ls 5 [(0, .ref gp), (1, .ref gq)] := hl
  obtain ⟨H, hH⟩ : ∃ H, H = s.heap := ⟨_, rfl⟩
  rw [← hH] at hP
  have hS : va_S A s.heap H [] := by rw [hH]; exact hS
  suffices hgo : W p l e _ s m _ below meth c H [] 0 0 _ _ by rw [hH] at hgo; exact hgo
  unfold f_X1_firstDifference at h
  refine lv_iconst (v := 0) hx hb dX1_firstDifference_0 (by decide) ?_
  refine lv_istore_n (lv' := [(2, .int 0), (0, .ref gp), (1, .ref gq)]) hx hb dX1_firstDifference_1 rfl hl (by decide) rfl (fun ls hl => ?_)
  have loop2 : ∀ (gpsz : Int32) (gpfa : Nat → Int32) (gpfb : Nat → Int32) (gpfc : Nat → Int32) (gpfd : Nat → Int32) (gqsz : Int32) (gqfa : Nat → Int32) (gqfb : Nat → Int32) (gqfc : Nat → Int32) (gqfd : Nat → Int32), ∀ (K : Int32 → Int32 → Int32 → Int32 → Int32 → Int32 → Int32 → Option (Int32 × Int32 × Int32 × Int32 × Int32 × Int32 × Int32)), (∀ (v2 : Int32) (gpsn : Int32) (gpal : Int32) (gpre : Int32) (gqsn : Int32) (gqal : Int32) (gqre : Int32), K v2 gpsn gpal gpre gqsn gqal gqre = some res → ∀ (H : Heap) (locs : List Loc), va_P D vwCl [(gp, .inr (1, [.ref gpa, .ref gpb, .ref gpc, .ref gpd, .int gpsz, .int gpsn, .int gpal, .int gpre])), (gpa, .inl (k 0, 32, .inl gpfa)), (gpb, .inl (k 0, 32, .inl gpfb)), (gpc, .inl (k 0, 12, .inl gpfc)), (gpd, .inl (k 0, 12, .inl gpfd)), (gq, .inr (1, [.ref gqa, .ref gqb, .ref gqc, .ref gqd, .int gqsz, .int gqsn, .int gqal, .int gqre])), (gqa, .inl (k 0, 32, .inl gqfa)), (gqb, .inl (k 0, 32, .inl gqfb)), (gqc, .inl (k 0, 12, .inl gqfc)), (gqd, .inl (k 0, 12, .inl gqfd))] H → va_D A [(gp, .inr (1, [.ref gpa, .ref gpb, .ref gpc, .ref gpd, .int gpsz, .int gpsn, .int gpal, .int gpre])), (gpa, .inl (k 0, 32, .inl gpfa)), (gpb, .inl (k 0, 32, .inl gpfb)), (gpc, .inl (k 0, 12, .inl gpfc)), (gpd, .inl (k 0, 12, .inl gpfd)), (gq, .inr (1, [.ref gqa, .ref gqb, .ref gqc, .ref gqd, .int gqsz, .int gqsn, .int gqal, .int gqre])), (gqa, .inl (k 0, 32, .inl gqfa)), (gqb, .inl (k 0, 32, .inl gqfb)), (gqc, .inl (k 0, 12, .inl gqfc)), (gqd, .inl (k 0, 12, .inl gqfd))] → va_S A s.heap H locs → ∀ ls : Array Slot, lv_has ls 5 [(0, .ref gp), (1, .ref gq), (2, .int v2)] → W p l e (headSpec wk_X1_firstDifference rm_X1_firstDifference).room s m ([.ref gp, .ref gq] : List Value).toArray below meth c H locs 0 0 (MQ below (va_Qi (fun xq9 (_ : Unit) => xq9 = res.1) (fun _ tq9 => va_P D vwCl [(gp, .inr (1, [.ref gpa, .ref gpb, .ref gpc, .ref gpd, .int gpsz, .int res.2.1, .int res.2.2.1, .int res.2.2.2.1])), (gpa, .inl (k 0, 32, .inl gpfa)), (gpb, .inl (k 0, 32, .inl gpfb)), (gpc, .inl (k 0, 12, .inl gpfc)), (gpd, .inl (k 0, 12, .inl gpfd)), (gq, .inr (1, [.ref gqa, .ref gqb, .ref gqc, .ref gqd, .int gqsz, .int res.2.2.2.2.1, .int res.2.2.2.2.2.1, .int res.2.2.2.2.2.2])), (gqa, .inl (k 0, 32, .inl gqfa)), (gqb, .inl (k 0, 32, .inl gqfb)), (gqc, .inl (k 0, 12, .inl gqfc)), (gqd, .inl (k 0, 12, .inl gqfd))] tq9.heap) A) ([.ref gp, .ref gq] : List Value).toArray s 0 0 A) (F0 m 58 ls [])) → ∀ (n : Nat) (v2 : Int32) (gpsn : Int32) (gpal : Int32) (gpre : Int32) (gqsn : Int32) (gqal : Int32) (gqre : Int32), f_X1_firstDifference_L2 fu K gpsz gpfa gpfb gpfc gpfd gqsz gqfa gqfb gqfc gqfd n v2 gpsn gpal gpre gqsn gqal gqre = some res → ∀ (H : Heap) (locs : List Loc), va_P D vwCl [(gp, .inr (1, [.ref gpa, .ref gpb, .ref gpc, .ref gpd, .int gpsz, .int gpsn, .int gpal, .int gpre])), (gpa, .inl (k 0, 32, .inl gpfa)), (gpb, .inl (k 0, 32, .inl gpfb)), (gpc, .inl (k 0, 12, .inl gpfc)), (gpd, .inl (k 0, 12, .inl gpfd)), (gq, .inr (1, [.ref gqa, .ref gqb, .ref gqc, .ref gqd, .int gqsz, .int gqsn, .int gqal, .int gqre])), (gqa, .inl (k 0, 32, .inl gqfa)), (gqb, .inl (k 0, 32, .inl gqfb)), (gqc, .inl (k 0, 12, .inl gqfc)), (gqd, .inl (k 0, 12, .inl gqfd))] H → va_D A [(gp, .inr (1, [.ref gpa, .ref gpb, .ref gpc, .ref gpd, .int gpsz, .int gpsn, .int gpal, .int gpre])), (gpa, .inl (k 0, 32, .inl gpfa)), (gpb, .inl (k 0, 32, .inl gpfb)), (gpc, .inl (k 0, 12, .inl gpfc)), (gpd, .inl (k 0, 12, .inl gpfd)), (gq, .inr (1, [.ref gqa, .ref gqb, .ref gqc, .ref gqd, .int gqsz, .int gqsn, .int gqal, .int gqre])), (gqa, .inl (k 0, 32, .inl gqfa)), (gqb, .inl (k 0, 32, .inl gqfb)), (gqc, .inl (k 0, 12, .inl gqfc)), (gqd, .inl (k 0, 12, .inl gqfd))] → va_S A s.heap H locs → ∀ ls : Array Slot, lv_has ls 5 [(0, .ref gp), (1, .ref gq), (2, .int v2)] → W p l e (headSpec wk_X1_firstDifference rm_X1_firstDifference).room s m ([.ref gp, .ref gq] : List Value).toArray below meth c H locs 0 0 (MQ below (va_Qi (fun xq9 (_ : Unit) => xq9 = res.1) (fun _ tq9 => va_P D vwCl [(gp, .inr (1, [.ref gpa, .ref gpb, .ref gpc, .ref gpd, .int gpsz, .int res.2.1, .int res.2.2.1, .int res.2.2.2.1])), (gpa, .inl (k 0, 32, .inl gpfa)), (gpb, .inl (k 0, 32, .inl gpfb)), (gpc, .inl (k 0, 12, .inl gpfc)), (gpd, .inl (k 0, 12, .inl gpfd)), (gq, .inr (1, [.ref gqa, .ref gqb, .ref gqc, .ref gqd, .int gqsz, .int res.2.2.2.2.1, .int res.2.2.2.2.2.1, .int res.2.2.2.2.2.2])), (gqa, .inl (k 0, 32, .inl gqfa)), (gqb, .inl (k 0, 32, .inl gqfb)), (gqc, .inl (k 0, 12, .inl gqfc)), (gqd, .inl (k 0, 12, .inl gqfd))] tq9.heap) A) ([.ref gp, .ref gq] : List Value).toArray s 0 0 A) (F0 m 2 ls []) := by
    intro gpsz gpfa gpfb gpfc gpfd gqsz gqfa gqfb gqfc gqfd K hKK n
    induction n with
    | zero =>
      intro v2 gpsn gpal gpre gqsn gqal gqre h
      rw [f_X1_firstDifference_L2] at h
      cases h
    | succ n ih =>
      intro v2 gpsn gpal gpre gqsn gqal gqre h H locs hP hD hS ls hl
      rw [f_X1_firstDifference_L2] at h
      refine lv_iload_n hx hb dX1_firstDifference_2 rfl (lv_at hl 2 rfl) ?_
      refine lv_bipush (v := 32) hx hb dX1_firstDifference_3 (by decide) ?_
      refine lv_icmp_ge (tgt := 58) hx hb dX1_firstDifference_5 (by decide) (fun c3 => ?_) (fun c3 => ?_)
      · have h := zt h c3
        exact hKK _ _ _ _ _ _ _ h _ _ hP hD hS _ (lv_sub hl [0, 1, 2] rfl)
      · have h := zf h c3
        refine lv_iconst (v := 0) hx hb dX1_firstDifference_8 (by decide) ?_
        refine lv_istore_n (lv' := [(3, .int 0), (0, .ref gp), (1, .ref gq), (2, .int v2)]) hx hb dX1_firstDifference_9 rfl hl (by decide) rfl (fun ls hl => ?_)
        have loop10 : ∀ (v2 : Int32) (gpsz : Int32) (gpfa : Nat → Int32) (gpfb : Nat → Int32) (gpfc : Nat → Int32) (gpfd : Nat → Int32) (gqsz : Int32) (gqfa : Nat → Int32) (gqfb : Nat → Int32) (gqfc : Nat → Int32) (gqfd : Nat → Int32), ∀ (K : Int32 → Int32 → Int32 → Int32 → Int32 → Int32 → Int32 → Option (Int32 × Int32 × Int32 × Int32 × Int32 × Int32 × Int32)), (∀ (v3 : Int32) (gpsn : Int32) (gpal : Int32) (gpre : Int32) (gqsn : Int32) (gqal : Int32) (gqre : Int32), K v3 gpsn gpal gpre gqsn gqal gqre = some res → ∀ (H : Heap) (locs : List Loc), va_P D vwCl [(gp, .inr (1, [.ref gpa, .ref gpb, .ref gpc, .ref gpd, .int gpsz, .int gpsn, .int gpal, .int gpre])), (gpa, .inl (k 0, 32, .inl gpfa)), (gpb, .inl (k 0, 32, .inl gpfb)), (gpc, .inl (k 0, 12, .inl gpfc)), (gpd, .inl (k 0, 12, .inl gpfd)), (gq, .inr (1, [.ref gqa, .ref gqb, .ref gqc, .ref gqd, .int gqsz, .int gqsn, .int gqal, .int gqre])), (gqa, .inl (k 0, 32, .inl gqfa)), (gqb, .inl (k 0, 32, .inl gqfb)), (gqc, .inl (k 0, 12, .inl gqfc)), (gqd, .inl (k 0, 12, .inl gqfd))] H → va_D A [(gp, .inr (1, [.ref gpa, .ref gpb, .ref gpc, .ref gpd, .int gpsz, .int gpsn, .int gpal, .int gpre])), (gpa, .inl (k 0, 32, .inl gpfa)), (gpb, .inl (k 0, 32, .inl gpfb)), (gpc, .inl (k 0, 12, .inl gpfc)), (gpd, .inl (k 0, 12, .inl gpfd)), (gq, .inr (1, [.ref gqa, .ref gqb, .ref gqc, .ref gqd, .int gqsz, .int gqsn, .int gqal, .int gqre])), (gqa, .inl (k 0, 32, .inl gqfa)), (gqb, .inl (k 0, 32, .inl gqfb)), (gqc, .inl (k 0, 12, .inl gqfc)), (gqd, .inl (k 0, 12, .inl gqfd))] → va_S A s.heap H locs → ∀ ls : Array Slot, lv_has ls 5 [(0, .ref gp), (1, .ref gq), (2, .int v2), (3, .int v3)] → W p l e (headSpec wk_X1_firstDifference rm_X1_firstDifference).room s m ([.ref gp, .ref gq] : List Value).toArray below meth c H locs 0 0 (MQ below (va_Qi (fun xq9 (_ : Unit) => xq9 = res.1) (fun _ tq9 => va_P D vwCl [(gp, .inr (1, [.ref gpa, .ref gpb, .ref gpc, .ref gpd, .int gpsz, .int res.2.1, .int res.2.2.1, .int res.2.2.2.1])), (gpa, .inl (k 0, 32, .inl gpfa)), (gpb, .inl (k 0, 32, .inl gpfb)), (gpc, .inl (k 0, 12, .inl gpfc)), (gpd, .inl (k 0, 12, .inl gpfd)), (gq, .inr (1, [.ref gqa, .ref gqb, .ref gqc, .ref gqd, .int gqsz, .int res.2.2.2.2.1, .int res.2.2.2.2.2.1, .int res.2.2.2.2.2.2])), (gqa, .inl (k 0, 32, .inl gqfa)), (gqb, .inl (k 0, 32, .inl gqfb)), (gqc, .inl (k 0, 12, .inl gqfc)), (gqd, .inl (k 0, 12, .inl gqfd))] tq9.heap) A) ([.ref gp, .ref gq] : List Value).toArray s 0 0 A) (F0 m 52 ls [])) → ∀ (n : Nat) (v3 : Int32) (gpsn : Int32) (gpal : Int32) (gpre : Int32) (gqsn : Int32) (gqal : Int32) (gqre : Int32), f_X1_firstDifference_L10 fu K v2 gpsz gpfa gpfb gpfc gpfd gqsz gqfa gqfb gqfc gqfd n v3 gpsn gpal gpre gqsn gqal gqre = some res → ∀ (H : Heap) (locs : List Loc), va_P D vwCl [(gp, .inr (1, [.ref gpa, .ref gpb, .ref gpc, .ref gpd, .int gpsz, .int gpsn, .int gpal, .int gpre])), (gpa, .inl (k 0, 32, .inl gpfa)), (gpb, .inl (k 0, 32, .inl gpfb)), (gpc, .inl (k 0, 12, .inl gpfc)), (gpd, .inl (k 0, 12, .inl gpfd)), (gq, .inr (1, [.ref gqa, .ref gqb, .ref gqc, .ref gqd, .int gqsz, .int gqsn, .int gqal, .int gqre])), (gqa, .inl (k 0, 32, .inl gqfa)), (gqb, .inl (k 0, 32, .inl gqfb)), (gqc, .inl (k 0, 12, .inl gqfc)), (gqd, .inl (k 0, 12, .inl gqfd))] H → va_D A [(gp, .inr (1, [.ref gpa, .ref gpb, .ref gpc, .ref gpd, .int gpsz, .int gpsn, .int gpal, .int gpre])), (gpa, .inl (k 0, 32, .inl gpfa)), (gpb, .inl (k 0, 32, .inl gpfb)), (gpc, .inl (k 0, 12, .inl gpfc)), (gpd, .inl (k 0, 12, .inl gpfd)), (gq, .inr (1, [.ref gqa, .ref gqb, .ref gqc, .ref gqd, .int gqsz, .int gqsn, .int gqal, .int gqre])), (gqa, .inl (k 0, 32, .inl gqfa)), (gqb, .inl (k 0, 32, .inl gqfb)), (gqc, .inl (k 0, 12, .inl gqfc)), (gqd, .inl (k 0, 12, .inl gqfd))] → va_S A s.heap H locs → ∀ ls : Array Slot, lv_has ls 5 [(0, .ref gp), (1, .ref gq), (2, .int v2), (3, .int v3)] → W p l e (headSpec wk_X1_firstDifference rm_X1_firstDifference).room s m ([.ref gp, .ref gq] : List Value).toArray below meth c H locs 0 0 (MQ below (va_Qi (fun xq9 (_ : Unit) => xq9 = res.1) (fun _ tq9 => va_P D vwCl [(gp, .inr (1, [.ref gpa, .ref gpb, .ref gpc, .ref gpd, .int gpsz, .int res.2.1, .int res.2.2.1, .int res.2.2.2.1])), (gpa, .inl (k 0, 32, .inl gpfa)), (gpb, .inl (k 0, 32, .inl gpfb)), (gpc, .inl (k 0, 12, .inl gpfc)), (gpd, .inl (k 0, 12, .inl gpfd)), (gq, .inr (1, [.ref gqa, .ref gqb, .ref gqc, .ref gqd, .int gqsz, .int res.2.2.2.2.1, .int res.2.2.2.2.2.1, .int res.2.2.2.2.2.2])), (gqa, .inl (k 0, 32, .inl gqfa)), (gqb, .inl (k 0, 32, .inl gqfb)), (gqc, .inl (k 0, 12, .inl gqfc)), (gqd, .inl (k 0, 12, .inl gqfd))] tq9.heap) A) ([.ref gp, .ref gq] : List Value).toArray s 0 0 A) (F0 m 10 ls []) := by
          intro v2 gpsz gpfa gpfb gpfc gpfd gqsz gqfa gqfb gqfc gqfd K hKK n
          induction n with
          | zero =>
            intro v3 gpsn gpal gpre gqsn gqal gqre h
            rw [f_X1_firstDifference_L10] at h
            cases h
          | succ n ih =>
            intro v3 gpsn gpal gpre gqsn gqal gqre h H locs hP hD hS ls hl
            rw [f_X1_firstDifference_L10] at h
            refine lv_iload_n hx hb dX1_firstDifference_10 rfl (lv_at hl 3 rfl) ?_
            refine lv_bipush (v := 32) hx hb dX1_firstDifference_11 (by decide) ?_
            refine lv_icmp_ge (tgt := 52) hx hb dX1_firstDifference_13 (by decide) (fun c2 => ?_) (fun c2 => ?_)
            · have h := zt h c2
              exact hKK _ _ _ _ _ _ _ h _ _ hP hD hS _ (lv_sub hl [0, 1, 2, 3] rfl)
            · have h := zf h c2
              refine lv_aload_n hx hb dX1_firstDifference_16 rfl (lv_at hl 0 rfl) ?_
              refine lv_aload_n hx hb dX1_firstDifference_17 rfl (lv_at hl 1 rfl) ?_
              refine lv_iload_n hx hb dX1_firstDifference_18 rfl (lv_at hl 2 rfl) ?_
              refine lv_iload_n hx hb dX1_firstDifference_19 rfl (lv_at hl 3 rfl) ?_
              obtain ⟨r1, h1, h⟩ := zb h
              refine zi (zrV (C := RX1) (T := TX1) (N := 8) (As := [.ref gq, .int v2, .int v3]) (rest := []) ⟨hx, hb, hml, hown, ht⟩ (c_X1_differingServices l D k gp gpa gpb gpc gpd gq gqa gqb gqc gqd gpsz gpsn gpal gpre gpfa gpfb gpfc gpfd gqsz gqsn gqal gqre gqfa gqfb gqfc gqfd v2 v3 fu h1 _) (cwV 3 ht (gdV wb465 wb467 wb8 wb79 wb468) rfl rfl rfl (by decide +kernel) ⟨Nat.le_of_ble_eq_true rfl, Nat.le_of_ble_eq_true rfl⟩) hK hP hD hS hA hm [0, 1, 2, 3, 4, 5, 6, 7, 8, 9] rfl rfl 0 1 rfl rfl rfl hl.1 rfl (Nat.le_of_ble_eq_true rfl) dX1_firstDifference_20 ⟨Nat.le_refl _, Nat.le_refl _⟩) hP hD hS hA [0, 1, 2, 3, 4, 5, 6, 7, 8, 9] rfl rfl (fun H locs hP hD hS => ?_)
              have hP : va_P D vwCl [(gp, .inr (1, [.ref gpa, .ref gpb, .ref gpc, .ref gpd, .int gpsz, .int r1.2.1, .int r1.2.2.1, .int r1.2.2.2.1])), (gpa, .inl (k 0, 32, .inl gpfa)), (gpb, .inl (k 0, 32, .inl gpfb)), (gpc, .inl (k 0, 12, .inl gpfc)), (gpd, .inl (k 0, 12, .inl gpfd)), (gq, .inr (1, [.ref gqa, .ref gqb, .ref gqc, .ref gqd, .int gqsz, .int r1.2.2.2.2.1, .int r1.2.2.2.2.2.1, .int r1.2.2.2.2.2.2])), (gqa, .inl (k 0, 32, .inl gqfa)), (gqb, .inl (k 0, 32, .inl gqfb)), (gqc, .inl (k 0, 12, .inl gqfc)), (gqd, .inl (k 0, 12, .inl gqfd))] H := hP
              have hD : va_D A [(gp, .inr (1, [.ref gpa, .ref gpb, .ref gpc, .ref gpd, .int gpsz, .int r1.2.1, .int r1.2.2.1, .int r1.2.2.2.1])), (gpa, .inl (k 0, 32, .inl gpfa)), (gpb, .inl (k 0, 32, .inl gpfb)), (gpc, .inl (k 0, 12, .inl gpfc)), (gpd, .inl (k 0, 12, .inl gpfd)), (gq, .inr (1, [.ref gqa, .ref gqb, .ref gqc, .ref gqd, .int gqsz, .int r1.2.2.2.2.1, .int r1.2.2.2.2.2.1, .int r1.2.2.2.2.2.2])), (gqa, .inl (k 0, 32, .inl gqfa)), (gqb, .inl (k 0, 32, .inl gqfb)), (gqc, .inl (k 0, 12, .inl gqfc)), (gqd, .inl (k 0, 12, .inl gqfd))] := hD
              refine lv_istore (lv' := [(4, .int r1.1), (0, .ref gp), (1, .ref gq), (2, .int v2), (3, .int v3)]) hx hb dX1_firstDifference_23 hl (by decide) rfl (fun ls hl => ?_)
              refine lv_iload hx hb dX1_firstDifference_25 (lv_at hl 0 rfl) ?_
              refine lv_if_eq (tgt := 46) hx hb dX1_firstDifference_27 (by decide) (fun c1 => ?_) (fun c1 => ?_)
              · have h := zt h c1
                refine lv_iinc (v := v3 + 1) (lv' := [(3, .int (v3 + 1)), (4, .int r1.1), (0, .ref gp), (1, .ref gq), (2, .int v2)]) hx hb dX1_firstDifference_46 hl (k := 4) rfl rfl (by decide) rfl (fun ls hl => ?_)
                refine lv_goto (tgt := 10) hx hb dX1_firstDifference_49 (by decide) ?_
                exact ih _ _ _ _ _ _ _ h _ _ hP hD hS _ (lv_sub hl [2, 3, 4, 0] rfl)
              · have h := zf h c1
                refine lv_iload_n hx hb dX1_firstDifference_30 rfl (lv_at hl 3 rfl) ?_
                refine lv_bipush (v := 32) hx hb dX1_firstDifference_31 (by decide) ?_
                refine lv_imul hx hb dX1_firstDifference_33 ?_
                refine lv_iload_n hx hb dX1_firstDifference_34 rfl (lv_at hl 4 rfl) ?_
                refine lv_iadd hx hb dX1_firstDifference_35 ?_
                refine lv_bipush (v := 32) hx hb dX1_firstDifference_36 (by decide) ?_
                refine lv_imul hx hb dX1_firstDifference_38 ?_
                refine lv_iload hx hb dX1_firstDifference_39 (lv_at hl 0 rfl) ?_
                obtain ⟨r2, h2, h⟩ := zb h
                refine zi (zrS (As := [.int r1.1]) (rest := [.int (((v2 * 32) + v3) * 32)]) ⟨hx, hb, hml, hown, ht⟩ (c_X1_leastOf l D k   r1.1 fu h2 _) (va_cwS 1 ht (gdS wb473 wb474 wb79 wb475) rfl rfl rfl (by decide +kernel) ⟨Nat.le_of_ble_eq_true rfl, Nat.le_of_ble_eq_true rfl⟩) hK hP hD hS hA hm [] rfl rfl rfl hl.1 rfl (Nat.le_of_ble_eq_true rfl) dX1_firstDifference_41 ⟨Nat.le_refl _, Nat.le_refl _⟩) hP hD hS hA [] rfl rfl (fun H locs hP hD hS => ?_)
                have hP : va_P D vwCl [(gp, .inr (1, [.ref gpa, .ref gpb, .ref gpc, .ref gpd, .int gpsz, .int r1.2.1, .int r1.2.2.1, .int r1.2.2.2.1])), (gpa, .inl (k 0, 32, .inl gpfa)), (gpb, .inl (k 0, 32, .inl gpfb)), (gpc, .inl (k 0, 12, .inl gpfc)), (gpd, .inl (k 0, 12, .inl gpfd)), (gq, .inr (1, [.ref gqa, .ref gqb, .ref gqc, .ref gqd, .int gqsz, .int r1.2.2.2.2.1, .int r1.2.2.2.2.2.1, .int r1.2.2.2.2.2.2])), (gqa, .inl (k 0, 32, .inl gqfa)), (gqb, .inl (k 0, 32, .inl gqfb)), (gqc, .inl (k 0, 12, .inl gqfc)), (gqd, .inl (k 0, 12, .inl gqfd))] H := hP
                have hD : va_D A [(gp, .inr (1, [.ref gpa, .ref gpb, .ref gpc, .ref gpd, .int gpsz, .int r1.2.1, .int r1.2.2.1, .int r1.2.2.2.1])), (gpa, .inl (k 0, 32, .inl gpfa)), (gpb, .inl (k 0, 32, .inl gpfb)), (gpc, .inl (k 0, 12, .inl gpfc)), (gpd, .inl (k 0, 12, .inl gpfd)), (gq, .inr (1, [.ref gqa, .ref gqb, .ref gqc, .ref gqd, .int gqsz, .int r1.2.2.2.2.1, .int r1.2.2.2.2.2.1, .int r1.2.2.2.2.2.2])), (gqa, .inl (k 0, 32, .inl gqfa)), (gqb, .inl (k 0, 32, .inl gqfb)), (gqc, .inl (k 0, 12, .inl gqfc)), (gqd, .inl (k 0, 12, .inl gqfd))] := hD
                refine lv_iadd hx hb dX1_firstDifference_44 ?_
                obtain rfl := Option.some.inj h
                exact W.iret (v := (((v2 * 32) + v3) * 32) + r2) hx hb hr (fun t ht9 hW => ⟨⟨_, (), rfl, rfl, zend ht9 hP⟩, hS.F ht9⟩) hS.2.2 dX1_firstDifference_45
        refine loop10 _ _ _ _ _ _ _ _ _ _ _ _ ?_ fu _ _ _ _ _ _ _ h _ _ hP hD hS _ (lv_sub hl [1, 2, 3, 0] rfl)
        intro x1 x2 x3 x4 x5 x6 x7 h H locs hP hD hS ls hl
        try dsimp only at h
        have hP : va_P D vwCl [(gp, .inr (1, [.ref gpa, .ref gpb, .ref gpc, .ref gpd, .int gpsz, .int x2, .int x3, .int x4])), (gpa, .inl (k 0, 32, .inl gpfa)), (gpb, .inl (k 0, 32, .inl gpfb)), (gpc, .inl (k 0, 12, .inl gpfc)), (gpd, .inl (k 0, 12, .inl gpfd)), (gq, .inr (1, [.ref gqa, .ref gqb, .ref gqc, .ref gqd, .int gqsz, .int x5, .int x6, .int x7])), (gqa, .inl (k 0, 32, .inl gqfa)), (gqb, .inl (k 0, 32, .inl gqfb)), (gqc, .inl (k 0, 12, .inl gqfc)), (gqd, .inl (k 0, 12, .inl gqfd))] H := hP
        have hD : va_D A [(gp, .inr (1, [.ref gpa, .ref gpb, .ref gpc, .ref gpd, .int gpsz, .int x2, .int x3, .int x4])), (gpa, .inl (k 0, 32, .inl gpfa)), (gpb, .inl (k 0, 32, .inl gpfb)), (gpc, .inl (k 0, 12, .inl gpfc)), (gpd, .inl (k 0, 12, .inl gpfd)), (gq, .inr (1, [.ref gqa, .ref gqb, .ref gqc, .ref gqd, .int gqsz, .int x5, .int x6, .int x7])), (gqa, .inl (k 0, 32, .inl gqfa)), (gqb, .inl (k 0, 32, .inl gqfb)), (gqc, .inl (k 0, 12, .inl gqfc)), (gqd, .inl (k 0, 12, .inl gqfd))] := hD
        have hl : lv_has ls 5 [(0, .ref gp), (1, .ref gq), (2, .int v2), (3, .int x1)] := hl
        refine lv_iinc (v := v2 + 1) (lv' := [(2, .int (v2 + 1)), (0, .ref gp), (1, .ref gq), (3, .int x1)]) hx hb dX1_firstDifference_52 hl (k := 2) rfl rfl (by decide) rfl (fun ls hl => ?_)
        refine lv_goto (tgt := 2) hx hb dX1_firstDifference_55 (by decide) ?_
        exact ih _ _ _ _ _ _ _ h _ _ hP hD hS _ (lv_sub hl [1, 2, 0] rfl)
  refine loop2 _ _ _ _ _ _ _ _ _ _ _ ?_ fu _ _ _ _ _ _ _ h _ _ hP hD hS _ (lv_sub hl [1, 2, 0] rfl)
  intro x8 x9 x10 x11 x12 x13 x14 h H locs hP hD hS ls hl
  try dsimp only at h
  have hP : va_P D vwCl [(gp, .inr (1, [.ref gpa, .ref gpb, .ref gpc, .ref gpd, .int gpsz, .int x9, .int x10, .int x11])), (gpa, .inl (k 0, 32, .inl gpfa)), (gpb, .inl (k 0, 32, .inl gpfb)), (gpc, .inl (k 0, 12, .inl gpfc)), (gpd, .inl (k 0, 12, .inl gpfd)), (gq, .inr (1, [.ref gqa, .ref gqb, .ref gqc, .ref gqd, .int gqsz, .int x12, .int x13, .int x14])), (gqa, .inl (k 0, 32, .inl gqfa)), (gqb, .inl (k 0, 32, .inl gqfb)), (gqc, .inl (k 0, 12, .inl gqfc)), (gqd, .inl (k 0, 12, .inl gqfd))] H := hP
  have hD : va_D A [(gp, .inr (1, [.ref gpa, .ref gpb, .ref gpc, .ref gpd, .int gpsz, .int x9, .int x10, .int x11])), (gpa, .inl (k 0, 32, .inl gpfa)), (gpb, .inl (k 0, 32, .inl gpfb)), (gpc, .inl (k 0, 12, .inl gpfc)), (gpd, .inl (k 0, 12, .inl gpfd)), (gq, .inr (1, [.ref gqa, .ref gqb, .ref gqc, .ref gqd, .int gqsz, .int x12, .int x13, .int x14])), (gqa, .inl (k 0, 32, .inl gqfa)), (gqb, .inl (k 0, 32, .inl gqfb)), (gqc, .inl (k 0, 12, .inl gqfc)), (gqd, .inl (k 0, 12, .inl gqfd))] := hD
  have hl : lv_has ls 5 [(0, .ref gp), (1, .ref gq), (2, .int x8)] := hl
  refine lv_iconst (v := (-1)) hx hb dX1_firstDifference_58 (by decide) ?_
  obtain rfl := Option.some.inj h
  exact W.iret (v := (-1)) hx hb hr (fun t ht9 hW => ⟨⟨_, (), rfl, rfl, zend ht9 hP⟩, hS.F ht9⟩) hS.2.2 dX1_firstDifference_59
