def Cn (l : Launch) (y : MethodName) (wy : List Cond) (rm : Room) (D : va_G) (k : Nat → Nat) (av : List Value) (w0 : va_W) (B : (Nat → Nat) → va_W) (mc ms : Nat) : Prop := ∀ sz : Nat, Met l y wy rm (va_Pc av (cP D k w0 sz)) (va_Qv (fun (_ : Nat → Nat) => True) (fun q t => va_P D vwCl (B q) t.heap ∧ va_D (va_A w0 sz) (B q)) (va_A w0 sz)) mc ms (va_A w0 sz)
theorem newI {D : va_G} {k : Nat → Nat} {s : State} {cA : ClassId} (h : va_K D vwCl (tyA k ++ [(cA, .int)]) s) : cA = k 0 := by
  have h1 := (h.2 0 (k 0, .int) rfl).2
  have h2 := (h.2 2 (cA, .int) rfl).2
  exact Option.some.inj (h2.symm.trans h1)
theorem newR {D : va_G} {k : Nat → Nat} {s : State} {cA : ClassId} (h : va_K D vwCl (tyA k ++ [(cA, .object "ZoneGuard$State")]) s) : cA = k 1 := by
  obtain ⟨_, _, _, _, _, h1⟩ := (h.2 1 (k 1, .object "ZoneGuard$State") rfl).2
  obtain ⟨_, _, _, _, _, h2⟩ := (h.2 2 (cA, .object "ZoneGuard$State") rfl).2
  exact Option.some.inj (h2.symm.trans h1)
section ZI
variable {p : Program} {l : Launch} {e : Env} {R : Room} {s : State} {m : MethodId} {args : Array Value} {below : List Frame} {meth : Method} {c : Code} {H : Heap} {locs : List Loc} {cells slots : Nat} {Q : State → Prop}
variable {y : MethodName} {bytes cc : ByteArray} {maxL nL n index mc ms : Nat} {wy Ts : List Cond} {rm : Room} {own host : String} {b : Nat} {As rest st0 : List Value} {pc : Nat} {ls : Array Slot}
variable {D : va_G} {k : Nat → Nat} {A : Nat → Prop} {ws wc wr : va_W} {B : (Nat → Nat) → va_W} {Qc : Array Value → State → Outcome → State → Prop}
theorem zn {a : Array Value} (hr : va_Run p l e R s m args below meth c H locs cells slots mc ms (F0 m pc ls st0) rest (va_Qv (fun (_ : Nat → Nat) => True) (fun q t => va_P D vwCl (B q) t.heap ∧ va_D (va_A wc H.size) (B q)) (va_A wc H.size) a) (va_A wc H.size)) (hP : va_P D vwCl ws H) (hD : va_D A ws) (hS : va_S A s.heap H locs) (hA : ∀ q, s.heap.size ≤ q → A q) (isC isR : List Nat) (hC : isC.map (fun i => ws[i]?) = wc.map some) (hR : isR.map (fun i => ws[i]?) = wr.map some) (hn : va_nd isR = true) (hdis : ∀ i ∈ isR, i ∉ isC)
    (kk : ∀ (u : Nat → Nat) (H1 : Heap) (locs1 : List Loc), va_P D vwCl (wr ++ B u) H1 → va_D A (wr ++ B u) → va_S A s.heap H1 locs1 → W p l e R s m args below meth c H1 locs1 (cells + mc) (slots + ms) Q (F0 m (pc + 3) ls rest)) : W p l e R s m args below meth c H locs cells slots Q (F0 m pc ls st0) := by
  have hF := va_free hD hS hA isC hC
  refine va_callv hr hS (fun q _ h => hF q h) hF (fun u t H1 locs1 ht hvm hx hB hz hk hS1 => ?_)
  rw [ht] at hB
  obtain ⟨g1, g2⟩ := va_join hP hD isC isR hC hR hn hdis hk hF hB.1 hB.2
  exact kk u H1 locs1 g1 g2 hS1
theorem zrI (S : CallFix p m c cc nL s args Ts own) (hM : Met l y wy rm (va_Pc (.ref b :: As) (cP D k wc H.size)) Qc mc ms (va_A wc H.size)) (cw : CallB R s args own index y bytes maxL none wy rm mc ms n ∧ y.name = "<init>" ∧ (Cond.instanceMethod y).before args s = true) (hK : va_K D vwCl (tyA k) s) (hP : va_P D vwCl ws H) (hD : va_D A ws) (hS : va_S A s.heap H locs) (hA : ∀ q, s.heap.size ≤ q → A q) (hm : amb k A s s.heap) (isC : List Nat) (hnd : va_nd isC = true) (hC : isC.map (fun i => ws[i]?) = wc.map some)
    (hn : As.length = n) (hsize : ls.size = nL) (hstack : st0 = As.reverse ++ .ref b :: rest) (hW : (rest.map fun v => v.category).sum ≤ 8) (hdg : decode cc pc = .ok (.invokespecial index, 3)) (hcs : cells + mc ≤ R.cells ∧ slots + ms ≤ R.slots) :
    va_Run p l e R s m args below meth c H locs cells slots mc ms (F0 m pc ls st0) rest (Qc (Value.ref b :: As).toArray) (va_A wc H.size) :=
  va_runI (As := As) (rest := rest) (g := F0 m pc ls st0) S hM cw ⟨cP.blind, fun U hU hWm => ⟨rfl, zPre hP hD hK hS hA hm isC hnd hC hU hWm⟩⟩ rfl hn hsize hstack (lv_room (rest := st0) hW) hdg hcs
theorem zrIN (S : CallFix p m c cc nL s args Ts own) (hM : Met l y wy rm (va_Pc (.ref b :: As) (cP D k wc H.size)) Qc mc ms (va_A wc H.size)) (cw : va_CN R s args own index y host bytes maxL none wy rm mc ms n ∧ y.name = "<init>" ∧ (Cond.instanceMethod y).before args s = true) (hK : va_K D vwCl (tyA k) s) (hP : va_P D vwCl ws H) (hD : va_D A ws) (hS : va_S A s.heap H locs) (hA : ∀ q, s.heap.size ≤ q → A q) (hm : amb k A s s.heap) (isC : List Nat) (hnd : va_nd isC = true) (hC : isC.map (fun i => ws[i]?) = wc.map some)
    (hn : As.length = n) (hsize : ls.size = nL) (hstack : st0 = As.reverse ++ .ref b :: rest) (hW : (rest.map fun v => v.category).sum ≤ 8) (hdg : decode cc pc = .ok (.invokespecial index, 3)) (hcs : cells + mc ≤ R.cells ∧ slots + ms ≤ R.slots) :
    va_Run p l e R s m args below meth c H locs cells slots mc ms (F0 m pc ls st0) rest (Qc (Value.ref b :: As).toArray) (va_A wc H.size) :=
  va_runIN (As := As) (rest := rest) (g := F0 m pc ls st0) S hM cw ⟨cP.blind, fun U hU hWm => ⟨rfl, zPre hP hD hK hS hA hm isC hnd hC hU hWm⟩⟩ rfl hn hsize hstack (lv_room (rest := st0) hW) hdg hcs
theorem zcpT {a : Nat} {cl : List vw_C} {tys : List (ClassId × FieldType)} (hexec : p.tables.exec = Jvm.exec) (hb : c.code = cc) (hml : c.maxLocals = ls.size) (hown : s.vm.findClass own = some m.cls) (hlink : (Cond.methodLink own index arraycopyName).before args s = true) (hnat : (Cond.native arraycopyName).before args s = true) (hstat : (Cond.static arraycopyName).before args s = true) (hini : (Cond.initialized "java/lang/System").before args s = true)
    (hK : va_K D cl tys s) (hP : va_P D cl ws H) (hD : va_D A ws) (hS : va_S A s.heap H locs) {b0 n0 : Nat} {f : Nat → Int32} (hX : va_T .int b0 n0 (fun j => .int (f j)) A s s.heap) (q1 t1 : Nat) {c1 : ClassId} {n1 : Nat} {g : Nat → Int32} (ha1 : ws[q1]? = some (a, .inl (c1, n1, .inl g))) (ht1 : tys[t1]? = some (c1, .int))
    {sp dp n : Int32} (h1 : ¬ sp < 0) (h2 : ¬ dp < 0) (h3 : ¬ n < 0) (h4 : sp.toNatClampNeg + n.toNatClampNeg ≤ n0) (h5 : dp.toNatClampNeg + n.toNatClampNeg ≤ n1)
    (hframes : 1 ≤ R.frames) (hlocals : (rest.map fun v => v.category).sum + (nativeFrameWords "java/lang/System" "arraycopy" 5 + 11) ≤ R.locals) (hdg : decode cc pc = .ok (.invokestatic index, 3))
    (kk : ∀ (H1 : Heap) (locs1 : List Loc), va_P D cl (ws.set q1 (a, .inl (c1, n1, .inl (va_cpy f g sp.toNatClampNeg dp.toNatClampNeg n.toNatClampNeg)))) H1 → va_D A (ws.set q1 (a, .inl (c1, n1, .inl (va_cpy f g sp.toNatClampNeg dp.toNatClampNeg n.toNatClampNeg)))) → va_S A s.heap H1 locs1 → W p l e R s m args below meth c H1 locs1 cells slots Q (F0 m (pc + 3) ls rest)) : W p l e R s m args below meth c H locs cells slots Q (F0 m pc ls (.int n :: .int dp :: .ref a :: .int sp :: .ref b0 :: rest)) := by
  have nn : ∀ z : Int32, ¬ z < 0 → z.toInt = (z.toNatClampNeg : Int) := by
    intro z hz
    have hz0 : (0 : Int) ≤ z.toInt := by
      have := Int32.not_lt.mp hz
      simpa using Int32.le_iff_toInt_le.mp this
    show z.toInt = ((z.toInt.toNat : Nat) : Int)
    omega
  intro T hT X
  obtain ⟨scr, hs1, hs2, hs3, hs4, -, hs5, hs7⟩ := hX
  have hc0 : H[b0]? = some scr := by rw [hS.2.1 b0 (Array.getElem?_eq_some_iff.mp hs1).1 hs7]; exact hs1
  have hc1 : H[a]? = some (vp_cell c1 (n1, .inl g)) := hP q1 _ ha1
  obtain ⟨hs6, k0, hk0, cm0, hkk0⟩ := hs2
  obtain ⟨-, k1, hk1, cm1, hkk1⟩ := (hK.2 t1 _ ht1).1 n1 (fun j => .int (g j))
  obtain ⟨vm', X', step⟩ := X.arraycopy hexec hown hlink hnat hstat hini (src := b0) (dst := a) (cs := scr) (cd := vp_cell c1 (n1, .inl g)) (srcPos := sp) (destPos := dp) (n := n) (by rw [hT]; exact hc0) (by rw [hT]; exact hc1)
    hs6 (fun _ h => by cases h) hs3 (fun h => by cases h) hk0 hk1 hkk0 hkk1 (by simp [refKind]) h1 h2 h3
    (by rw [nn sp h1, nn n h3]; omega)
    (by rw [nn dp h2, nn n h3]; show ¬ _ > ((arrV c1 n1 (fun j => .int (g j))).slots.size : Int); rw [arrV_size]; omega)
    (fun vm₁ _ i hi => by
      have e : scr.slots.getD (sp.toNatClampNeg + i) .null = .int (f (sp.toNatClampNeg + i)) := by
        rw [Array.getD_eq_getD_getElem?, hs5 _ (by omega)]
        rfl
      refine ⟨?_, ?_⟩
      · rw [e]
        rfl
      · rw [e]
        exact trivial)
    (g := F0 m pc ls (.int n :: .int dp :: .ref a :: .int sp :: .ref b0 :: rest)) rfl (by rw [hml]) (rest := rest) rfl (by rw [hb]; exact hdg) hframes (by show 2 * 0 + _ + _ ≤ _; omega)
  have e1 : copied scr (vp_cell c1 (n1, .inl g)) sp dp n = vp_cell c1 (n1, .inl (va_cpy f g sp.toNatClampNeg dp.toNatClampNeg n.toNatClampNeg)) := va_copiedX (fun z => .int z) scr c1 f g hs5 h4
  rw [e1] at X' step
  have hl : a < H.size := (Array.getElem?_eq_some_iff.mp hc1).1
  have hheap : ((T.setVm vm').setCell a (vp_cell c1 (n1, .inl (va_cpy f g sp.toNatClampNeg dp.toNatClampNeg n.toNatClampNeg)))).heap = H.setIfInBounds a (vp_cell c1 (n1, .inl (va_cpy f g sp.toNatClampNeg dp.toNatClampNeg n.toNatClampNeg))) := by rw [← hT]; rfl
  have oq : ∀ q : Nat, q ≠ a → (H.setIfInBounds a (vp_cell c1 (n1, .inl (va_cpy f g sp.toNatClampNeg dp.toNatClampNeg n.toNatClampNeg))))[q]? = H[q]? := fun q hq => by simp [Array.getElem?_setIfInBounds, Ne.symm hq]
  obtain ⟨t, a1, b1⟩ := kk _ _ (hP.set hD ha1 (show (H.setIfInBounds a _)[a]? = some _ by simp [Array.getElem?_setIfInBounds, hl]) oq) (hD.set ha1) ⟨by simp; exact hS.1, fun q g1 g2 => by
      rw [oq q (fun e => g2 (by rw [e]; exact hD.2 q1 _ ha1))]
      exact hS.2.1 q g1 g2, fun q hq => by
      rcases List.mem_append.mp hq with h | h
      · exact hS.2.2 q h
      · obtain ⟨z, -, hz⟩ := List.mem_map.mp h
        rw [← hz]
        exact hD.2 q1 _ ha1⟩ _ hheap X'
  exact ⟨t, step t a1, b1⟩
end ZI
def B_X3_init_12_11 (k : Nat → Nat) (o : Nat) (q : Nat → Nat) : va_W := [(o, .inr (3, [.int 12, .int 11, .ref (q 0), .int 0])), ((q 0), .inl (k 0, 132, .inl (fun _ => 0)))]
abbrev wk_X3_init_12_11 : List Cond := Cond.code yX3_init cX3_init 3 none :: WB
abbrev rm_X3_init_12_11 : Room := { frames := 1, cells := 1, slots := 132, locals := 21 }
set_option maxHeartbeats 4000000 in
set_option maxRecDepth 100000 in
theorem c_X3_init_12_11 (l : Launch) (D : va_G) (k : Nat → Nat) (o : Nat) : Cn l yX3_init wk_X3_init_12_11 rm_X3_init_12_11 D k [.ref o, .int 12, .int 11] [(o, .inr (3, [.int 0, .int 0, .null, .int 0]))] (B_X3_init_12_11 k o) 1 132 := by
  intro sz
  refine Met.ofW (cc := cX3_init) (maxL := 3) (ret := none) (by decide) rfl ?_
  intro p e s m args below meth c s₁ B hml hv
  obtain ⟨rfl, hsz, hP, hK, hD0, hm⟩ := hv
  have hx := B.exec
  have hb := B.bytes
  have hr := B.returns
  have ht : ∀ w ∈ WB, w.before _ s = true := fun w hw => atoms_spec (ws := wk_X3_init_12_11) B.pre w (List.mem_cons_of_mem _ hw)
  have hown : s.vm.findClass RX3 = some m.cls := findClass_of_methodNamed B.named
  have hlocks := B.notSynchronized
  have hin : meth.name = "<init>" := (name_of_methodNamed B.named B.method).1
  subst hsz
  have hD := hD0.self (sz := s.heap.size)
  generalize hAe : va_A [(o, .inr (3, [.int 0, .int 0, .null, .int 0]))] s.heap.size = A at hD hm ⊢
  have hA : ∀ q : Nat, s.heap.size ≤ q → A q := fun q h => by rw [← hAe]; exact Or.inr h
  have hS : va_S A s.heap s.heap [] := va_S.rf
  have hl := lv_entry ([.ref o, .int 12, .int 11]) (n := 3) (Nat.le_of_ble_eq_true rfl)
  rw [lg_entry_eq]
  generalize (lg_sl ([.ref o, .int 12, .int 11]) ++ List.replicate (3 - (lg_sl ([.ref o, .int 12, .int 11])).length) Slot.unset).toArray = ls at hl ⊢
  have hl : lv_has ls 3 [(0, .ref o), (1, .int 12), (2, .int 11)] := hl
  obtain ⟨H, hH⟩ : ∃ H, H = s.heap := ⟨_, rfl⟩
  rw [← hH] at hP
  have hS : va_S A s.heap H [] := by rw [hH]; exact hS
  suffices hgo : W p l e _ s m _ below meth c H [] 0 0 _ _ by rw [hH] at hgo; exact hgo
  refine lv_aload_n hx hb dX3_init_0 rfl (lv_at hl 0 rfl) ?_
  refine W.objInit hx hb hown (ht _ wb105) (ht _ wb92) (ht _ wb93) rfl (by rw [hml]; exact hl.1) rfl dX3_init_1 (Nat.le_of_ble_eq_true rfl) (Nat.le_of_ble_eq_true rfl) ?_
  refine W.eq (g2 := F0 m 4 ls []) rfl ?_
  refine lv_aload_n hx hb dX3_init_4 rfl (lv_at hl 0 rfl) ?_
  refine lv_iconst (v := 0) hx hb dX3_init_5 (by decide) ?_
  refine lv_iload_n hx hb dX3_init_6 rfl (lv_at hl 1 rfl) ?_
  refine va_mmax hx hb (hml.trans hl.1.symm) hown (ht _ wb106) (ht _ wb107) (ht _ wb75) (ht _ wb108) (Nat.le_of_ble_eq_true rfl) (Nat.le_of_ble_eq_true rfl) (Nat.le_of_ble_eq_true rfl) (Nat.le_of_ble_eq_true rfl) dX3_init_7 ?_
  refine W.eq (g2 := F0 m 10 ls [.int 12, .ref o]) (by rw [if_pos (show (0 : Int32) < 12 by decide)]) ?_
  refine va_putF (D := D) (ci := 3) (v := .int 12) (ty := .int) (C := RX3) (T := TX3) (N := 4) hx hb ht hiX3 tyX3 tyX3_ok nmX3 hown hK hP hD hS 0 rfl rfl 0 (by decide) (ht _ wb109) (fun _ h9 => h9) rfl hin rfl (by decide +kernel) rfl rfl (Nat.le_of_ble_eq_true rfl) dX3_init_10 (fun H locs hP hD hS => ?_)
  have hP : va_P D vwCl [(o, .inr (3, [.int 12, .int 0, .null, .int 0]))] H := hP
  have hD : va_D A [(o, .inr (3, [.int 12, .int 0, .null, .int 0]))] := hD
  refine lv_aload_n hx hb dX3_init_13 rfl (lv_at hl 0 rfl) ?_
  refine lv_iconst (v := 0) hx hb dX3_init_14 (by decide) ?_
  refine lv_iload_n hx hb dX3_init_15 rfl (lv_at hl 2 rfl) ?_
  refine va_mmax hx hb (hml.trans hl.1.symm) hown (ht _ wb106) (ht _ wb107) (ht _ wb75) (ht _ wb108) (Nat.le_of_ble_eq_true rfl) (Nat.le_of_ble_eq_true rfl) (Nat.le_of_ble_eq_true rfl) (Nat.le_of_ble_eq_true rfl) dX3_init_16 ?_
  refine W.eq (g2 := F0 m 19 ls [.int 11, .ref o]) (by rw [if_pos (show (0 : Int32) < 11 by decide)]) ?_
  refine va_putF (D := D) (ci := 3) (v := .int 11) (ty := .int) (C := RX3) (T := TX3) (N := 4) hx hb ht hiX3 tyX3 tyX3_ok nmX3 hown hK hP hD hS 0 rfl rfl 1 (by decide) (ht _ wb110) (fun _ h9 => h9) rfl hin rfl (by decide +kernel) rfl rfl (Nat.le_of_ble_eq_true rfl) dX3_init_19 (fun H locs hP hD hS => ?_)
  have hP : va_P D vwCl [(o, .inr (3, [.int 12, .int 11, .null, .int 0]))] H := hP
  have hD : va_D A [(o, .inr (3, [.int 12, .int 11, .null, .int 0]))] := hD
  refine lv_aload_n hx hb dX3_init_22 rfl (lv_at hl 0 rfl) ?_
  refine lv_aload_n hx hb dX3_init_23 rfl (lv_at hl 0 rfl) ?_
  refine va_get (D := D) (ci := 3) (v := .int 12) (C := RX3) (T := TX3) (N := 4) hx hb ht hiX3 hown hK hP 0 rfl rfl 0 (by decide) (ht _ wb109) (fun _ h9 => h9) rfl dX3_init_24 ?_
  refine lv_aload_n hx hb dX3_init_27 rfl (lv_at hl 0 rfl) ?_
  refine va_get (D := D) (ci := 3) (v := .int 11) (C := RX3) (T := TX3) (N := 4) hx hb ht hiX3 hown hK hP 0 rfl rfl 1 (by decide) (ht _ wb110) (fun _ h9 => h9) rfl dX3_init_28 ?_
  refine lv_imul hx hb dX3_init_31 ?_
  refine W.eq (g2 := F0 m 32 ls [.int 132, .ref o]) (by rw [show (12 * 11 : Int32) = 132 by decide]) ?_
  refine va_newa (atype := .int) (ty := .int) (n := 132) (N' := 132) (a0 := (132, .inl (fun _ => 0))) hx hb (ht _ wb122) rfl hK hP hD hS hA (fun _ => rfl) (by decide) (by decide) (Nat.le_of_ble_eq_true rfl) (Nat.le_of_ble_eq_true rfl) (Nat.le_of_ble_eq_true rfl) dX3_init_32 (fun q1 cA H hKn hP hD hS => ?_)
  obtain rfl : cA = k 0 := newI hKn
  have hP : va_P D vwCl [(o, .inr (3, [.int 12, .int 11, .null, .int 0])), (q1, .inl (k 0, 132, .inl (fun _ => 0)))] H := hP
  have hD : va_D A [(o, .inr (3, [.int 12, .int 11, .null, .int 0])), (q1, .inl (k 0, 132, .inl (fun _ => 0)))] := hD
  refine W.widen (k := 1) (n := 132) (Nat.le_of_ble_eq_true rfl) (Nat.le_of_ble_eq_true rfl) ?_
  refine va_putF (D := D) (ci := 3) (v := .ref q1) (ty := .array .int) (C := RX3) (T := TX3) (N := 4) hx hb ht hiX3 tyX3 tyX3_ok nmX3 hown hK hP hD hS 0 rfl rfl 2 (by decide) (ht _ wb111) (fun _ h9 => h9) rfl hin rfl (by decide +kernel) rfl rfl (Nat.le_of_ble_eq_true rfl) dX3_init_34 (fun H locs hP hD hS => ?_)
  have hP : va_P D vwCl [(o, .inr (3, [.int 12, .int 11, .ref q1, .int 0])), (q1, .inl (k 0, 132, .inl (fun _ => 0)))] H := hP
  have hD : va_D A [(o, .inr (3, [.int 12, .int 11, .ref q1, .int 0])), (q1, .inl (k 0, 132, .inl (fun _ => 0)))] := hD
  exact W.vret hx hb hr (fun t ht9 hW => ⟨⟨(fun i => ([q1] : List Nat).getD i 0), rfl, trivial, zend ht9 hP, hD⟩, hS.F ht9⟩) hS.2.2 dX3_init_37
def B_X3_init_8_7 (k : Nat → Nat) (o : Nat) (q : Nat → Nat) : va_W := [(o, .inr (3, [.int 8, .int 7, .ref (q 0), .int 0])), ((q 0), .inl (k 0, 56, .inl (fun _ => 0)))]
abbrev wk_X3_init_8_7 : List Cond := Cond.code yX3_init cX3_init 3 none :: WB
abbrev rm_X3_init_8_7 : Room := { frames := 1, cells := 1, slots := 56, locals := 21 }
set_option maxHeartbeats 4000000 in
set_option maxRecDepth 100000 in
theorem c_X3_init_8_7 (l : Launch) (D : va_G) (k : Nat → Nat) (o : Nat) : Cn l yX3_init wk_X3_init_8_7 rm_X3_init_8_7 D k [.ref o, .int 8, .int 7] [(o, .inr (3, [.int 0, .int 0, .null, .int 0]))] (B_X3_init_8_7 k o) 1 56 := by
  intro sz
  refine Met.ofW (cc := cX3_init) (maxL := 3) (ret := none) (by decide) rfl ?_
  intro p e s m args below meth c s₁ B hml hv
  obtain ⟨rfl, hsz, hP, hK, hD0, hm⟩ := hv
  have hx := B.exec
  have hb := B.bytes
  have hr := B.returns
  have ht : ∀ w ∈ WB, w.before _ s = true := fun w hw => atoms_spec (ws := wk_X3_init_8_7) B.pre w (List.mem_cons_of_mem _ hw)
  have hown : s.vm.findClass RX3 = some m.cls := findClass_of_methodNamed B.named
  have hlocks := B.notSynchronized
  have hin : meth.name = "<init>" := (name_of_methodNamed B.named B.method).1
  subst hsz
  have hD := hD0.self (sz := s.heap.size)
  generalize hAe : va_A [(o, .inr (3, [.int 0, .int 0, .null, .int 0]))] s.heap.size = A at hD hm ⊢
  have hA : ∀ q : Nat, s.heap.size ≤ q → A q := fun q h => by rw [← hAe]; exact Or.inr h
  have hS : va_S A s.heap s.heap [] := va_S.rf
  have hl := lv_entry ([.ref o, .int 8, .int 7]) (n := 3) (Nat.le_of_ble_eq_true rfl)
  rw [lg_entry_eq]
  generalize (lg_sl ([.ref o, .int 8, .int 7]) ++ List.replicate (3 - (lg_sl ([.ref o, .int 8, .int 7])).length) Slot.unset).toArray = ls at hl ⊢
  have hl : lv_has ls 3 [(0, .ref o), (1, .int 8), (2, .int 7)] := hl
  obtain ⟨H, hH⟩ : ∃ H, H = s.heap := ⟨_, rfl⟩
  rw [← hH] at hP
  have hS : va_S A s.heap H [] := by rw [hH]; exact hS
  suffices hgo : W p l e _ s m _ below meth c H [] 0 0 _ _ by rw [hH] at hgo; exact hgo
  refine lv_aload_n hx hb dX3_init_0 rfl (lv_at hl 0 rfl) ?_
  refine W.objInit hx hb hown (ht _ wb105) (ht _ wb92) (ht _ wb93) rfl (by rw [hml]; exact hl.1) rfl dX3_init_1 (Nat.le_of_ble_eq_true rfl) (Nat.le_of_ble_eq_true rfl) ?_
  refine W.eq (g2 := F0 m 4 ls []) rfl ?_
  refine lv_aload_n hx hb dX3_init_4 rfl (lv_at hl 0 rfl) ?_
  refine lv_iconst (v := 0) hx hb dX3_init_5 (by decide) ?_
  refine lv_iload_n hx hb dX3_init_6 rfl (lv_at hl 1 rfl) ?_
  refine va_mmax hx hb (hml.trans hl.1.symm) hown (ht _ wb106) (ht _ wb107) (ht _ wb75) (ht _ wb108) (Nat.le_of_ble_eq_true rfl) (Nat.le_of_ble_eq_true rfl) (Nat.le_of_ble_eq_true rfl) (Nat.le_of_ble_eq_true rfl) dX3_init_7 ?_
  refine W.eq (g2 := F0 m 10 ls [.int 8, .ref o]) (by rw [if_pos (show (0 : Int32) < 8 by decide)]) ?_
  refine va_putF (D := D) (ci := 3) (v := .int 8) (ty := .int) (C := RX3) (T := TX3) (N := 4) hx hb ht hiX3 tyX3 tyX3_ok nmX3 hown hK hP hD hS 0 rfl rfl 0 (by decide) (ht _ wb109) (fun _ h9 => h9) rfl hin rfl (by decide +kernel) rfl rfl (Nat.le_of_ble_eq_true rfl) dX3_init_10 (fun H locs hP hD hS => ?_)
  have hP : va_P D vwCl [(o, .inr (3, [.int 8, .int 0, .null, .int 0]))] H := hP
  have hD : va_D A [(o, .inr (3, [.int 8, .int 0, .null, .int 0]))] := hD
  refine lv_aload_n hx hb dX3_init_13 rfl (lv_at hl 0 rfl) ?_
  refine lv_iconst (v := 0) hx hb dX3_init_14 (by decide) ?_
  refine lv_iload_n hx hb dX3_init_15 rfl (lv_at hl 2 rfl) ?_
  refine va_mmax hx hb (hml.trans hl.1.symm) hown (ht _ wb106) (ht _ wb107) (ht _ wb75) (ht _ wb108) (Nat.le_of_ble_eq_true rfl) (Nat.le_of_ble_eq_true rfl) (Nat.le_of_ble_eq_true rfl) (Nat.le_of_ble_eq_true rfl) dX3_init_16 ?_
  refine W.eq (g2 := F0 m 19 ls [.int 7, .ref o]) (by rw [if_pos (show (0 : Int32) < 7 by decide)]) ?_
  refine va_putF (D := D) (ci := 3) (v := .int 7) (ty := .int) (C := RX3) (T := TX3) (N := 4) hx hb ht hiX3 tyX3 tyX3_ok nmX3 hown hK hP hD hS 0 rfl rfl 1 (by decide) (ht _ wb110) (fun _ h9 => h9) rfl hin rfl (by decide +kernel) rfl rfl (Nat.le_of_ble_eq_true rfl) dX3_init_19 (fun H locs hP hD hS => ?_)
  have hP : va_P D vwCl [(o, .inr (3, [.int 8, .int 7, .null, .int 0]))] H := hP
  have hD : va_D A [(o, .inr (3, [.int 8, .int 7, .null, .int 0]))] := hD
  refine lv_aload_n hx hb dX3_init_22 rfl (lv_at hl 0 rfl) ?_
  refine lv_aload_n hx hb dX3_init_23 rfl (lv_at hl 0 rfl) ?_
  refine va_get (D := D) (ci := 3) (v := .int 8) (C := RX3) (T := TX3) (N := 4) hx hb ht hiX3 hown hK hP 0 rfl rfl 0 (by decide) (ht _ wb109) (fun _ h9 => h9) rfl dX3_init_24 ?_
  refine lv_aload_n hx hb dX3_init_27 rfl (lv_at hl 0 rfl) ?_
  refine va_get (D := D) (ci := 3) (v := .int 7) (C := RX3) (T := TX3) (N := 4) hx hb ht hiX3 hown hK hP 0 rfl rfl 1 (by decide) (ht _ wb110) (fun _ h9 => h9) rfl dX3_init_28 ?_
  refine lv_imul hx hb dX3_init_31 ?_
  refine W.eq (g2 := F0 m 32 ls [.int 56, .ref o]) (by rw [show (8 * 7 : Int32) = 56 by decide]) ?_
  refine va_newa (atype := .int) (ty := .int) (n := 56) (N' := 56) (a0 := (56, .inl (fun _ => 0))) hx hb (ht _ wb122) rfl hK hP hD hS hA (fun _ => rfl) (by decide) (by decide) (Nat.le_of_ble_eq_true rfl) (Nat.le_of_ble_eq_true rfl) (Nat.le_of_ble_eq_true rfl) dX3_init_32 (fun q1 cA H hKn hP hD hS => ?_)
  obtain rfl : cA = k 0 := newI hKn
  have hP : va_P D vwCl [(o, .inr (3, [.int 8, .int 7, .null, .int 0])), (q1, .inl (k 0, 56, .inl (fun _ => 0)))] H := hP
  have hD : va_D A [(o, .inr (3, [.int 8, .int 7, .null, .int 0])), (q1, .inl (k 0, 56, .inl (fun _ => 0)))] := hD
  refine W.widen (k := 1) (n := 56) (Nat.le_of_ble_eq_true rfl) (Nat.le_of_ble_eq_true rfl) ?_
  refine va_putF (D := D) (ci := 3) (v := .ref q1) (ty := .array .int) (C := RX3) (T := TX3) (N := 4) hx hb ht hiX3 tyX3 tyX3_ok nmX3 hown hK hP hD hS 0 rfl rfl 2 (by decide) (ht _ wb111) (fun _ h9 => h9) rfl hin rfl (by decide +kernel) rfl rfl (Nat.le_of_ble_eq_true rfl) dX3_init_34 (fun H locs hP hD hS => ?_)
  have hP : va_P D vwCl [(o, .inr (3, [.int 8, .int 7, .ref q1, .int 0])), (q1, .inl (k 0, 56, .inl (fun _ => 0)))] H := hP
  have hD : va_D A [(o, .inr (3, [.int 8, .int 7, .ref q1, .int 0])), (q1, .inl (k 0, 56, .inl (fun _ => 0)))] := hD
  exact W.vret hx hb hr (fun t ht9 hW => ⟨⟨(fun i => ([q1] : List Nat).getD i 0), rfl, trivial, zend ht9 hP, hD⟩, hS.F ht9⟩) hS.2.2 dX3_init_37
def B_X3_init_6_5 (k : Nat → Nat) (o : Nat) (q : Nat → Nat) : va_W := [(o, .inr (3, [.int 6, .int 5, .ref (q 0), .int 0])), ((q 0), .inl (k 0, 30, .inl (fun _ => 0)))]
abbrev wk_X3_init_6_5 : List Cond := Cond.code yX3_init cX3_init 3 none :: WB
abbrev rm_X3_init_6_5 : Room := { frames := 1, cells := 1, slots := 30, locals := 21 }
set_option maxHeartbeats 4000000 in
set_option maxRecDepth 100000 in
theorem c_X3_init_6_5 (l : Launch) (D : va_G) (k : Nat → Nat) (o : Nat) : Cn l yX3_init wk_X3_init_6_5 rm_X3_init_6_5 D k [.ref o, .int 6, .int 5] [(o, .inr (3, [.int 0, .int 0, .null, .int 0]))] (B_X3_init_6_5 k o) 1 30 := by
  intro sz
  refine Met.ofW (cc := cX3_init) (maxL := 3) (ret := none) (by decide) rfl ?_
  intro p e s m args below meth c s₁ B hml hv
  obtain ⟨rfl, hsz, hP, hK, hD0, hm⟩ := hv
  have hx := B.exec
  have hb := B.bytes
  have hr := B.returns
  have ht : ∀ w ∈ WB, w.before _ s = true := fun w hw => atoms_spec (ws := wk_X3_init_6_5) B.pre w (List.mem_cons_of_mem _ hw)
  have hown : s.vm.findClass RX3 = some m.cls := findClass_of_methodNamed B.named
  have hlocks := B.notSynchronized
  have hin : meth.name = "<init>" := (name_of_methodNamed B.named B.method).1
  subst hsz
  have hD := hD0.self (sz := s.heap.size)
  generalize hAe : va_A [(o, .inr (3, [.int 0, .int 0, .null, .int 0]))] s.heap.size = A at hD hm ⊢
  have hA : ∀ q : Nat, s.heap.size ≤ q → A q := fun q h => by rw [← hAe]; exact Or.inr h
  have hS : va_S A s.heap s.heap [] := va_S.rf
  have hl := lv_entry ([.ref o, .int 6, .int 5]) (n := 3) (Nat.le_of_ble_eq_true rfl)
  rw [lg_entry_eq]
  generalize (lg_sl ([.ref o, .int 6, .int 5]) ++ List.replicate (3 - (lg_sl ([.ref o, .int 6, .int 5])).length) Slot.unset).toArray = ls at hl ⊢
  have hl : lv_has ls 3 [(0, .ref o), (1, .int 6), (2, .int 5)] := hl
  obtain ⟨H, hH⟩ : ∃ H, H = s.heap := ⟨_, rfl⟩
  rw [← hH] at hP
  have hS : va_S A s.heap H [] := by rw [hH]; exact hS
  suffices hgo : W p l e _ s m _ below meth c H [] 0 0 _ _ by rw [hH] at hgo; exact hgo
  refine lv_aload_n hx hb dX3_init_0 rfl (lv_at hl 0 rfl) ?_
  refine W.objInit hx hb hown (ht _ wb105) (ht _ wb92) (ht _ wb93) rfl (by rw [hml]; exact hl.1) rfl dX3_init_1 (Nat.le_of_ble_eq_true rfl) (Nat.le_of_ble_eq_true rfl) ?_
  refine W.eq (g2 := F0 m 4 ls []) rfl ?_
  refine lv_aload_n hx hb dX3_init_4 rfl (lv_at hl 0 rfl) ?_
  refine lv_iconst (v := 0) hx hb dX3_init_5 (by decide) ?_
  refine lv_iload_n hx hb dX3_init_6 rfl (lv_at hl 1 rfl) ?_
  refine va_mmax hx hb (hml.trans hl.1.symm) hown (ht _ wb106) (ht _ wb107) (ht _ wb75) (ht _ wb108) (Nat.le_of_ble_eq_true rfl) (Nat.le_of_ble_eq_true rfl) (Nat.le_of_ble_eq_true rfl) (Nat.le_of_ble_eq_true rfl) dX3_init_7 ?_
  refine W.eq (g2 := F0 m 10 ls [.int 6, .ref o]) (by rw [if_pos (show (0 : Int32) < 6 by decide)]) ?_
  refine va_putF (D := D) (ci := 3) (v := .int 6) (ty := .int) (C := RX3) (T := TX3) (N := 4) hx hb ht hiX3 tyX3 tyX3_ok nmX3 hown hK hP hD hS 0 rfl rfl 0 (by decide) (ht _ wb109) (fun _ h9 => h9) rfl hin rfl (by decide +kernel) rfl rfl (Nat.le_of_ble_eq_true rfl) dX3_init_10 (fun H locs hP hD hS => ?_)
  have hP : va_P D vwCl [(o, .inr (3, [.int 6, .int 0, .null, .int 0]))] H := hP
  have hD : va_D A [(o, .inr (3, [.int 6, .int 0, .null, .int 0]))] := hD
  refine lv_aload_n hx hb dX3_init_13 rfl (lv_at hl 0 rfl) ?_
  refine lv_iconst (v := 0) hx hb dX3_init_14 (by decide) ?_
  refine lv_iload_n hx hb dX3_init_15 rfl (lv_at hl 2 rfl) ?_
  refine va_mmax hx hb (hml.trans hl.1.symm) hown (ht _ wb106) (ht _ wb107) (ht _ wb75) (ht _ wb108) (Nat.le_of_ble_eq_true rfl) (Nat.le_of_ble_eq_true rfl) (Nat.le_of_ble_eq_true rfl) (Nat.le_of_ble_eq_true rfl) dX3_init_16 ?_
  refine W.eq (g2 := F0 m 19 ls [.int 5, .ref o]) (by rw [if_pos (show (0 : Int32) < 5 by decide)]) ?_
  refine va_putF (D := D) (ci := 3) (v := .int 5) (ty := .int) (C := RX3) (T := TX3) (N := 4) hx hb ht hiX3 tyX3 tyX3_ok nmX3 hown hK hP hD hS 0 rfl rfl 1 (by decide) (ht _ wb110) (fun _ h9 => h9) rfl hin rfl (by decide +kernel) rfl rfl (Nat.le_of_ble_eq_true rfl) dX3_init_19 (fun H locs hP hD hS => ?_)
  have hP : va_P D vwCl [(o, .inr (3, [.int 6, .int 5, .null, .int 0]))] H := hP
  have hD : va_D A [(o, .inr (3, [.int 6, .int 5, .null, .int 0]))] := hD
  refine lv_aload_n hx hb dX3_init_22 rfl (lv_at hl 0 rfl) ?_
  refine lv_aload_n hx hb dX3_init_23 rfl (lv_at hl 0 rfl) ?_
  refine va_get (D := D) (ci := 3) (v := .int 6) (C := RX3) (T := TX3) (N := 4) hx hb ht hiX3 hown hK hP 0 rfl rfl 0 (by decide) (ht _ wb109) (fun _ h9 => h9) rfl dX3_init_24 ?_
  refine lv_aload_n hx hb dX3_init_27 rfl (lv_at hl 0 rfl) ?_
  refine va_get (D := D) (ci := 3) (v := .int 5) (C := RX3) (T := TX3) (N := 4) hx hb ht hiX3 hown hK hP 0 rfl rfl 1 (by decide) (ht _ wb110) (fun _ h9 => h9) rfl dX3_init_28 ?_
  refine lv_imul hx hb dX3_init_31 ?_
  refine W.eq (g2 := F0 m 32 ls [.int 30, .ref o]) (by rw [show (6 * 5 : Int32) = 30 by decide]) ?_
  refine va_newa (atype := .int) (ty := .int) (n := 30) (N' := 30) (a0 := (30, .inl (fun _ => 0))) hx hb (ht _ wb122) rfl hK hP hD hS hA (fun _ => rfl) (by decide) (by decide) (Nat.le_of_ble_eq_true rfl) (Nat.le_of_ble_eq_true rfl) (Nat.le_of_ble_eq_true rfl) dX3_init_32 (fun q1 cA H hKn hP hD hS => ?_)
  obtain rfl : cA = k 0 := newI hKn
  have hP : va_P D vwCl [(o, .inr (3, [.int 6, .int 5, .null, .int 0])), (q1, .inl (k 0, 30, .inl (fun _ => 0)))] H := hP
  have hD : va_D A [(o, .inr (3, [.int 6, .int 5, .null, .int 0])), (q1, .inl (k 0, 30, .inl (fun _ => 0)))] := hD
  refine W.widen (k := 1) (n := 30) (Nat.le_of_ble_eq_true rfl) (Nat.le_of_ble_eq_true rfl) ?_
  refine va_putF (D := D) (ci := 3) (v := .ref q1) (ty := .array .int) (C := RX3) (T := TX3) (N := 4) hx hb ht hiX3 tyX3 tyX3_ok nmX3 hown hK hP hD hS 0 rfl rfl 2 (by decide) (ht _ wb111) (fun _ h9 => h9) rfl hin rfl (by decide +kernel) rfl rfl (Nat.le_of_ble_eq_true rfl) dX3_init_34 (fun H locs hP hD hS => ?_)
  have hP : va_P D vwCl [(o, .inr (3, [.int 6, .int 5, .ref q1, .int 0])), (q1, .inl (k 0, 30, .inl (fun _ => 0)))] H := hP
  have hD : va_D A [(o, .inr (3, [.int 6, .int 5, .ref q1, .int 0])), (q1, .inl (k 0, 30, .inl (fun _ => 0)))] := hD
  exact W.vret hx hb hr (fun t ht9 hW => ⟨⟨(fun i => ([q1] : List Nat).getD i 0), rfl, trivial, zend ht9 hP, hD⟩, hS.F ht9⟩) hS.2.2 dX3_init_37
def B_X2_init (k : Nat → Nat) (o : Nat) (q : Nat → Nat) : va_W := [(o, .inr (2, [.ref (q 0), .ref (q 1), .ref (q 3), .ref (q 5), .ref (q 7), .ref (q 9), .ref (q 10), .int 0])), ((q 0), .inl (k 0, 32, .inl (fun _ => 0))), ((q 1), .inr (3, [.int 12, .int 11, .ref (q 2), .int 0])), ((q 2), .inl (k 0, 132, .inl (fun _ => 0))), ((q 3), .inr (3, [.int 12, .int 11, .ref (q 4), .int 0])), ((q 4), .inl (k 0, 132, .inl (fun _ => 0))), ((q 5), .inr (3, [.int 8, .int 7, .ref (q 6), .int 0])), ((q 6), .inl (k 0, 56, .inl (fun _ => 0))), ((q 7), .inr (3, [.int 6, .int 5, .ref (q 8), .int 0])), ((q 8), .inl (k 0, 30, .inl (fun _ => 0))), ((q 9), .inl (k 0, 7, .inl (va_cpy sSpa (fun _ => 0) (Int32.toNatClampNeg 0) (Int32.toNatClampNeg 0) (Int32.toNatClampNeg 7)))), ((q 10), .inl (k 0, 6, .inl (fun _ => 0)))]
abbrev wk_X2_init : List Cond := Cond.code yX2_init cX2_init 1 none :: WB
abbrev rm_X2_init : Room := { frames := 2, cells := 11, slots := 411, locals := 48 }
set_option maxHeartbeats 4000000 in
set_option maxRecDepth 100000 in
theorem c_X2_init (l : Launch) (D : va_G) (k : Nat → Nat) (o : Nat) : Cn l yX2_init wk_X2_init rm_X2_init D k [.ref o] [(o, .inr (2, [.null, .null, .null, .null, .null, .null, .null, .int 0]))] (B_X2_init k o) 11 411 := by
  intro sz
  refine Met.ofW (cc := cX2_init) (maxL := 1) (ret := none) (by decide) rfl ?_
  intro p e s m args below meth c s₁ B hml hv
  obtain ⟨rfl, hsz, hP, hK, hD0, hm⟩ := hv
  have hx := B.exec
  have hb := B.bytes
  have hr := B.returns
  have ht : ∀ w ∈ WB, w.before _ s = true := fun w hw => atoms_spec (ws := wk_X2_init) B.pre w (List.mem_cons_of_mem _ hw)
  have hown : s.vm.findClass RX2 = some m.cls := findClass_of_methodNamed B.named
  have hlocks := B.notSynchronized
  have hin : meth.name = "<init>" := (name_of_methodNamed B.named B.method).1
  subst hsz
  have hD := hD0.self (sz := s.heap.size)
  generalize hAe : va_A [(o, .inr (2, [.null, .null, .null, .null, .null, .null, .null, .int 0]))] s.heap.size = A at hD hm ⊢
  have hA : ∀ q : Nat, s.heap.size ≤ q → A q := fun q h => by rw [← hAe]; exact Or.inr h
  have hS : va_S A s.heap s.heap [] := va_S.rf
  have hl := lv_entry ([.ref o]) (n := 1) (Nat.le_of_ble_eq_true rfl)
  rw [lg_entry_eq]
  generalize (lg_sl ([.ref o]) ++ List.replicate (1 - (lg_sl ([.ref o])).length) Slot.unset).toArray = ls at hl ⊢
  have hl : lv_has ls 1 [(0, .ref o)] := hl
  obtain ⟨H, hH⟩ : ∃ H, H = s.heap := ⟨_, rfl⟩
  rw [← hH] at hP
  have hS : va_S A s.heap H [] := by rw [hH]; exact hS
  suffices hgo : W p l e _ s m _ below meth c H [] 0 0 _ _ by rw [hH] at hgo; exact hgo
  refine lv_aload_n hx hb dX2_init_0 rfl (lv_at hl 0 rfl) ?_
  refine W.objInit hx hb hown (ht _ wb99) (ht _ wb92) (ht _ wb93) rfl (by rw [hml]; exact hl.1) rfl dX2_init_1 (Nat.le_of_ble_eq_true rfl) (Nat.le_of_ble_eq_true rfl) ?_
  refine W.eq (g2 := F0 m 4 ls []) rfl ?_
  refine lv_aload_n hx hb dX2_init_4 rfl (lv_at hl 0 rfl) ?_
  refine lv_bipush (v := 32) hx hb dX2_init_5 (by decide) ?_
  refine va_newa (atype := .int) (ty := .int) (n := 32) (N' := 32) (a0 := (32, .inl (fun _ => 0))) hx hb (ht _ wb122) rfl hK hP hD hS hA (fun _ => rfl) (by decide) (by decide) (Nat.le_of_ble_eq_true rfl) (Nat.le_of_ble_eq_true rfl) (Nat.le_of_ble_eq_true rfl) dX2_init_7 (fun q1 cA H hKn hP hD hS => ?_)
  obtain rfl : cA = k 0 := newI hKn
  have hP : va_P D vwCl [(o, .inr (2, [.null, .null, .null, .null, .null, .null, .null, .int 0])), (q1, .inl (k 0, 32, .inl (fun _ => 0)))] H := hP
  have hD : va_D A [(o, .inr (2, [.null, .null, .null, .null, .null, .null, .null, .int 0])), (q1, .inl (k 0, 32, .inl (fun _ => 0)))] := hD
  refine W.widen (k := 1) (n := 32) (Nat.le_of_ble_eq_true rfl) (Nat.le_of_ble_eq_true rfl) ?_
  refine va_putF (D := D) (ci := 2) (v := .ref q1) (ty := .array .int) (C := RX2) (T := TX2) (N := 8) hx hb ht hiX2 tyX2 tyX2_ok nmX2 hown hK hP hD hS 0 rfl rfl 0 (by decide) (ht _ wb128) (fun _ h9 => h9) rfl hin rfl (by decide +kernel) rfl rfl (Nat.le_of_ble_eq_true rfl) dX2_init_9 (fun H locs hP hD hS => ?_)
  have hP : va_P D vwCl [(o, .inr (2, [.ref q1, .null, .null, .null, .null, .null, .null, .int 0])), (q1, .inl (k 0, 32, .inl (fun _ => 0)))] H := hP
  have hD : va_D A [(o, .inr (2, [.ref q1, .null, .null, .null, .null, .null, .null, .int 0])), (q1, .inl (k 0, 32, .inl (fun _ => 0)))] := hD
  refine lv_aload_n hx hb dX2_init_12 rfl (lv_at hl 0 rfl) ?_
  refine va_new (ci := 3) (fs := [.int 0, .int 0, .null, .int 0]) (C := RX3) (T := TX3) (N := 4) hx hb ht hiX3 tyX3 tyX3_ok hown (ht _ wb100) (ht _ wb101) (ht _ wb74) hK hP hD hS hA rfl (fun j hj => by rcases (show j = 0 ∨ j = 1 ∨ j = 2 ∨ j = 3 by omega) with rfl | rfl | rfl | rfl <;> rfl) (Nat.le_of_ble_eq_true rfl) (Nat.le_of_ble_eq_true rfl) dX2_init_13 (fun q2 H hP hD hS => ?_)
  have hP : va_P D vwCl [(o, .inr (2, [.ref q1, .null, .null, .null, .null, .null, .null, .int 0])), (q1, .inl (k 0, 32, .inl (fun _ => 0))), (q2, .inr (3, [.int 0, .int 0, .null, .int 0]))] H := hP
  have hD : va_D A [(o, .inr (2, [.ref q1, .null, .null, .null, .null, .null, .null, .int 0])), (q1, .inl (k 0, 32, .inl (fun _ => 0))), (q2, .inr (3, [.int 0, .int 0, .null, .int 0]))] := hD
  refine W.widen (k := 2) (n := 36) (Nat.le_of_ble_eq_true rfl) (Nat.le_of_ble_eq_true rfl) ?_
  refine lv_dup hx hb dX2_init_16 rfl ?_
  refine lv_bipush (v := 12) hx hb dX2_init_17 (by decide) ?_
  refine lv_bipush (v := 11) hx hb dX2_init_19 (by decide) ?_
  refine zn (wr := [(o, .inr (2, [.ref q1, .null, .null, .null, .null, .null, .null, .int 0])), (q1, .inl (k 0, 32, .inl (fun _ => 0)))]) (zrI (As := [.int 12, .int 11]) (rest := [.ref q2, .ref o]) ⟨hx, hb, hml, hown, ht⟩ (c_X3_init_12_11 l D k q2 _) (cwI 2 ht (gdN wb104) rfl rfl rfl (ht _ wb74) (ht _ wb102) (ht _ wb103) rfl (by decide +kernel) ⟨Nat.le_of_ble_eq_true rfl, Nat.le_of_ble_eq_true rfl⟩) hK hP hD hS hA hm [2] rfl rfl rfl hl.1 rfl (Nat.le_of_ble_eq_true rfl) dX2_init_21 ⟨Nat.le_of_ble_eq_true rfl, Nat.le_of_ble_eq_true rfl⟩) hP hD hS hA [2] [0, 1] rfl rfl (by decide) (by decide) (fun u3 H locs hP hD hS => ?_)
  have hP : va_P D vwCl [(o, .inr (2, [.ref q1, .null, .null, .null, .null, .null, .null, .int 0])), (q1, .inl (k 0, 32, .inl (fun _ => 0))), (q2, .inr (3, [.int 12, .int 11, .ref (u3 0), .int 0])), ((u3 0), .inl (k 0, 132, .inl (fun _ => 0)))] H := hP
  have hD : va_D A [(o, .inr (2, [.ref q1, .null, .null, .null, .null, .null, .null, .int 0])), (q1, .inl (k 0, 32, .inl (fun _ => 0))), (q2, .inr (3, [.int 12, .int 11, .ref (u3 0), .int 0])), ((u3 0), .inl (k 0, 132, .inl (fun _ => 0)))] := hD
  refine W.widen (k := 3) (n := 168) (Nat.le_of_ble_eq_true rfl) (Nat.le_of_ble_eq_true rfl) ?_
  refine va_putF (D := D) (ci := 2) (v := .ref q2) (ty := .object "ZoneGuard$Table") (C := RX2) (T := TX2) (N := 8) hx hb ht hiX2 tyX2 tyX2_ok nmX2 hown hK hP hD hS 0 rfl rfl 1 (by decide) (ht _ wb130) (fun _ h9 => h9) rfl hin rfl (by decide +kernel) rfl rfl (Nat.le_of_ble_eq_true rfl) dX2_init_24 (fun H locs hP hD hS => ?_)
  have hP : va_P D vwCl [(o, .inr (2, [.ref q1, .ref q2, .null, .null, .null, .null, .null, .int 0])), (q1, .inl (k 0, 32, .inl (fun _ => 0))), (q2, .inr (3, [.int 12, .int 11, .ref (u3 0), .int 0])), ((u3 0), .inl (k 0, 132, .inl (fun _ => 0)))] H := hP
  have hD : va_D A [(o, .inr (2, [.ref q1, .ref q2, .null, .null, .null, .null, .null, .int 0])), (q1, .inl (k 0, 32, .inl (fun _ => 0))), (q2, .inr (3, [.int 12, .int 11, .ref (u3 0), .int 0])), ((u3 0), .inl (k 0, 132, .inl (fun _ => 0)))] := hD
  refine lv_aload_n hx hb dX2_init_27 rfl (lv_at hl 0 rfl) ?_
  refine va_new (ci := 3) (fs := [.int 0, .int 0, .null, .int 0]) (C := RX3) (T := TX3) (N := 4) hx hb ht hiX3 tyX3 tyX3_ok hown (ht _ wb100) (ht _ wb101) (ht _ wb74) hK hP hD hS hA rfl (fun j hj => by rcases (show j = 0 ∨ j = 1 ∨ j = 2 ∨ j = 3 by omega) with rfl | rfl | rfl | rfl <;> rfl) (Nat.le_of_ble_eq_true rfl) (Nat.le_of_ble_eq_true rfl) dX2_init_28 (fun q4 H hP hD hS => ?_)
  have hP : va_P D vwCl [(o, .inr (2, [.ref q1, .ref q2, .null, .null, .null, .null, .null, .int 0])), (q1, .inl (k 0, 32, .inl (fun _ => 0))), (q2, .inr (3, [.int 12, .int 11, .ref (u3 0), .int 0])), ((u3 0), .inl (k 0, 132, .inl (fun _ => 0))), (q4, .inr (3, [.int 0, .int 0, .null, .int 0]))] H := hP
  have hD : va_D A [(o, .inr (2, [.ref q1, .ref q2, .null, .null, .null, .null, .null, .int 0])), (q1, .inl (k 0, 32, .inl (fun _ => 0))), (q2, .inr (3, [.int 12, .int 11, .ref (u3 0), .int 0])), ((u3 0), .inl (k 0, 132, .inl (fun _ => 0))), (q4, .inr (3, [.int 0, .int 0, .null, .int 0]))] := hD
  refine W.widen (k := 4) (n := 172) (Nat.le_of_ble_eq_true rfl) (Nat.le_of_ble_eq_true rfl) ?_
  refine lv_dup hx hb dX2_init_31 rfl ?_
  refine lv_bipush (v := 12) hx hb dX2_init_32 (by decide) ?_
  refine lv_bipush (v := 11) hx hb dX2_init_34 (by decide) ?_
  refine zn (wr := [(o, .inr (2, [.ref q1, .ref q2, .null, .null, .null, .null, .null, .int 0])), (q1, .inl (k 0, 32, .inl (fun _ => 0))), (q2, .inr (3, [.int 12, .int 11, .ref (u3 0), .int 0])), ((u3 0), .inl (k 0, 132, .inl (fun _ => 0)))]) (zrI (As := [.int 12, .int 11]) (rest := [.ref q4, .ref o]) ⟨hx, hb, hml, hown, ht⟩ (c_X3_init_12_11 l D k q4 _) (cwI 2 ht (gdN wb104) rfl rfl rfl (ht _ wb74) (ht _ wb102) (ht _ wb103) rfl (by decide +kernel) ⟨Nat.le_of_ble_eq_true rfl, Nat.le_of_ble_eq_true rfl⟩) hK hP hD hS hA hm [4] rfl rfl rfl hl.1 rfl (Nat.le_of_ble_eq_true rfl) dX2_init_36 ⟨Nat.le_of_ble_eq_true rfl, Nat.le_of_ble_eq_true rfl⟩) hP hD hS hA [4] [0, 1, 2, 3] rfl rfl (by decide) (by decide) (fun u5 H locs hP hD hS => ?_)
  have hP : va_P D vwCl [(o, .inr (2, [.ref q1, .ref q2, .null, .null, .null, .null, .null, .int 0])), (q1, .inl (k 0, 32, .inl (fun _ => 0))), (q2, .inr (3, [.int 12, .int 11, .ref (u3 0), .int 0])), ((u3 0), .inl (k 0, 132, .inl (fun _ => 0))), (q4, .inr (3, [.int 12, .int 11, .ref (u5 0), .int 0])), ((u5 0), .inl (k 0, 132, .inl (fun _ => 0)))] H := hP
  have hD : va_D A [(o, .inr (2, [.ref q1, .ref q2, .null, .null, .null, .null, .null, .int 0])), (q1, .inl (k 0, 32, .inl (fun _ => 0))), (q2, .inr (3, [.int 12, .int 11, .ref (u3 0), .int 0])), ((u3 0), .inl (k 0, 132, .inl (fun _ => 0))), (q4, .inr (3, [.int 12, .int 11, .ref (u5 0), .int 0])), ((u5 0), .inl (k 0, 132, .inl (fun _ => 0)))] := hD
  refine W.widen (k := 5) (n := 304) (Nat.le_of_ble_eq_true rfl) (Nat.le_of_ble_eq_true rfl) ?_
  refine va_putF (D := D) (ci := 2) (v := .ref q4) (ty := .object "ZoneGuard$Table") (C := RX2) (T := TX2) (N := 8) hx hb ht hiX2 tyX2 tyX2_ok nmX2 hown hK hP hD hS 0 rfl rfl 2 (by decide) (ht _ wb132) (fun _ h9 => h9) rfl hin rfl (by decide +kernel) rfl rfl (Nat.le_of_ble_eq_true rfl) dX2_init_39 (fun H locs hP hD hS => ?_)
  have hP : va_P D vwCl [(o, .inr (2, [.ref q1, .ref q2, .ref q4, .null, .null, .null, .null, .int 0])), (q1, .inl (k 0, 32, .inl (fun _ => 0))), (q2, .inr (3, [.int 12, .int 11, .ref (u3 0), .int 0])), ((u3 0), .inl (k 0, 132, .inl (fun _ => 0))), (q4, .inr (3, [.int 12, .int 11, .ref (u5 0), .int 0])), ((u5 0), .inl (k 0, 132, .inl (fun _ => 0)))] H := hP
  have hD : va_D A [(o, .inr (2, [.ref q1, .ref q2, .ref q4, .null, .null, .null, .null, .int 0])), (q1, .inl (k 0, 32, .inl (fun _ => 0))), (q2, .inr (3, [.int 12, .int 11, .ref (u3 0), .int 0])), ((u3 0), .inl (k 0, 132, .inl (fun _ => 0))), (q4, .inr (3, [.int 12, .int 11, .ref (u5 0), .int 0])), ((u5 0), .inl (k 0, 132, .inl (fun _ => 0)))] := hD
  refine lv_aload_n hx hb dX2_init_42 rfl (lv_at hl 0 rfl) ?_
  refine va_new (ci := 3) (fs := [.int 0, .int 0, .null, .int 0]) (C := RX3) (T := TX3) (N := 4) hx hb ht hiX3 tyX3 tyX3_ok hown (ht _ wb100) (ht _ wb101) (ht _ wb74) hK hP hD hS hA rfl (fun j hj => by rcases (show j = 0 ∨ j = 1 ∨ j = 2 ∨ j = 3 by omega) with rfl | rfl | rfl | rfl <;> rfl) (Nat.le_of_ble_eq_true rfl) (Nat.le_of_ble_eq_true rfl) dX2_init_43 (fun q6 H hP hD hS => ?_)
  have hP : va_P D vwCl [(o, .inr (2, [.ref q1, .ref q2, .ref q4, .null, .null, .null, .null, .int 0])), (q1, .inl (k 0, 32, .inl (fun _ => 0))), (q2, .inr (3, [.int 12, .int 11, .ref (u3 0), .int 0])), ((u3 0), .inl (k 0, 132, .inl (fun _ => 0))), (q4, .inr (3, [.int 12, .int 11, .ref (u5 0), .int 0])), ((u5 0), .inl (k 0, 132, .inl (fun _ => 0))), (q6, .inr (3, [.int 0, .int 0, .null, .int 0]))] H := hP
  have hD : va_D A [(o, .inr (2, [.ref q1, .ref q2, .ref q4, .null, .null, .null, .null, .int 0])), (q1, .inl (k 0, 32, .inl (fun _ => 0))), (q2, .inr (3, [.int 12, .int 11, .ref (u3 0), .int 0])), ((u3 0), .inl (k 0, 132, .inl (fun _ => 0))), (q4, .inr (3, [.int 12, .int 11, .ref (u5 0), .int 0])), ((u5 0), .inl (k 0, 132, .inl (fun _ => 0))), (q6, .inr (3, [.int 0, .int 0, .null, .int 0]))] := hD
  refine W.widen (k := 6) (n := 308) (Nat.le_of_ble_eq_true rfl) (Nat.le_of_ble_eq_true rfl) ?_
  refine lv_dup hx hb dX2_init_46 rfl ?_
  refine lv_bipush (v := 8) hx hb dX2_init_47 (by decide) ?_
  refine lv_bipush (v := 7) hx hb dX2_init_49 (by decide) ?_
  refine zn (wr := [(o, .inr (2, [.ref q1, .ref q2, .ref q4, .null, .null, .null, .null, .int 0])), (q1, .inl (k 0, 32, .inl (fun _ => 0))), (q2, .inr (3, [.int 12, .int 11, .ref (u3 0), .int 0])), ((u3 0), .inl (k 0, 132, .inl (fun _ => 0))), (q4, .inr (3, [.int 12, .int 11, .ref (u5 0), .int 0])), ((u5 0), .inl (k 0, 132, .inl (fun _ => 0)))]) (zrI (As := [.int 8, .int 7]) (rest := [.ref q6, .ref o]) ⟨hx, hb, hml, hown, ht⟩ (c_X3_init_8_7 l D k q6 _) (cwI 2 ht (gdN wb104) rfl rfl rfl (ht _ wb74) (ht _ wb102) (ht _ wb103) rfl (by decide +kernel) ⟨Nat.le_of_ble_eq_true rfl, Nat.le_of_ble_eq_true rfl⟩) hK hP hD hS hA hm [6] rfl rfl rfl hl.1 rfl (Nat.le_of_ble_eq_true rfl) dX2_init_51 ⟨Nat.le_of_ble_eq_true rfl, Nat.le_of_ble_eq_true rfl⟩) hP hD hS hA [6] [0, 1, 2, 3, 4, 5] rfl rfl (by decide) (by decide) (fun u7 H locs hP hD hS => ?_)
  have hP : va_P D vwCl [(o, .inr (2, [.ref q1, .ref q2, .ref q4, .null, .null, .null, .null, .int 0])), (q1, .inl (k 0, 32, .inl (fun _ => 0))), (q2, .inr (3, [.int 12, .int 11, .ref (u3 0), .int 0])), ((u3 0), .inl (k 0, 132, .inl (fun _ => 0))), (q4, .inr (3, [.int 12, .int 11, .ref (u5 0), .int 0])), ((u5 0), .inl (k 0, 132, .inl (fun _ => 0))), (q6, .inr (3, [.int 8, .int 7, .ref (u7 0), .int 0])), ((u7 0), .inl (k 0, 56, .inl (fun _ => 0)))] H := hP
  have hD : va_D A [(o, .inr (2, [.ref q1, .ref q2, .ref q4, .null, .null, .null, .null, .int 0])), (q1, .inl (k 0, 32, .inl (fun _ => 0))), (q2, .inr (3, [.int 12, .int 11, .ref (u3 0), .int 0])), ((u3 0), .inl (k 0, 132, .inl (fun _ => 0))), (q4, .inr (3, [.int 12, .int 11, .ref (u5 0), .int 0])), ((u5 0), .inl (k 0, 132, .inl (fun _ => 0))), (q6, .inr (3, [.int 8, .int 7, .ref (u7 0), .int 0])), ((u7 0), .inl (k 0, 56, .inl (fun _ => 0)))] := hD
  refine W.widen (k := 7) (n := 364) (Nat.le_of_ble_eq_true rfl) (Nat.le_of_ble_eq_true rfl) ?_
  refine va_putF (D := D) (ci := 2) (v := .ref q6) (ty := .object "ZoneGuard$Table") (C := RX2) (T := TX2) (N := 8) hx hb ht hiX2 tyX2 tyX2_ok nmX2 hown hK hP hD hS 0 rfl rfl 3 (by decide) (ht _ wb134) (fun _ h9 => h9) rfl hin rfl (by decide +kernel) rfl rfl (Nat.le_of_ble_eq_true rfl) dX2_init_54 (fun H locs hP hD hS => ?_)
  have hP : va_P D vwCl [(o, .inr (2, [.ref q1, .ref q2, .ref q4, .ref q6, .null, .null, .null, .int 0])), (q1, .inl (k 0, 32, .inl (fun _ => 0))), (q2, .inr (3, [.int 12, .int 11, .ref (u3 0), .int 0])), ((u3 0), .inl (k 0, 132, .inl (fun _ => 0))), (q4, .inr (3, [.int 12, .int 11, .ref (u5 0), .int 0])), ((u5 0), .inl (k 0, 132, .inl (fun _ => 0))), (q6, .inr (3, [.int 8, .int 7, .ref (u7 0), .int 0])), ((u7 0), .inl (k 0, 56, .inl (fun _ => 0)))] H := hP
  have hD : va_D A [(o, .inr (2, [.ref q1, .ref q2, .ref q4, .ref q6, .null, .null, .null, .int 0])), (q1, .inl (k 0, 32, .inl (fun _ => 0))), (q2, .inr (3, [.int 12, .int 11, .ref (u3 0), .int 0])), ((u3 0), .inl (k 0, 132, .inl (fun _ => 0))), (q4, .inr (3, [.int 12, .int 11, .ref (u5 0), .int 0])), ((u5 0), .inl (k 0, 132, .inl (fun _ => 0))), (q6, .inr (3, [.int 8, .int 7, .ref (u7 0), .int 0])), ((u7 0), .inl (k 0, 56, .inl (fun _ => 0)))] := hD
  refine lv_aload_n hx hb dX2_init_57 rfl (lv_at hl 0 rfl) ?_
  refine va_new (ci := 3) (fs := [.int 0, .int 0, .null, .int 0]) (C := RX3) (T := TX3) (N := 4) hx hb ht hiX3 tyX3 tyX3_ok hown (ht _ wb100) (ht _ wb101) (ht _ wb74) hK hP hD hS hA rfl (fun j hj => by rcases (show j = 0 ∨ j = 1 ∨ j = 2 ∨ j = 3 by omega) with rfl | rfl | rfl | rfl <;> rfl) (Nat.le_of_ble_eq_true rfl) (Nat.le_of_ble_eq_true rfl) dX2_init_58 (fun q8 H hP hD hS => ?_)
  have hP : va_P D vwCl [(o, .inr (2, [.ref q1, .ref q2, .ref q4, .ref q6, .null, .null, .null, .int 0])), (q1, .inl (k 0, 32, .inl (fun _ => 0))), (q2, .inr (3, [.int 12, .int 11, .ref (u3 0), .int 0])), ((u3 0), .inl (k 0, 132, .inl (fun _ => 0))), (q4, .inr (3, [.int 12, .int 11, .ref (u5 0), .int 0])), ((u5 0), .inl (k 0, 132, .inl (fun _ => 0))), (q6, .inr (3, [.int 8, .int 7, .ref (u7 0), .int 0])), ((u7 0), .inl (k 0, 56, .inl (fun _ => 0))), (q8, .inr (3, [.int 0, .int 0, .null, .int 0]))] H := hP
  have hD : va_D A [(o, .inr (2, [.ref q1, .ref q2, .ref q4, .ref q6, .null, .null, .null, .int 0])), (q1, .inl (k 0, 32, .inl (fun _ => 0))), (q2, .inr (3, [.int 12, .int 11, .ref (u3 0), .int 0])), ((u3 0), .inl (k 0, 132, .inl (fun _ => 0))), (q4, .inr (3, [.int 12, .int 11, .ref (u5 0), .int 0])), ((u5 0), .inl (k 0, 132, .inl (fun _ => 0))), (q6, .inr (3, [.int 8, .int 7, .ref (u7 0), .int 0])), ((u7 0), .inl (k 0, 56, .inl (fun _ => 0))), (q8, .inr (3, [.int 0, .int 0, .null, .int 0]))] := hD
  refine W.widen (k := 8) (n := 368) (Nat.le_of_ble_eq_true rfl) (Nat.le_of_ble_eq_true rfl) ?_
  refine lv_dup hx hb dX2_init_61 rfl ?_
  refine lv_bipush (v := 6) hx hb dX2_init_62 (by decide) ?_
  refine lv_iconst (v := 5) hx hb dX2_init_64 (by decide) ?_
  refine zn (wr := [(o, .inr (2, [.ref q1, .ref q2, .ref q4, .ref q6, .null, .null, .null, .int 0])), (q1, .inl (k 0, 32, .inl (fun _ => 0))), (q2, .inr (3, [.int 12, .int 11, .ref (u3 0), .int 0])), ((u3 0), .inl (k 0, 132, .inl (fun _ => 0))), (q4, .inr (3, [.int 12, .int 11, .ref (u5 0), .int 0])), ((u5 0), .inl (k 0, 132, .inl (fun _ => 0))), (q6, .inr (3, [.int 8, .int 7, .ref (u7 0), .int 0])), ((u7 0), .inl (k 0, 56, .inl (fun _ => 0)))]) (zrI (As := [.int 6, .int 5]) (rest := [.ref q8, .ref o]) ⟨hx, hb, hml, hown, ht⟩ (c_X3_init_6_5 l D k q8 _) (cwI 2 ht (gdN wb104) rfl rfl rfl (ht _ wb74) (ht _ wb102) (ht _ wb103) rfl (by decide +kernel) ⟨Nat.le_of_ble_eq_true rfl, Nat.le_of_ble_eq_true rfl⟩) hK hP hD hS hA hm [8] rfl rfl rfl hl.1 rfl (Nat.le_of_ble_eq_true rfl) dX2_init_65 ⟨Nat.le_of_ble_eq_true rfl, Nat.le_of_ble_eq_true rfl⟩) hP hD hS hA [8] [0, 1, 2, 3, 4, 5, 6, 7] rfl rfl (by decide) (by decide) (fun u9 H locs hP hD hS => ?_)
  have hP : va_P D vwCl [(o, .inr (2, [.ref q1, .ref q2, .ref q4, .ref q6, .null, .null, .null, .int 0])), (q1, .inl (k 0, 32, .inl (fun _ => 0))), (q2, .inr (3, [.int 12, .int 11, .ref (u3 0), .int 0])), ((u3 0), .inl (k 0, 132, .inl (fun _ => 0))), (q4, .inr (3, [.int 12, .int 11, .ref (u5 0), .int 0])), ((u5 0), .inl (k 0, 132, .inl (fun _ => 0))), (q6, .inr (3, [.int 8, .int 7, .ref (u7 0), .int 0])), ((u7 0), .inl (k 0, 56, .inl (fun _ => 0))), (q8, .inr (3, [.int 6, .int 5, .ref (u9 0), .int 0])), ((u9 0), .inl (k 0, 30, .inl (fun _ => 0)))] H := hP
  have hD : va_D A [(o, .inr (2, [.ref q1, .ref q2, .ref q4, .ref q6, .null, .null, .null, .int 0])), (q1, .inl (k 0, 32, .inl (fun _ => 0))), (q2, .inr (3, [.int 12, .int 11, .ref (u3 0), .int 0])), ((u3 0), .inl (k 0, 132, .inl (fun _ => 0))), (q4, .inr (3, [.int 12, .int 11, .ref (u5 0), .int 0])), ((u5 0), .inl (k 0, 132, .inl (fun _ => 0))), (q6, .inr (3, [.int 8, .int 7, .ref (u7 0), .int 0])), ((u7 0), .inl (k 0, 56, .inl (fun _ => 0))), (q8, .inr (3, [.int 6, .int 5, .ref (u9 0), .int 0])), ((u9 0), .inl (k 0, 30, .inl (fun _ => 0)))] := hD
  refine W.widen (k := 9) (n := 398) (Nat.le_of_ble_eq_true rfl) (Nat.le_of_ble_eq_true rfl) ?_
  refine va_putF (D := D) (ci := 2) (v := .ref q8) (ty := .object "ZoneGuard$Table") (C := RX2) (T := TX2) (N := 8) hx hb ht hiX2 tyX2 tyX2_ok nmX2 hown hK hP hD hS 0 rfl rfl 4 (by decide) (ht _ wb136) (fun _ h9 => h9) rfl hin rfl (by decide +kernel) rfl rfl (Nat.le_of_ble_eq_true rfl) dX2_init_68 (fun H locs hP hD hS => ?_)
  have hP : va_P D vwCl [(o, .inr (2, [.ref q1, .ref q2, .ref q4, .ref q6, .ref q8, .null, .null, .int 0])), (q1, .inl (k 0, 32, .inl (fun _ => 0))), (q2, .inr (3, [.int 12, .int 11, .ref (u3 0), .int 0])), ((u3 0), .inl (k 0, 132, .inl (fun _ => 0))), (q4, .inr (3, [.int 12, .int 11, .ref (u5 0), .int 0])), ((u5 0), .inl (k 0, 132, .inl (fun _ => 0))), (q6, .inr (3, [.int 8, .int 7, .ref (u7 0), .int 0])), ((u7 0), .inl (k 0, 56, .inl (fun _ => 0))), (q8, .inr (3, [.int 6, .int 5, .ref (u9 0), .int 0])), ((u9 0), .inl (k 0, 30, .inl (fun _ => 0)))] H := hP
  have hD : va_D A [(o, .inr (2, [.ref q1, .ref q2, .ref q4, .ref q6, .ref q8, .null, .null, .int 0])), (q1, .inl (k 0, 32, .inl (fun _ => 0))), (q2, .inr (3, [.int 12, .int 11, .ref (u3 0), .int 0])), ((u3 0), .inl (k 0, 132, .inl (fun _ => 0))), (q4, .inr (3, [.int 12, .int 11, .ref (u5 0), .int 0])), ((u5 0), .inl (k 0, 132, .inl (fun _ => 0))), (q6, .inr (3, [.int 8, .int 7, .ref (u7 0), .int 0])), ((u7 0), .inl (k 0, 56, .inl (fun _ => 0))), (q8, .inr (3, [.int 6, .int 5, .ref (u9 0), .int 0])), ((u9 0), .inl (k 0, 30, .inl (fun _ => 0)))] := hD
  refine lv_aload_n hx hb dX2_init_71 rfl (lv_at hl 0 rfl) ?_
  refine lv_bipush (v := 7) hx hb dX2_init_72 (by decide) ?_
  refine va_newa (atype := .int) (ty := .int) (n := 7) (N' := 7) (a0 := (7, .inl (fun _ => 0))) hx hb (ht _ wb122) rfl hK hP hD hS hA (fun _ => rfl) (by decide) (by decide) (Nat.le_of_ble_eq_true rfl) (Nat.le_of_ble_eq_true rfl) (Nat.le_of_ble_eq_true rfl) dX2_init_74 (fun q10 cA H hKn hP hD hS => ?_)
  obtain rfl : cA = k 0 := newI hKn
  have hP : va_P D vwCl [(o, .inr (2, [.ref q1, .ref q2, .ref q4, .ref q6, .ref q8, .null, .null, .int 0])), (q1, .inl (k 0, 32, .inl (fun _ => 0))), (q2, .inr (3, [.int 12, .int 11, .ref (u3 0), .int 0])), ((u3 0), .inl (k 0, 132, .inl (fun _ => 0))), (q4, .inr (3, [.int 12, .int 11, .ref (u5 0), .int 0])), ((u5 0), .inl (k 0, 132, .inl (fun _ => 0))), (q6, .inr (3, [.int 8, .int 7, .ref (u7 0), .int 0])), ((u7 0), .inl (k 0, 56, .inl (fun _ => 0))), (q8, .inr (3, [.int 6, .int 5, .ref (u9 0), .int 0])), ((u9 0), .inl (k 0, 30, .inl (fun _ => 0))), (q10, .inl (k 0, 7, .inl (fun _ => 0)))] H := hP
  have hD : va_D A [(o, .inr (2, [.ref q1, .ref q2, .ref q4, .ref q6, .ref q8, .null, .null, .int 0])), (q1, .inl (k 0, 32, .inl (fun _ => 0))), (q2, .inr (3, [.int 12, .int 11, .ref (u3 0), .int 0])), ((u3 0), .inl (k 0, 132, .inl (fun _ => 0))), (q4, .inr (3, [.int 12, .int 11, .ref (u5 0), .int 0])), ((u5 0), .inl (k 0, 132, .inl (fun _ => 0))), (q6, .inr (3, [.int 8, .int 7, .ref (u7 0), .int 0])), ((u7 0), .inl (k 0, 56, .inl (fun _ => 0))), (q8, .inr (3, [.int 6, .int 5, .ref (u9 0), .int 0])), ((u9 0), .inl (k 0, 30, .inl (fun _ => 0))), (q10, .inl (k 0, 7, .inl (fun _ => 0)))] := hD
  refine W.widen (k := 10) (n := 405) (Nat.le_of_ble_eq_true rfl) (Nat.le_of_ble_eq_true rfl) ?_
  refine va_putF (D := D) (ci := 2) (v := .ref q10) (ty := .array .int) (C := RX2) (T := TX2) (N := 8) hx hb ht hiX2 tyX2 tyX2_ok nmX2 hown hK hP hD hS 0 rfl rfl 5 (by decide) (ht _ wb138) (fun _ h9 => h9) rfl hin rfl (by decide +kernel) rfl rfl (Nat.le_of_ble_eq_true rfl) dX2_init_76 (fun H locs hP hD hS => ?_)
  have hP : va_P D vwCl [(o, .inr (2, [.ref q1, .ref q2, .ref q4, .ref q6, .ref q8, .ref q10, .null, .int 0])), (q1, .inl (k 0, 32, .inl (fun _ => 0))), (q2, .inr (3, [.int 12, .int 11, .ref (u3 0), .int 0])), ((u3 0), .inl (k 0, 132, .inl (fun _ => 0))), (q4, .inr (3, [.int 12, .int 11, .ref (u5 0), .int 0])), ((u5 0), .inl (k 0, 132, .inl (fun _ => 0))), (q6, .inr (3, [.int 8, .int 7, .ref (u7 0), .int 0])), ((u7 0), .inl (k 0, 56, .inl (fun _ => 0))), (q8, .inr (3, [.int 6, .int 5, .ref (u9 0), .int 0])), ((u9 0), .inl (k 0, 30, .inl (fun _ => 0))), (q10, .inl (k 0, 7, .inl (fun _ => 0)))] H := hP
  have hD : va_D A [(o, .inr (2, [.ref q1, .ref q2, .ref q4, .ref q6, .ref q8, .ref q10, .null, .int 0])), (q1, .inl (k 0, 32, .inl (fun _ => 0))), (q2, .inr (3, [.int 12, .int 11, .ref (u3 0), .int 0])), ((u3 0), .inl (k 0, 132, .inl (fun _ => 0))), (q4, .inr (3, [.int 12, .int 11, .ref (u5 0), .int 0])), ((u5 0), .inl (k 0, 132, .inl (fun _ => 0))), (q6, .inr (3, [.int 8, .int 7, .ref (u7 0), .int 0])), ((u7 0), .inl (k 0, 56, .inl (fun _ => 0))), (q8, .inr (3, [.int 6, .int 5, .ref (u9 0), .int 0])), ((u9 0), .inl (k 0, 30, .inl (fun _ => 0))), (q10, .inl (k 0, 7, .inl (fun _ => 0)))] := hD
  refine lv_aload_n hx hb dX2_init_79 rfl (lv_at hl 0 rfl) ?_
  refine lv_bipush (v := 6) hx hb dX2_init_80 (by decide) ?_
  refine va_newa (atype := .int) (ty := .int) (n := 6) (N' := 6) (a0 := (6, .inl (fun _ => 0))) hx hb (ht _ wb122) rfl hK hP hD hS hA (fun _ => rfl) (by decide) (by decide) (Nat.le_of_ble_eq_true rfl) (Nat.le_of_ble_eq_true rfl) (Nat.le_of_ble_eq_true rfl) dX2_init_82 (fun q11 cA H hKn hP hD hS => ?_)
  obtain rfl : cA = k 0 := newI hKn
  have hP : va_P D vwCl [(o, .inr (2, [.ref q1, .ref q2, .ref q4, .ref q6, .ref q8, .ref q10, .null, .int 0])), (q1, .inl (k 0, 32, .inl (fun _ => 0))), (q2, .inr (3, [.int 12, .int 11, .ref (u3 0), .int 0])), ((u3 0), .inl (k 0, 132, .inl (fun _ => 0))), (q4, .inr (3, [.int 12, .int 11, .ref (u5 0), .int 0])), ((u5 0), .inl (k 0, 132, .inl (fun _ => 0))), (q6, .inr (3, [.int 8, .int 7, .ref (u7 0), .int 0])), ((u7 0), .inl (k 0, 56, .inl (fun _ => 0))), (q8, .inr (3, [.int 6, .int 5, .ref (u9 0), .int 0])), ((u9 0), .inl (k 0, 30, .inl (fun _ => 0))), (q10, .inl (k 0, 7, .inl (fun _ => 0))), (q11, .inl (k 0, 6, .inl (fun _ => 0)))] H := hP
  have hD : va_D A [(o, .inr (2, [.ref q1, .ref q2, .ref q4, .ref q6, .ref q8, .ref q10, .null, .int 0])), (q1, .inl (k 0, 32, .inl (fun _ => 0))), (q2, .inr (3, [.int 12, .int 11, .ref (u3 0), .int 0])), ((u3 0), .inl (k 0, 132, .inl (fun _ => 0))), (q4, .inr (3, [.int 12, .int 11, .ref (u5 0), .int 0])), ((u5 0), .inl (k 0, 132, .inl (fun _ => 0))), (q6, .inr (3, [.int 8, .int 7, .ref (u7 0), .int 0])), ((u7 0), .inl (k 0, 56, .inl (fun _ => 0))), (q8, .inr (3, [.int 6, .int 5, .ref (u9 0), .int 0])), ((u9 0), .inl (k 0, 30, .inl (fun _ => 0))), (q10, .inl (k 0, 7, .inl (fun _ => 0))), (q11, .inl (k 0, 6, .inl (fun _ => 0)))] := hD
  refine W.widen (k := 11) (n := 411) (Nat.le_of_ble_eq_true rfl) (Nat.le_of_ble_eq_true rfl) ?_
  refine va_putF (D := D) (ci := 2) (v := .ref q11) (ty := .array .int) (C := RX2) (T := TX2) (N := 8) hx hb ht hiX2 tyX2 tyX2_ok nmX2 hown hK hP hD hS 0 rfl rfl 6 (by decide) (ht _ wb140) (fun _ h9 => h9) rfl hin rfl (by decide +kernel) rfl rfl (Nat.le_of_ble_eq_true rfl) dX2_init_84 (fun H locs hP hD hS => ?_)
  have hP : va_P D vwCl [(o, .inr (2, [.ref q1, .ref q2, .ref q4, .ref q6, .ref q8, .ref q10, .ref q11, .int 0])), (q1, .inl (k 0, 32, .inl (fun _ => 0))), (q2, .inr (3, [.int 12, .int 11, .ref (u3 0), .int 0])), ((u3 0), .inl (k 0, 132, .inl (fun _ => 0))), (q4, .inr (3, [.int 12, .int 11, .ref (u5 0), .int 0])), ((u5 0), .inl (k 0, 132, .inl (fun _ => 0))), (q6, .inr (3, [.int 8, .int 7, .ref (u7 0), .int 0])), ((u7 0), .inl (k 0, 56, .inl (fun _ => 0))), (q8, .inr (3, [.int 6, .int 5, .ref (u9 0), .int 0])), ((u9 0), .inl (k 0, 30, .inl (fun _ => 0))), (q10, .inl (k 0, 7, .inl (fun _ => 0))), (q11, .inl (k 0, 6, .inl (fun _ => 0)))] H := hP
  have hD : va_D A [(o, .inr (2, [.ref q1, .ref q2, .ref q4, .ref q6, .ref q8, .ref q10, .ref q11, .int 0])), (q1, .inl (k 0, 32, .inl (fun _ => 0))), (q2, .inr (3, [.int 12, .int 11, .ref (u3 0), .int 0])), ((u3 0), .inl (k 0, 132, .inl (fun _ => 0))), (q4, .inr (3, [.int 12, .int 11, .ref (u5 0), .int 0])), ((u5 0), .inl (k 0, 132, .inl (fun _ => 0))), (q6, .inr (3, [.int 8, .int 7, .ref (u7 0), .int 0])), ((u7 0), .inl (k 0, 56, .inl (fun _ => 0))), (q8, .inr (3, [.int 6, .int 5, .ref (u9 0), .int 0])), ((u9 0), .inl (k 0, 30, .inl (fun _ => 0))), (q10, .inl (k 0, 7, .inl (fun _ => 0))), (q11, .inl (k 0, 6, .inl (fun _ => 0)))] := hD
  refine va_getsN hx hb hm.2.2.2.1.1 hS hown (va_Nw.use rfl (hm.1 _ (List.mem_of_getElem? (i := 0) rfl))) (fun _ h9 => h9) dX2_init_87 ?_
  refine lv_iconst (v := 0) hx hb dX2_init_90 (by decide) ?_
  refine lv_aload_n hx hb dX2_init_91 rfl (lv_at hl 0 rfl) ?_
  refine va_get (D := D) (ci := 2) (v := .ref q10) (C := RX2) (T := TX2) (N := 8) hx hb ht hiX2 hown hK hP 0 rfl rfl 5 (by decide) (ht _ wb138) (fun _ h9 => h9) rfl dX2_init_92 ?_
  refine lv_iconst (v := 0) hx hb dX2_init_95 (by decide) ?_
  refine lv_bipush (v := 7) hx hb dX2_init_96 (by decide) ?_
  refine zcpT hx hb (hml.trans hl.1.symm) hown (ht _ wb125) (ht _ wb127) (ht _ wb126) (ht _ wb76) hK hP hD hS hm.2.2.2.1.2 10 0 rfl rfl (by decide) (by decide) (by decide) (by decide) (by decide) (Nat.le_of_ble_eq_true rfl) (by decide) dX2_init_98 (fun H locs hP hD hS => ?_)
  have hP : va_P D vwCl [(o, .inr (2, [.ref q1, .ref q2, .ref q4, .ref q6, .ref q8, .ref q10, .ref q11, .int 0])), (q1, .inl (k 0, 32, .inl (fun _ => 0))), (q2, .inr (3, [.int 12, .int 11, .ref (u3 0), .int 0])), ((u3 0), .inl (k 0, 132, .inl (fun _ => 0))), (q4, .inr (3, [.int 12, .int 11, .ref (u5 0), .int 0])), ((u5 0), .inl (k 0, 132, .inl (fun _ => 0))), (q6, .inr (3, [.int 8, .int 7, .ref (u7 0), .int 0])), ((u7 0), .inl (k 0, 56, .inl (fun _ => 0))), (q8, .inr (3, [.int 6, .int 5, .ref (u9 0), .int 0])), ((u9 0), .inl (k 0, 30, .inl (fun _ => 0))), (q10, .inl (k 0, 7, .inl (va_cpy sSpa (fun _ => 0) (Int32.toNatClampNeg 0) (Int32.toNatClampNeg 0) (Int32.toNatClampNeg 7)))), (q11, .inl (k 0, 6, .inl (fun _ => 0)))] H := hP
  have hD : va_D A [(o, .inr (2, [.ref q1, .ref q2, .ref q4, .ref q6, .ref q8, .ref q10, .ref q11, .int 0])), (q1, .inl (k 0, 32, .inl (fun _ => 0))), (q2, .inr (3, [.int 12, .int 11, .ref (u3 0), .int 0])), ((u3 0), .inl (k 0, 132, .inl (fun _ => 0))), (q4, .inr (3, [.int 12, .int 11, .ref (u5 0), .int 0])), ((u5 0), .inl (k 0, 132, .inl (fun _ => 0))), (q6, .inr (3, [.int 8, .int 7, .ref (u7 0), .int 0])), ((u7 0), .inl (k 0, 56, .inl (fun _ => 0))), (q8, .inr (3, [.int 6, .int 5, .ref (u9 0), .int 0])), ((u9 0), .inl (k 0, 30, .inl (fun _ => 0))), (q10, .inl (k 0, 7, .inl (va_cpy sSpa (fun _ => 0) (Int32.toNatClampNeg 0) (Int32.toNatClampNeg 0) (Int32.toNatClampNeg 7)))), (q11, .inl (k 0, 6, .inl (fun _ => 0)))] := hD
  exact W.vret hx hb hr (fun t ht9 hW => ⟨⟨(fun i => ([q1, q2, (u3 0), q4, (u5 0), q6, (u7 0), q8, (u9 0), q10, q11] : List Nat).getD i 0), rfl, trivial, zend ht9 hP, hD⟩, hS.F ht9⟩) hS.2.2 dX2_init_101
def B_X1_init (k : Nat → Nat) (o : Nat) (q : Nat → Nat) : va_W := [(o, .inr (1, [.ref (q 0), .ref (q 1), .ref (q 2), .ref (q 3), .int 0, .int 0, .int 0, .int 0])), ((q 0), .inl (k 0, 32, .inl (fun _ => 0))), ((q 1), .inl (k 0, 32, .inl (fun _ => 0))), ((q 2), .inl (k 0, 12, .inl (fun _ => 0))), ((q 3), .inl (k 0, 12, .inl (fun _ => 0)))]
abbrev wk_X1_init : List Cond := Cond.code yX1_init cX1_init 1 none :: WB
abbrev rm_X1_init : Room := { frames := 1, cells := 4, slots := 88, locals := 12 }
set_option maxHeartbeats 4000000 in
set_option maxRecDepth 100000 in
theorem c_X1_init (l : Launch) (D : va_G) (k : Nat → Nat) (o : Nat) : Cn l yX1_init wk_X1_init rm_X1_init D k [.ref o] [(o, .inr (1, [.null, .null, .null, .null, .int 0, .int 0, .int 0, .int 0]))] (B_X1_init k o) 4 88 := by
  intro sz
  refine Met.ofW (cc := cX1_init) (maxL := 1) (ret := none) (by decide) rfl ?_
  intro p e s m args below meth c s₁ B hml hv
  obtain ⟨rfl, hsz, hP, hK, hD0, hm⟩ := hv
  have hx := B.exec
  have hb := B.bytes
  have hr := B.returns
  have ht : ∀ w ∈ WB, w.before _ s = true := fun w hw => atoms_spec (ws := wk_X1_init) B.pre w (List.mem_cons_of_mem _ hw)
  have hown : s.vm.findClass RX1 = some m.cls := findClass_of_methodNamed B.named
  have hlocks := B.notSynchronized
  have hin : meth.name = "<init>" := (name_of_methodNamed B.named B.method).1
  subst hsz
  have hD := hD0.self (sz := s.heap.size)
  generalize hAe : va_A [(o, .inr (1, [.null, .null, .null, .null, .int 0, .int 0, .int 0, .int 0]))] s.heap.size = A at hD hm ⊢
  have hA : ∀ q : Nat, s.heap.size ≤ q → A q := fun q h => by rw [← hAe]; exact Or.inr h
  have hS : va_S A s.heap s.heap [] := va_S.rf
  have hl := lv_entry ([.ref o]) (n := 1) (Nat.le_of_ble_eq_true rfl)
  rw [lg_entry_eq]
  generalize (lg_sl ([.ref o]) ++ List.replicate (1 - (lg_sl ([.ref o])).length) Slot.unset).toArray = ls at hl ⊢
  have hl : lv_has ls 1 [(0, .ref o)] := hl
  obtain ⟨H, hH⟩ : ∃ H, H = s.heap := ⟨_, rfl⟩
  rw [← hH] at hP
  have hS : va_S A s.heap H [] := by rw [hH]; exact hS
  suffices hgo : W p l e _ s m _ below meth c H [] 0 0 _ _ by rw [hH] at hgo; exact hgo
  refine lv_aload_n hx hb dX1_init_0 rfl (lv_at hl 0 rfl) ?_
  refine W.objInit hx hb hown (ht _ wb213) (ht _ wb92) (ht _ wb93) rfl (by rw [hml]; exact hl.1) rfl dX1_init_1 (Nat.le_of_ble_eq_true rfl) (Nat.le_of_ble_eq_true rfl) ?_
  refine W.eq (g2 := F0 m 4 ls []) rfl ?_
  refine lv_aload_n hx hb dX1_init_4 rfl (lv_at hl 0 rfl) ?_
  refine lv_bipush (v := 32) hx hb dX1_init_5 (by decide) ?_
  refine va_newa (atype := .int) (ty := .int) (n := 32) (N' := 32) (a0 := (32, .inl (fun _ => 0))) hx hb (ht _ wb122) rfl hK hP hD hS hA (fun _ => rfl) (by decide) (by decide) (Nat.le_of_ble_eq_true rfl) (Nat.le_of_ble_eq_true rfl) (Nat.le_of_ble_eq_true rfl) dX1_init_7 (fun q1 cA H hKn hP hD hS => ?_)
  obtain rfl : cA = k 0 := newI hKn
  have hP : va_P D vwCl [(o, .inr (1, [.null, .null, .null, .null, .int 0, .int 0, .int 0, .int 0])), (q1, .inl (k 0, 32, .inl (fun _ => 0)))] H := hP
  have hD : va_D A [(o, .inr (1, [.null, .null, .null, .null, .int 0, .int 0, .int 0, .int 0])), (q1, .inl (k 0, 32, .inl (fun _ => 0)))] := hD
  refine W.widen (k := 1) (n := 32) (Nat.le_of_ble_eq_true rfl) (Nat.le_of_ble_eq_true rfl) ?_
  refine va_putF (D := D) (ci := 1) (v := .ref q1) (ty := .array .int) (C := RX1) (T := TX1) (N := 8) hx hb ht hiX1 tyX1 tyX1_ok nmX1 hown hK hP hD hS 0 rfl rfl 0 (by decide) (ht _ wb214) (fun _ h9 => h9) rfl hin rfl (by decide +kernel) rfl rfl (Nat.le_of_ble_eq_true rfl) dX1_init_9 (fun H locs hP hD hS => ?_)
  have hP : va_P D vwCl [(o, .inr (1, [.ref q1, .null, .null, .null, .int 0, .int 0, .int 0, .int 0])), (q1, .inl (k 0, 32, .inl (fun _ => 0)))] H := hP
  have hD : va_D A [(o, .inr (1, [.ref q1, .null, .null, .null, .int 0, .int 0, .int 0, .int 0])), (q1, .inl (k 0, 32, .inl (fun _ => 0)))] := hD
  refine lv_aload_n hx hb dX1_init_12 rfl (lv_at hl 0 rfl) ?_
  refine lv_bipush (v := 32) hx hb dX1_init_13 (by decide) ?_
  refine va_newa (atype := .int) (ty := .int) (n := 32) (N' := 32) (a0 := (32, .inl (fun _ => 0))) hx hb (ht _ wb122) rfl hK hP hD hS hA (fun _ => rfl) (by decide) (by decide) (Nat.le_of_ble_eq_true rfl) (Nat.le_of_ble_eq_true rfl) (Nat.le_of_ble_eq_true rfl) dX1_init_15 (fun q2 cA H hKn hP hD hS => ?_)
  obtain rfl : cA = k 0 := newI hKn
  have hP : va_P D vwCl [(o, .inr (1, [.ref q1, .null, .null, .null, .int 0, .int 0, .int 0, .int 0])), (q1, .inl (k 0, 32, .inl (fun _ => 0))), (q2, .inl (k 0, 32, .inl (fun _ => 0)))] H := hP
  have hD : va_D A [(o, .inr (1, [.ref q1, .null, .null, .null, .int 0, .int 0, .int 0, .int 0])), (q1, .inl (k 0, 32, .inl (fun _ => 0))), (q2, .inl (k 0, 32, .inl (fun _ => 0)))] := hD
  refine W.widen (k := 2) (n := 64) (Nat.le_of_ble_eq_true rfl) (Nat.le_of_ble_eq_true rfl) ?_
  refine va_putF (D := D) (ci := 1) (v := .ref q2) (ty := .array .int) (C := RX1) (T := TX1) (N := 8) hx hb ht hiX1 tyX1 tyX1_ok nmX1 hown hK hP hD hS 0 rfl rfl 1 (by decide) (ht _ wb215) (fun _ h9 => h9) rfl hin rfl (by decide +kernel) rfl rfl (Nat.le_of_ble_eq_true rfl) dX1_init_17 (fun H locs hP hD hS => ?_)
  have hP : va_P D vwCl [(o, .inr (1, [.ref q1, .ref q2, .null, .null, .int 0, .int 0, .int 0, .int 0])), (q1, .inl (k 0, 32, .inl (fun _ => 0))), (q2, .inl (k 0, 32, .inl (fun _ => 0)))] H := hP
  have hD : va_D A [(o, .inr (1, [.ref q1, .ref q2, .null, .null, .int 0, .int 0, .int 0, .int 0])), (q1, .inl (k 0, 32, .inl (fun _ => 0))), (q2, .inl (k 0, 32, .inl (fun _ => 0)))] := hD
  refine lv_aload_n hx hb dX1_init_20 rfl (lv_at hl 0 rfl) ?_
  refine lv_bipush (v := 12) hx hb dX1_init_21 (by decide) ?_
  refine va_newa (atype := .int) (ty := .int) (n := 12) (N' := 12) (a0 := (12, .inl (fun _ => 0))) hx hb (ht _ wb122) rfl hK hP hD hS hA (fun _ => rfl) (by decide) (by decide) (Nat.le_of_ble_eq_true rfl) (Nat.le_of_ble_eq_true rfl) (Nat.le_of_ble_eq_true rfl) dX1_init_23 (fun q3 cA H hKn hP hD hS => ?_)
  obtain rfl : cA = k 0 := newI hKn
  have hP : va_P D vwCl [(o, .inr (1, [.ref q1, .ref q2, .null, .null, .int 0, .int 0, .int 0, .int 0])), (q1, .inl (k 0, 32, .inl (fun _ => 0))), (q2, .inl (k 0, 32, .inl (fun _ => 0))), (q3, .inl (k 0, 12, .inl (fun _ => 0)))] H := hP
  have hD : va_D A [(o, .inr (1, [.ref q1, .ref q2, .null, .null, .int 0, .int 0, .int 0, .int 0])), (q1, .inl (k 0, 32, .inl (fun _ => 0))), (q2, .inl (k 0, 32, .inl (fun _ => 0))), (q3, .inl (k 0, 12, .inl (fun _ => 0)))] := hD
  refine W.widen (k := 3) (n := 76) (Nat.le_of_ble_eq_true rfl) (Nat.le_of_ble_eq_true rfl) ?_
  refine va_putF (D := D) (ci := 1) (v := .ref q3) (ty := .array .int) (C := RX1) (T := TX1) (N := 8) hx hb ht hiX1 tyX1 tyX1_ok nmX1 hown hK hP hD hS 0 rfl rfl 2 (by decide) (ht _ wb216) (fun _ h9 => h9) rfl hin rfl (by decide +kernel) rfl rfl (Nat.le_of_ble_eq_true rfl) dX1_init_25 (fun H locs hP hD hS => ?_)
  have hP : va_P D vwCl [(o, .inr (1, [.ref q1, .ref q2, .ref q3, .null, .int 0, .int 0, .int 0, .int 0])), (q1, .inl (k 0, 32, .inl (fun _ => 0))), (q2, .inl (k 0, 32, .inl (fun _ => 0))), (q3, .inl (k 0, 12, .inl (fun _ => 0)))] H := hP
  have hD : va_D A [(o, .inr (1, [.ref q1, .ref q2, .ref q3, .null, .int 0, .int 0, .int 0, .int 0])), (q1, .inl (k 0, 32, .inl (fun _ => 0))), (q2, .inl (k 0, 32, .inl (fun _ => 0))), (q3, .inl (k 0, 12, .inl (fun _ => 0)))] := hD
  refine lv_aload_n hx hb dX1_init_28 rfl (lv_at hl 0 rfl) ?_
  refine lv_bipush (v := 12) hx hb dX1_init_29 (by decide) ?_
  refine va_newa (atype := .int) (ty := .int) (n := 12) (N' := 12) (a0 := (12, .inl (fun _ => 0))) hx hb (ht _ wb122) rfl hK hP hD hS hA (fun _ => rfl) (by decide) (by decide) (Nat.le_of_ble_eq_true rfl) (Nat.le_of_ble_eq_true rfl) (Nat.le_of_ble_eq_true rfl) dX1_init_31 (fun q4 cA H hKn hP hD hS => ?_)
  obtain rfl : cA = k 0 := newI hKn
  have hP : va_P D vwCl [(o, .inr (1, [.ref q1, .ref q2, .ref q3, .null, .int 0, .int 0, .int 0, .int 0])), (q1, .inl (k 0, 32, .inl (fun _ => 0))), (q2, .inl (k 0, 32, .inl (fun _ => 0))), (q3, .inl (k 0, 12, .inl (fun _ => 0))), (q4, .inl (k 0, 12, .inl (fun _ => 0)))] H := hP
  have hD : va_D A [(o, .inr (1, [.ref q1, .ref q2, .ref q3, .null, .int 0, .int 0, .int 0, .int 0])), (q1, .inl (k 0, 32, .inl (fun _ => 0))), (q2, .inl (k 0, 32, .inl (fun _ => 0))), (q3, .inl (k 0, 12, .inl (fun _ => 0))), (q4, .inl (k 0, 12, .inl (fun _ => 0)))] := hD
  refine W.widen (k := 4) (n := 88) (Nat.le_of_ble_eq_true rfl) (Nat.le_of_ble_eq_true rfl) ?_
  refine va_putF (D := D) (ci := 1) (v := .ref q4) (ty := .array .int) (C := RX1) (T := TX1) (N := 8) hx hb ht hiX1 tyX1 tyX1_ok nmX1 hown hK hP hD hS 0 rfl rfl 3 (by decide) (ht _ wb217) (fun _ h9 => h9) rfl hin rfl (by decide +kernel) rfl rfl (Nat.le_of_ble_eq_true rfl) dX1_init_33 (fun H locs hP hD hS => ?_)
  have hP : va_P D vwCl [(o, .inr (1, [.ref q1, .ref q2, .ref q3, .ref q4, .int 0, .int 0, .int 0, .int 0])), (q1, .inl (k 0, 32, .inl (fun _ => 0))), (q2, .inl (k 0, 32, .inl (fun _ => 0))), (q3, .inl (k 0, 12, .inl (fun _ => 0))), (q4, .inl (k 0, 12, .inl (fun _ => 0)))] H := hP
  have hD : va_D A [(o, .inr (1, [.ref q1, .ref q2, .ref q3, .ref q4, .int 0, .int 0, .int 0, .int 0])), (q1, .inl (k 0, 32, .inl (fun _ => 0))), (q2, .inl (k 0, 32, .inl (fun _ => 0))), (q3, .inl (k 0, 12, .inl (fun _ => 0))), (q4, .inl (k 0, 12, .inl (fun _ => 0)))] := hD
  exact W.vret hx hb hr (fun t ht9 hW => ⟨⟨(fun i => ([q1, q2, q3, q4] : List Nat).getD i 0), rfl, trivial, zend ht9 hP, hD⟩, hS.F ht9⟩) hS.2.2 dX1_init_36
def B_X4_init (k : Nat → Nat) (o : Nat) (q : Nat → Nat) : va_W := [(o, .inr (4, [.ref (q 0), .ref (q 1), .int 0, .int 0, .int 0, .int 0])), ((q 0), .inl (k 0, 120, .inl (fun _ => 0))), ((q 1), .inr (3, [.int 12, .int 11, .ref (q 2), .int 0])), ((q 2), .inl (k 0, 132, .inl (fun _ => 0)))]
abbrev wk_X4_init : List Cond := Cond.code yX4_init cX4_init 1 none :: WB
abbrev rm_X4_init : Room := { frames := 2, cells := 3, slots := 256, locals := 43 }
set_option maxHeartbeats 4000000 in
set_option maxRecDepth 100000 in
theorem c_X4_init (l : Launch) (D : va_G) (k : Nat → Nat) (o : Nat) : Cn l yX4_init wk_X4_init rm_X4_init D k [.ref o] [(o, .inr (4, [.null, .null, .int 0, .int 0, .int 0, .int 0]))] (B_X4_init k o) 3 256 := by
  intro sz
  refine Met.ofW (cc := cX4_init) (maxL := 1) (ret := none) (by decide) rfl ?_
  intro p e s m args below meth c s₁ B hml hv
  obtain ⟨rfl, hsz, hP, hK, hD0, hm⟩ := hv
  have hx := B.exec
  have hb := B.bytes
  have hr := B.returns
  have ht : ∀ w ∈ WB, w.before _ s = true := fun w hw => atoms_spec (ws := wk_X4_init) B.pre w (List.mem_cons_of_mem _ hw)
  have hown : s.vm.findClass RX4 = some m.cls := findClass_of_methodNamed B.named
  have hlocks := B.notSynchronized
  have hin : meth.name = "<init>" := (name_of_methodNamed B.named B.method).1
  subst hsz
  have hD := hD0.self (sz := s.heap.size)
  generalize hAe : va_A [(o, .inr (4, [.null, .null, .int 0, .int 0, .int 0, .int 0]))] s.heap.size = A at hD hm ⊢
  have hA : ∀ q : Nat, s.heap.size ≤ q → A q := fun q h => by rw [← hAe]; exact Or.inr h
  have hS : va_S A s.heap s.heap [] := va_S.rf
  have hl := lv_entry ([.ref o]) (n := 1) (Nat.le_of_ble_eq_true rfl)
  rw [lg_entry_eq]
  generalize (lg_sl ([.ref o]) ++ List.replicate (1 - (lg_sl ([.ref o])).length) Slot.unset).toArray = ls at hl ⊢
  have hl : lv_has ls 1 [(0, .ref o)] := hl
  obtain ⟨H, hH⟩ : ∃ H, H = s.heap := ⟨_, rfl⟩
  rw [← hH] at hP
  have hS : va_S A s.heap H [] := by rw [hH]; exact hS
  suffices hgo : W p l e _ s m _ below meth c H [] 0 0 _ _ by rw [hH] at hgo; exact hgo
  refine lv_aload_n hx hb dX4_init_0 rfl (lv_at hl 0 rfl) ?_
  refine W.objInit hx hb hown (ht _ wb185) (ht _ wb92) (ht _ wb93) rfl (by rw [hml]; exact hl.1) rfl dX4_init_1 (Nat.le_of_ble_eq_true rfl) (Nat.le_of_ble_eq_true rfl) ?_
  refine W.eq (g2 := F0 m 4 ls []) rfl ?_
  refine lv_aload_n hx hb dX4_init_4 rfl (lv_at hl 0 rfl) ?_
  refine lv_bipush (v := 120) hx hb dX4_init_5 (by decide) ?_
  refine va_newa (atype := .int) (ty := .int) (n := 120) (N' := 120) (a0 := (120, .inl (fun _ => 0))) hx hb (ht _ wb122) rfl hK hP hD hS hA (fun _ => rfl) (by decide) (by decide) (Nat.le_of_ble_eq_true rfl) (Nat.le_of_ble_eq_true rfl) (Nat.le_of_ble_eq_true rfl) dX4_init_7 (fun q1 cA H hKn hP hD hS => ?_)
  obtain rfl : cA = k 0 := newI hKn
  have hP : va_P D vwCl [(o, .inr (4, [.null, .null, .int 0, .int 0, .int 0, .int 0])), (q1, .inl (k 0, 120, .inl (fun _ => 0)))] H := hP
  have hD : va_D A [(o, .inr (4, [.null, .null, .int 0, .int 0, .int 0, .int 0])), (q1, .inl (k 0, 120, .inl (fun _ => 0)))] := hD
  refine W.widen (k := 1) (n := 120) (Nat.le_of_ble_eq_true rfl) (Nat.le_of_ble_eq_true rfl) ?_
  refine va_putF (D := D) (ci := 4) (v := .ref q1) (ty := .array .int) (C := RX4) (T := TX4) (N := 6) hx hb ht hiX4 tyX4 tyX4_ok nmX4 hown hK hP hD hS 0 rfl rfl 0 (by decide) (ht _ wb188) (fun _ h9 => h9) rfl hin rfl (by decide +kernel) rfl rfl (Nat.le_of_ble_eq_true rfl) dX4_init_9 (fun H locs hP hD hS => ?_)
  have hP : va_P D vwCl [(o, .inr (4, [.ref q1, .null, .int 0, .int 0, .int 0, .int 0])), (q1, .inl (k 0, 120, .inl (fun _ => 0)))] H := hP
  have hD : va_D A [(o, .inr (4, [.ref q1, .null, .int 0, .int 0, .int 0, .int 0])), (q1, .inl (k 0, 120, .inl (fun _ => 0)))] := hD
  refine lv_aload_n hx hb dX4_init_12 rfl (lv_at hl 0 rfl) ?_
  refine va_new (ci := 3) (fs := [.int 0, .int 0, .null, .int 0]) (C := RX3) (T := TX3) (N := 4) hx hb ht hiX3 tyX3 tyX3_ok hown (ht _ wb186) (ht _ wb101) (ht _ wb74) hK hP hD hS hA rfl (fun j hj => by rcases (show j = 0 ∨ j = 1 ∨ j = 2 ∨ j = 3 by omega) with rfl | rfl | rfl | rfl <;> rfl) (Nat.le_of_ble_eq_true rfl) (Nat.le_of_ble_eq_true rfl) dX4_init_13 (fun q2 H hP hD hS => ?_)
  have hP : va_P D vwCl [(o, .inr (4, [.ref q1, .null, .int 0, .int 0, .int 0, .int 0])), (q1, .inl (k 0, 120, .inl (fun _ => 0))), (q2, .inr (3, [.int 0, .int 0, .null, .int 0]))] H := hP
  have hD : va_D A [(o, .inr (4, [.ref q1, .null, .int 0, .int 0, .int 0, .int 0])), (q1, .inl (k 0, 120, .inl (fun _ => 0))), (q2, .inr (3, [.int 0, .int 0, .null, .int 0]))] := hD
  refine W.widen (k := 2) (n := 124) (Nat.le_of_ble_eq_true rfl) (Nat.le_of_ble_eq_true rfl) ?_
  refine lv_dup hx hb dX4_init_16 rfl ?_
  refine lv_bipush (v := 12) hx hb dX4_init_17 (by decide) ?_
  refine lv_bipush (v := 11) hx hb dX4_init_19 (by decide) ?_
  refine zn (wr := [(o, .inr (4, [.ref q1, .null, .int 0, .int 0, .int 0, .int 0])), (q1, .inl (k 0, 120, .inl (fun _ => 0)))]) (zrI (As := [.int 12, .int 11]) (rest := [.ref q2, .ref o]) ⟨hx, hb, hml, hown, ht⟩ (c_X3_init_12_11 l D k q2 _) (cwI 2 ht (gdN wb104) rfl rfl rfl (ht _ wb74) (ht _ wb187) (ht _ wb103) rfl (by decide +kernel) ⟨Nat.le_of_ble_eq_true rfl, Nat.le_of_ble_eq_true rfl⟩) hK hP hD hS hA hm [2] rfl rfl rfl hl.1 rfl (Nat.le_of_ble_eq_true rfl) dX4_init_21 ⟨Nat.le_of_ble_eq_true rfl, Nat.le_of_ble_eq_true rfl⟩) hP hD hS hA [2] [0, 1] rfl rfl (by decide) (by decide) (fun u3 H locs hP hD hS => ?_)
  have hP : va_P D vwCl [(o, .inr (4, [.ref q1, .null, .int 0, .int 0, .int 0, .int 0])), (q1, .inl (k 0, 120, .inl (fun _ => 0))), (q2, .inr (3, [.int 12, .int 11, .ref (u3 0), .int 0])), ((u3 0), .inl (k 0, 132, .inl (fun _ => 0)))] H := hP
  have hD : va_D A [(o, .inr (4, [.ref q1, .null, .int 0, .int 0, .int 0, .int 0])), (q1, .inl (k 0, 120, .inl (fun _ => 0))), (q2, .inr (3, [.int 12, .int 11, .ref (u3 0), .int 0])), ((u3 0), .inl (k 0, 132, .inl (fun _ => 0)))] := hD
  refine W.widen (k := 3) (n := 256) (Nat.le_of_ble_eq_true rfl) (Nat.le_of_ble_eq_true rfl) ?_
  refine va_putF (D := D) (ci := 4) (v := .ref q2) (ty := .object "ZoneGuard$Table") (C := RX4) (T := TX4) (N := 6) hx hb ht hiX4 tyX4 tyX4_ok nmX4 hown hK hP hD hS 0 rfl rfl 1 (by decide) (ht _ wb189) (fun _ h9 => h9) rfl hin rfl (by decide +kernel) rfl rfl (Nat.le_of_ble_eq_true rfl) dX4_init_24 (fun H locs hP hD hS => ?_)
  have hP : va_P D vwCl [(o, .inr (4, [.ref q1, .ref q2, .int 0, .int 0, .int 0, .int 0])), (q1, .inl (k 0, 120, .inl (fun _ => 0))), (q2, .inr (3, [.int 12, .int 11, .ref (u3 0), .int 0])), ((u3 0), .inl (k 0, 132, .inl (fun _ => 0)))] H := hP
  have hD : va_D A [(o, .inr (4, [.ref q1, .ref q2, .int 0, .int 0, .int 0, .int 0])), (q1, .inl (k 0, 120, .inl (fun _ => 0))), (q2, .inr (3, [.int 12, .int 11, .ref (u3 0), .int 0])), ((u3 0), .inl (k 0, 132, .inl (fun _ => 0)))] := hD
  exact W.vret hx hb hr (fun t ht9 hW => ⟨⟨(fun i => ([q1, q2, (u3 0)] : List Nat).getD i 0), rfl, trivial, zend ht9 hP, hD⟩, hS.F ht9⟩) hS.2.2 dX4_init_27
def B_X6_init (k : Nat → Nat) (o : Nat) (q : Nat → Nat) : va_W := [(o, .inr (6, [.ref (q 0), .ref (q 1), .int 0, .ref (q 2), .ref (q 3), .int 0, .ref (q 4), .ref (q 5), .ref (q 6), .int 0, .int 0, .int 0, .int 0, .long 0])), ((q 0), .inl (k 0, 401, .inl (upd (upd (upd (upd (upd (upd (upd (fun _ => 0) (Int32.toNatClampNeg 387) 5) (Int32.toNatClampNeg 388) 5) (Int32.toNatClampNeg 389) 40) (Int32.toNatClampNeg 390) 10) (Int32.toNatClampNeg 391) 3) (Int32.toNatClampNeg 392) 8) (Int32.toNatClampNeg 393) 20))), ((q 1), .inl (k 0, 2005, .inl (fun _ => 0))), ((q 2), .inl (k 0, 3, .inl (fun _ => 0))), ((q 3), .inl (k 0, 120, .inl (fun _ => 0))), ((q 4), .inl (k 0, 11, .inl (fun _ => 0))), ((q 5), .inl (k 0, 164, .inl (fun _ => 0))), ((q 6), .inl (k 0, 132, .inl (fun _ => 0)))]
abbrev wk_X6_init : List Cond := Cond.code yX6_init cX6_init 1 none :: WB
abbrev rm_X6_init : Room := { frames := 1, cells := 7, slots := 2836, locals := 12 }
set_option maxHeartbeats 4000000 in
set_option maxRecDepth 100000 in
theorem c_X6_init (l : Launch) (D : va_G) (k : Nat → Nat) (o : Nat) : Cn l yX6_init wk_X6_init rm_X6_init D k [.ref o] [(o, .inr (6, [.null, .null, .int 0, .null, .null, .int 0, .null, .null, .null, .int 0, .int 0, .int 0, .int 0, .long 0]))] (B_X6_init k o) 7 2836 := by
  intro sz
  refine Met.ofW (cc := cX6_init) (maxL := 1) (ret := none) (by decide) rfl ?_
  intro p e s m args below meth c s₁ B hml hv
  obtain ⟨rfl, hsz, hP, hK, hD0, hm⟩ := hv
  have hx := B.exec
  have hb := B.bytes
  have hr := B.returns
  have ht : ∀ w ∈ WB, w.before _ s = true := fun w hw => atoms_spec (ws := wk_X6_init) B.pre w (List.mem_cons_of_mem _ hw)
  have hown : s.vm.findClass RX6 = some m.cls := findClass_of_methodNamed B.named
  have hlocks := B.notSynchronized
  have hin : meth.name = "<init>" := (name_of_methodNamed B.named B.method).1
  subst hsz
  have hD := hD0.self (sz := s.heap.size)
  generalize hAe : va_A [(o, .inr (6, [.null, .null, .int 0, .null, .null, .int 0, .null, .null, .null, .int 0, .int 0, .int 0, .int 0, .long 0]))] s.heap.size = A at hD hm ⊢
  have hA : ∀ q : Nat, s.heap.size ≤ q → A q := fun q h => by rw [← hAe]; exact Or.inr h
  have hS : va_S A s.heap s.heap [] := va_S.rf
  have hl := lv_entry ([.ref o]) (n := 1) (Nat.le_of_ble_eq_true rfl)
  rw [lg_entry_eq]
  generalize (lg_sl ([.ref o]) ++ List.replicate (1 - (lg_sl ([.ref o])).length) Slot.unset).toArray = ls at hl ⊢
  have hl : lv_has ls 1 [(0, .ref o)] := hl
  obtain ⟨H, hH⟩ : ∃ H, H = s.heap := ⟨_, rfl⟩
  rw [← hH] at hP
  have hS : va_S A s.heap H [] := by rw [hH]; exact hS
  suffices hgo : W p l e _ s m _ below meth c H [] 0 0 _ _ by rw [hH] at hgo; exact hgo
  refine lv_aload_n hx hb dX6_init_0 rfl (lv_at hl 0 rfl) ?_
  refine W.objInit hx hb hown (ht _ wb764) (ht _ wb92) (ht _ wb93) rfl (by rw [hml]; exact hl.1) rfl dX6_init_1 (Nat.le_of_ble_eq_true rfl) (Nat.le_of_ble_eq_true rfl) ?_
  refine W.eq (g2 := F0 m 4 ls []) rfl ?_
  refine lv_aload_n hx hb dX6_init_4 rfl (lv_at hl 0 rfl) ?_
  refine lv_sipush (v := 401) hx hb dX6_init_5 (by decide) ?_
  refine va_newa (atype := .int) (ty := .int) (n := 401) (N' := 401) (a0 := (401, .inl (fun _ => 0))) hx hb (ht _ wb122) rfl hK hP hD hS hA (fun _ => rfl) (by decide) (by decide) (Nat.le_of_ble_eq_true rfl) (Nat.le_of_ble_eq_true rfl) (Nat.le_of_ble_eq_true rfl) dX6_init_8 (fun q1 cA H hKn hP hD hS => ?_)
  obtain rfl : cA = k 0 := newI hKn
  have hP : va_P D vwCl [(o, .inr (6, [.null, .null, .int 0, .null, .null, .int 0, .null, .null, .null, .int 0, .int 0, .int 0, .int 0, .long 0])), (q1, .inl (k 0, 401, .inl (fun _ => 0)))] H := hP
  have hD : va_D A [(o, .inr (6, [.null, .null, .int 0, .null, .null, .int 0, .null, .null, .null, .int 0, .int 0, .int 0, .int 0, .long 0])), (q1, .inl (k 0, 401, .inl (fun _ => 0)))] := hD
  refine W.widen (k := 1) (n := 401) (Nat.le_of_ble_eq_true rfl) (Nat.le_of_ble_eq_true rfl) ?_
  refine va_putF (D := D) (ci := 6) (v := .ref q1) (ty := .array .int) (C := RX6) (T := TX6) (N := 14) hx hb ht hiX6 tyX6 tyX6_ok nmX6 hown hK hP hD hS 0 rfl rfl 0 (by decide) (ht _ wb765) (fun _ h9 => h9) rfl hin rfl (by decide +kernel) rfl rfl (Nat.le_of_ble_eq_true rfl) dX6_init_10 (fun H locs hP hD hS => ?_)
  have hP : va_P D vwCl [(o, .inr (6, [.ref q1, .null, .int 0, .null, .null, .int 0, .null, .null, .null, .int 0, .int 0, .int 0, .int 0, .long 0])), (q1, .inl (k 0, 401, .inl (fun _ => 0)))] H := hP
  have hD : va_D A [(o, .inr (6, [.ref q1, .null, .int 0, .null, .null, .int 0, .null, .null, .null, .int 0, .int 0, .int 0, .int 0, .long 0])), (q1, .inl (k 0, 401, .inl (fun _ => 0)))] := hD
  refine lv_aload_n hx hb dX6_init_13 rfl (lv_at hl 0 rfl) ?_
  refine lv_sipush (v := 2005) hx hb dX6_init_14 (by decide) ?_
  refine va_newa (atype := .int) (ty := .int) (n := 2005) (N' := 2005) (a0 := (2005, .inl (fun _ => 0))) hx hb (ht _ wb122) rfl hK hP hD hS hA (fun _ => rfl) (by decide) (by decide) (Nat.le_of_ble_eq_true rfl) (Nat.le_of_ble_eq_true rfl) (Nat.le_of_ble_eq_true rfl) dX6_init_17 (fun q2 cA H hKn hP hD hS => ?_)
  obtain rfl : cA = k 0 := newI hKn
  have hP : va_P D vwCl [(o, .inr (6, [.ref q1, .null, .int 0, .null, .null, .int 0, .null, .null, .null, .int 0, .int 0, .int 0, .int 0, .long 0])), (q1, .inl (k 0, 401, .inl (fun _ => 0))), (q2, .inl (k 0, 2005, .inl (fun _ => 0)))] H := hP
  have hD : va_D A [(o, .inr (6, [.ref q1, .null, .int 0, .null, .null, .int 0, .null, .null, .null, .int 0, .int 0, .int 0, .int 0, .long 0])), (q1, .inl (k 0, 401, .inl (fun _ => 0))), (q2, .inl (k 0, 2005, .inl (fun _ => 0)))] := hD
  refine W.widen (k := 2) (n := 2406) (Nat.le_of_ble_eq_true rfl) (Nat.le_of_ble_eq_true rfl) ?_
  refine va_putF (D := D) (ci := 6) (v := .ref q2) (ty := .array .int) (C := RX6) (T := TX6) (N := 14) hx hb ht hiX6 tyX6 tyX6_ok nmX6 hown hK hP hD hS 0 rfl rfl 1 (by decide) (ht _ wb766) (fun _ h9 => h9) rfl hin rfl (by decide +kernel) rfl rfl (Nat.le_of_ble_eq_true rfl) dX6_init_19 (fun H locs hP hD hS => ?_)
  have hP : va_P D vwCl [(o, .inr (6, [.ref q1, .ref q2, .int 0, .null, .null, .int 0, .null, .null, .null, .int 0, .int 0, .int 0, .int 0, .long 0])), (q1, .inl (k 0, 401, .inl (fun _ => 0))), (q2, .inl (k 0, 2005, .inl (fun _ => 0)))] H := hP
  have hD : va_D A [(o, .inr (6, [.ref q1, .ref q2, .int 0, .null, .null, .int 0, .null, .null, .null, .int 0, .int 0, .int 0, .int 0, .long 0])), (q1, .inl (k 0, 401, .inl (fun _ => 0))), (q2, .inl (k 0, 2005, .inl (fun _ => 0)))] := hD
  refine lv_aload_n hx hb dX6_init_22 rfl (lv_at hl 0 rfl) ?_
  refine lv_iconst (v := 3) hx hb dX6_init_23 (by decide) ?_
  refine va_newa (atype := .int) (ty := .int) (n := 3) (N' := 3) (a0 := (3, .inl (fun _ => 0))) hx hb (ht _ wb122) rfl hK hP hD hS hA (fun _ => rfl) (by decide) (by decide) (Nat.le_of_ble_eq_true rfl) (Nat.le_of_ble_eq_true rfl) (Nat.le_of_ble_eq_true rfl) dX6_init_24 (fun q3 cA H hKn hP hD hS => ?_)
  obtain rfl : cA = k 0 := newI hKn
  have hP : va_P D vwCl [(o, .inr (6, [.ref q1, .ref q2, .int 0, .null, .null, .int 0, .null, .null, .null, .int 0, .int 0, .int 0, .int 0, .long 0])), (q1, .inl (k 0, 401, .inl (fun _ => 0))), (q2, .inl (k 0, 2005, .inl (fun _ => 0))), (q3, .inl (k 0, 3, .inl (fun _ => 0)))] H := hP
  have hD : va_D A [(o, .inr (6, [.ref q1, .ref q2, .int 0, .null, .null, .int 0, .null, .null, .null, .int 0, .int 0, .int 0, .int 0, .long 0])), (q1, .inl (k 0, 401, .inl (fun _ => 0))), (q2, .inl (k 0, 2005, .inl (fun _ => 0))), (q3, .inl (k 0, 3, .inl (fun _ => 0)))] := hD
  refine W.widen (k := 3) (n := 2409) (Nat.le_of_ble_eq_true rfl) (Nat.le_of_ble_eq_true rfl) ?_
  refine va_putF (D := D) (ci := 6) (v := .ref q3) (ty := .array .int) (C := RX6) (T := TX6) (N := 14) hx hb ht hiX6 tyX6 tyX6_ok nmX6 hown hK hP hD hS 0 rfl rfl 3 (by decide) (ht _ wb768) (fun _ h9 => h9) rfl hin rfl (by decide +kernel) rfl rfl (Nat.le_of_ble_eq_true rfl) dX6_init_26 (fun H locs hP hD hS => ?_)
  have hP : va_P D vwCl [(o, .inr (6, [.ref q1, .ref q2, .int 0, .ref q3, .null, .int 0, .null, .null, .null, .int 0, .int 0, .int 0, .int 0, .long 0])), (q1, .inl (k 0, 401, .inl (fun _ => 0))), (q2, .inl (k 0, 2005, .inl (fun _ => 0))), (q3, .inl (k 0, 3, .inl (fun _ => 0)))] H := hP
  have hD : va_D A [(o, .inr (6, [.ref q1, .ref q2, .int 0, .ref q3, .null, .int 0, .null, .null, .null, .int 0, .int 0, .int 0, .int 0, .long 0])), (q1, .inl (k 0, 401, .inl (fun _ => 0))), (q2, .inl (k 0, 2005, .inl (fun _ => 0))), (q3, .inl (k 0, 3, .inl (fun _ => 0)))] := hD
  refine lv_aload_n hx hb dX6_init_29 rfl (lv_at hl 0 rfl) ?_
  refine lv_bipush (v := 120) hx hb dX6_init_30 (by decide) ?_
  refine va_newa (atype := .int) (ty := .int) (n := 120) (N' := 120) (a0 := (120, .inl (fun _ => 0))) hx hb (ht _ wb122) rfl hK hP hD hS hA (fun _ => rfl) (by decide) (by decide) (Nat.le_of_ble_eq_true rfl) (Nat.le_of_ble_eq_true rfl) (Nat.le_of_ble_eq_true rfl) dX6_init_32 (fun q4 cA H hKn hP hD hS => ?_)
  obtain rfl : cA = k 0 := newI hKn
  have hP : va_P D vwCl [(o, .inr (6, [.ref q1, .ref q2, .int 0, .ref q3, .null, .int 0, .null, .null, .null, .int 0, .int 0, .int 0, .int 0, .long 0])), (q1, .inl (k 0, 401, .inl (fun _ => 0))), (q2, .inl (k 0, 2005, .inl (fun _ => 0))), (q3, .inl (k 0, 3, .inl (fun _ => 0))), (q4, .inl (k 0, 120, .inl (fun _ => 0)))] H := hP
  have hD : va_D A [(o, .inr (6, [.ref q1, .ref q2, .int 0, .ref q3, .null, .int 0, .null, .null, .null, .int 0, .int 0, .int 0, .int 0, .long 0])), (q1, .inl (k 0, 401, .inl (fun _ => 0))), (q2, .inl (k 0, 2005, .inl (fun _ => 0))), (q3, .inl (k 0, 3, .inl (fun _ => 0))), (q4, .inl (k 0, 120, .inl (fun _ => 0)))] := hD
  refine W.widen (k := 4) (n := 2529) (Nat.le_of_ble_eq_true rfl) (Nat.le_of_ble_eq_true rfl) ?_
  refine va_putF (D := D) (ci := 6) (v := .ref q4) (ty := .array .int) (C := RX6) (T := TX6) (N := 14) hx hb ht hiX6 tyX6 tyX6_ok nmX6 hown hK hP hD hS 0 rfl rfl 4 (by decide) (ht _ wb769) (fun _ h9 => h9) rfl hin rfl (by decide +kernel) rfl rfl (Nat.le_of_ble_eq_true rfl) dX6_init_34 (fun H locs hP hD hS => ?_)
  have hP : va_P D vwCl [(o, .inr (6, [.ref q1, .ref q2, .int 0, .ref q3, .ref q4, .int 0, .null, .null, .null, .int 0, .int 0, .int 0, .int 0, .long 0])), (q1, .inl (k 0, 401, .inl (fun _ => 0))), (q2, .inl (k 0, 2005, .inl (fun _ => 0))), (q3, .inl (k 0, 3, .inl (fun _ => 0))), (q4, .inl (k 0, 120, .inl (fun _ => 0)))] H := hP
  have hD : va_D A [(o, .inr (6, [.ref q1, .ref q2, .int 0, .ref q3, .ref q4, .int 0, .null, .null, .null, .int 0, .int 0, .int 0, .int 0, .long 0])), (q1, .inl (k 0, 401, .inl (fun _ => 0))), (q2, .inl (k 0, 2005, .inl (fun _ => 0))), (q3, .inl (k 0, 3, .inl (fun _ => 0))), (q4, .inl (k 0, 120, .inl (fun _ => 0)))] := hD
  refine lv_aload_n hx hb dX6_init_37 rfl (lv_at hl 0 rfl) ?_
  refine lv_bipush (v := 11) hx hb dX6_init_38 (by decide) ?_
  refine va_newa (atype := .int) (ty := .int) (n := 11) (N' := 11) (a0 := (11, .inl (fun _ => 0))) hx hb (ht _ wb122) rfl hK hP hD hS hA (fun _ => rfl) (by decide) (by decide) (Nat.le_of_ble_eq_true rfl) (Nat.le_of_ble_eq_true rfl) (Nat.le_of_ble_eq_true rfl) dX6_init_40 (fun q5 cA H hKn hP hD hS => ?_)
  obtain rfl : cA = k 0 := newI hKn
  have hP : va_P D vwCl [(o, .inr (6, [.ref q1, .ref q2, .int 0, .ref q3, .ref q4, .int 0, .null, .null, .null, .int 0, .int 0, .int 0, .int 0, .long 0])), (q1, .inl (k 0, 401, .inl (fun _ => 0))), (q2, .inl (k 0, 2005, .inl (fun _ => 0))), (q3, .inl (k 0, 3, .inl (fun _ => 0))), (q4, .inl (k 0, 120, .inl (fun _ => 0))), (q5, .inl (k 0, 11, .inl (fun _ => 0)))] H := hP
  have hD : va_D A [(o, .inr (6, [.ref q1, .ref q2, .int 0, .ref q3, .ref q4, .int 0, .null, .null, .null, .int 0, .int 0, .int 0, .int 0, .long 0])), (q1, .inl (k 0, 401, .inl (fun _ => 0))), (q2, .inl (k 0, 2005, .inl (fun _ => 0))), (q3, .inl (k 0, 3, .inl (fun _ => 0))), (q4, .inl (k 0, 120, .inl (fun _ => 0))), (q5, .inl (k 0, 11, .inl (fun _ => 0)))] := hD
  refine W.widen (k := 5) (n := 2540) (Nat.le_of_ble_eq_true rfl) (Nat.le_of_ble_eq_true rfl) ?_
  refine va_putF (D := D) (ci := 6) (v := .ref q5) (ty := .array .int) (C := RX6) (T := TX6) (N := 14) hx hb ht hiX6 tyX6 tyX6_ok nmX6 hown hK hP hD hS 0 rfl rfl 6 (by decide) (ht _ wb771) (fun _ h9 => h9) rfl hin rfl (by decide +kernel) rfl rfl (Nat.le_of_ble_eq_true rfl) dX6_init_42 (fun H locs hP hD hS => ?_)
  have hP : va_P D vwCl [(o, .inr (6, [.ref q1, .ref q2, .int 0, .ref q3, .ref q4, .int 0, .ref q5, .null, .null, .int 0, .int 0, .int 0, .int 0, .long 0])), (q1, .inl (k 0, 401, .inl (fun _ => 0))), (q2, .inl (k 0, 2005, .inl (fun _ => 0))), (q3, .inl (k 0, 3, .inl (fun _ => 0))), (q4, .inl (k 0, 120, .inl (fun _ => 0))), (q5, .inl (k 0, 11, .inl (fun _ => 0)))] H := hP
  have hD : va_D A [(o, .inr (6, [.ref q1, .ref q2, .int 0, .ref q3, .ref q4, .int 0, .ref q5, .null, .null, .int 0, .int 0, .int 0, .int 0, .long 0])), (q1, .inl (k 0, 401, .inl (fun _ => 0))), (q2, .inl (k 0, 2005, .inl (fun _ => 0))), (q3, .inl (k 0, 3, .inl (fun _ => 0))), (q4, .inl (k 0, 120, .inl (fun _ => 0))), (q5, .inl (k 0, 11, .inl (fun _ => 0)))] := hD
  refine lv_aload_n hx hb dX6_init_45 rfl (lv_at hl 0 rfl) ?_
  refine lv_sipush (v := 164) hx hb dX6_init_46 (by decide) ?_
  refine va_newa (atype := .int) (ty := .int) (n := 164) (N' := 164) (a0 := (164, .inl (fun _ => 0))) hx hb (ht _ wb122) rfl hK hP hD hS hA (fun _ => rfl) (by decide) (by decide) (Nat.le_of_ble_eq_true rfl) (Nat.le_of_ble_eq_true rfl) (Nat.le_of_ble_eq_true rfl) dX6_init_49 (fun q6 cA H hKn hP hD hS => ?_)
  obtain rfl : cA = k 0 := newI hKn
  have hP : va_P D vwCl [(o, .inr (6, [.ref q1, .ref q2, .int 0, .ref q3, .ref q4, .int 0, .ref q5, .null, .null, .int 0, .int 0, .int 0, .int 0, .long 0])), (q1, .inl (k 0, 401, .inl (fun _ => 0))), (q2, .inl (k 0, 2005, .inl (fun _ => 0))), (q3, .inl (k 0, 3, .inl (fun _ => 0))), (q4, .inl (k 0, 120, .inl (fun _ => 0))), (q5, .inl (k 0, 11, .inl (fun _ => 0))), (q6, .inl (k 0, 164, .inl (fun _ => 0)))] H := hP
  have hD : va_D A [(o, .inr (6, [.ref q1, .ref q2, .int 0, .ref q3, .ref q4, .int 0, .ref q5, .null, .null, .int 0, .int 0, .int 0, .int 0, .long 0])), (q1, .inl (k 0, 401, .inl (fun _ => 0))), (q2, .inl (k 0, 2005, .inl (fun _ => 0))), (q3, .inl (k 0, 3, .inl (fun _ => 0))), (q4, .inl (k 0, 120, .inl (fun _ => 0))), (q5, .inl (k 0, 11, .inl (fun _ => 0))), (q6, .inl (k 0, 164, .inl (fun _ => 0)))] := hD
  refine W.widen (k := 6) (n := 2704) (Nat.le_of_ble_eq_true rfl) (Nat.le_of_ble_eq_true rfl) ?_
  refine va_putF (D := D) (ci := 6) (v := .ref q6) (ty := .array .int) (C := RX6) (T := TX6) (N := 14) hx hb ht hiX6 tyX6 tyX6_ok nmX6 hown hK hP hD hS 0 rfl rfl 7 (by decide) (ht _ wb772) (fun _ h9 => h9) rfl hin rfl (by decide +kernel) rfl rfl (Nat.le_of_ble_eq_true rfl) dX6_init_51 (fun H locs hP hD hS => ?_)
  have hP : va_P D vwCl [(o, .inr (6, [.ref q1, .ref q2, .int 0, .ref q3, .ref q4, .int 0, .ref q5, .ref q6, .null, .int 0, .int 0, .int 0, .int 0, .long 0])), (q1, .inl (k 0, 401, .inl (fun _ => 0))), (q2, .inl (k 0, 2005, .inl (fun _ => 0))), (q3, .inl (k 0, 3, .inl (fun _ => 0))), (q4, .inl (k 0, 120, .inl (fun _ => 0))), (q5, .inl (k 0, 11, .inl (fun _ => 0))), (q6, .inl (k 0, 164, .inl (fun _ => 0)))] H := hP
  have hD : va_D A [(o, .inr (6, [.ref q1, .ref q2, .int 0, .ref q3, .ref q4, .int 0, .ref q5, .ref q6, .null, .int 0, .int 0, .int 0, .int 0, .long 0])), (q1, .inl (k 0, 401, .inl (fun _ => 0))), (q2, .inl (k 0, 2005, .inl (fun _ => 0))), (q3, .inl (k 0, 3, .inl (fun _ => 0))), (q4, .inl (k 0, 120, .inl (fun _ => 0))), (q5, .inl (k 0, 11, .inl (fun _ => 0))), (q6, .inl (k 0, 164, .inl (fun _ => 0)))] := hD
  refine lv_aload_n hx hb dX6_init_54 rfl (lv_at hl 0 rfl) ?_
  refine lv_sipush (v := 132) hx hb dX6_init_55 (by decide) ?_
  refine va_newa (atype := .int) (ty := .int) (n := 132) (N' := 132) (a0 := (132, .inl (fun _ => 0))) hx hb (ht _ wb122) rfl hK hP hD hS hA (fun _ => rfl) (by decide) (by decide) (Nat.le_of_ble_eq_true rfl) (Nat.le_of_ble_eq_true rfl) (Nat.le_of_ble_eq_true rfl) dX6_init_58 (fun q7 cA H hKn hP hD hS => ?_)
  obtain rfl : cA = k 0 := newI hKn
  have hP : va_P D vwCl [(o, .inr (6, [.ref q1, .ref q2, .int 0, .ref q3, .ref q4, .int 0, .ref q5, .ref q6, .null, .int 0, .int 0, .int 0, .int 0, .long 0])), (q1, .inl (k 0, 401, .inl (fun _ => 0))), (q2, .inl (k 0, 2005, .inl (fun _ => 0))), (q3, .inl (k 0, 3, .inl (fun _ => 0))), (q4, .inl (k 0, 120, .inl (fun _ => 0))), (q5, .inl (k 0, 11, .inl (fun _ => 0))), (q6, .inl (k 0, 164, .inl (fun _ => 0))), (q7, .inl (k 0, 132, .inl (fun _ => 0)))] H := hP
  have hD : va_D A [(o, .inr (6, [.ref q1, .ref q2, .int 0, .ref q3, .ref q4, .int 0, .ref q5, .ref q6, .null, .int 0, .int 0, .int 0, .int 0, .long 0])), (q1, .inl (k 0, 401, .inl (fun _ => 0))), (q2, .inl (k 0, 2005, .inl (fun _ => 0))), (q3, .inl (k 0, 3, .inl (fun _ => 0))), (q4, .inl (k 0, 120, .inl (fun _ => 0))), (q5, .inl (k 0, 11, .inl (fun _ => 0))), (q6, .inl (k 0, 164, .inl (fun _ => 0))), (q7, .inl (k 0, 132, .inl (fun _ => 0)))] := hD
  refine W.widen (k := 7) (n := 2836) (Nat.le_of_ble_eq_true rfl) (Nat.le_of_ble_eq_true rfl) ?_
  refine va_putF (D := D) (ci := 6) (v := .ref q7) (ty := .array .int) (C := RX6) (T := TX6) (N := 14) hx hb ht hiX6 tyX6 tyX6_ok nmX6 hown hK hP hD hS 0 rfl rfl 8 (by decide) (ht _ wb773) (fun _ h9 => h9) rfl hin rfl (by decide +kernel) rfl rfl (Nat.le_of_ble_eq_true rfl) dX6_init_60 (fun H locs hP hD hS => ?_)
  have hP : va_P D vwCl [(o, .inr (6, [.ref q1, .ref q2, .int 0, .ref q3, .ref q4, .int 0, .ref q5, .ref q6, .ref q7, .int 0, .int 0, .int 0, .int 0, .long 0])), (q1, .inl (k 0, 401, .inl (fun _ => 0))), (q2, .inl (k 0, 2005, .inl (fun _ => 0))), (q3, .inl (k 0, 3, .inl (fun _ => 0))), (q4, .inl (k 0, 120, .inl (fun _ => 0))), (q5, .inl (k 0, 11, .inl (fun _ => 0))), (q6, .inl (k 0, 164, .inl (fun _ => 0))), (q7, .inl (k 0, 132, .inl (fun _ => 0)))] H := hP
  have hD : va_D A [(o, .inr (6, [.ref q1, .ref q2, .int 0, .ref q3, .ref q4, .int 0, .ref q5, .ref q6, .ref q7, .int 0, .int 0, .int 0, .int 0, .long 0])), (q1, .inl (k 0, 401, .inl (fun _ => 0))), (q2, .inl (k 0, 2005, .inl (fun _ => 0))), (q3, .inl (k 0, 3, .inl (fun _ => 0))), (q4, .inl (k 0, 120, .inl (fun _ => 0))), (q5, .inl (k 0, 11, .inl (fun _ => 0))), (q6, .inl (k 0, 164, .inl (fun _ => 0))), (q7, .inl (k 0, 132, .inl (fun _ => 0)))] := hD
  refine lv_aload_n hx hb dX6_init_63 rfl (lv_at hl 0 rfl) ?_
  refine va_get (D := D) (ci := 6) (v := .ref q1) (C := RX6) (T := TX6) (N := 14) hx hb ht hiX6 hown hK hP 0 rfl rfl 0 (by decide) (ht _ wb765) (fun _ h9 => h9) rfl dX6_init_64 ?_
  refine lv_sipush (v := 387) hx hb dX6_init_67 (by decide) ?_
  refine lv_iconst (v := 5) hx hb dX6_init_70 (by decide) ?_
  refine va_iast hx hb hK hP hD hS 1 0 rfl rfl (show vp_in 387 401 by unfold vp_in; decide) dX6_init_71 (fun H locs hP hD hS => ?_)
  have hP : va_P D vwCl [(o, .inr (6, [.ref q1, .ref q2, .int 0, .ref q3, .ref q4, .int 0, .ref q5, .ref q6, .ref q7, .int 0, .int 0, .int 0, .int 0, .long 0])), (q1, .inl (k 0, 401, .inl (upd (fun _ => 0) (Int32.toNatClampNeg 387) 5))), (q2, .inl (k 0, 2005, .inl (fun _ => 0))), (q3, .inl (k 0, 3, .inl (fun _ => 0))), (q4, .inl (k 0, 120, .inl (fun _ => 0))), (q5, .inl (k 0, 11, .inl (fun _ => 0))), (q6, .inl (k 0, 164, .inl (fun _ => 0))), (q7, .inl (k 0, 132, .inl (fun _ => 0)))] H := hP
  have hD : va_D A [(o, .inr (6, [.ref q1, .ref q2, .int 0, .ref q3, .ref q4, .int 0, .ref q5, .ref q6, .ref q7, .int 0, .int 0, .int 0, .int 0, .long 0])), (q1, .inl (k 0, 401, .inl (upd (fun _ => 0) (Int32.toNatClampNeg 387) 5))), (q2, .inl (k 0, 2005, .inl (fun _ => 0))), (q3, .inl (k 0, 3, .inl (fun _ => 0))), (q4, .inl (k 0, 120, .inl (fun _ => 0))), (q5, .inl (k 0, 11, .inl (fun _ => 0))), (q6, .inl (k 0, 164, .inl (fun _ => 0))), (q7, .inl (k 0, 132, .inl (fun _ => 0)))] := hD
  refine lv_aload_n hx hb dX6_init_72 rfl (lv_at hl 0 rfl) ?_
  refine va_get (D := D) (ci := 6) (v := .ref q1) (C := RX6) (T := TX6) (N := 14) hx hb ht hiX6 hown hK hP 0 rfl rfl 0 (by decide) (ht _ wb765) (fun _ h9 => h9) rfl dX6_init_73 ?_
  refine lv_sipush (v := 388) hx hb dX6_init_76 (by decide) ?_
  refine lv_iconst (v := 5) hx hb dX6_init_79 (by decide) ?_
  refine va_iast hx hb hK hP hD hS 1 0 rfl rfl (show vp_in 388 401 by unfold vp_in; decide) dX6_init_80 (fun H locs hP hD hS => ?_)
  have hP : va_P D vwCl [(o, .inr (6, [.ref q1, .ref q2, .int 0, .ref q3, .ref q4, .int 0, .ref q5, .ref q6, .ref q7, .int 0, .int 0, .int 0, .int 0, .long 0])), (q1, .inl (k 0, 401, .inl (upd (upd (fun _ => 0) (Int32.toNatClampNeg 387) 5) (Int32.toNatClampNeg 388) 5))), (q2, .inl (k 0, 2005, .inl (fun _ => 0))), (q3, .inl (k 0, 3, .inl (fun _ => 0))), (q4, .inl (k 0, 120, .inl (fun _ => 0))), (q5, .inl (k 0, 11, .inl (fun _ => 0))), (q6, .inl (k 0, 164, .inl (fun _ => 0))), (q7, .inl (k 0, 132, .inl (fun _ => 0)))] H := hP
  have hD : va_D A [(o, .inr (6, [.ref q1, .ref q2, .int 0, .ref q3, .ref q4, .int 0, .ref q5, .ref q6, .ref q7, .int 0, .int 0, .int 0, .int 0, .long 0])), (q1, .inl (k 0, 401, .inl (upd (upd (fun _ => 0) (Int32.toNatClampNeg 387) 5) (Int32.toNatClampNeg 388) 5))), (q2, .inl (k 0, 2005, .inl (fun _ => 0))), (q3, .inl (k 0, 3, .inl (fun _ => 0))), (q4, .inl (k 0, 120, .inl (fun _ => 0))), (q5, .inl (k 0, 11, .inl (fun _ => 0))), (q6, .inl (k 0, 164, .inl (fun _ => 0))), (q7, .inl (k 0, 132, .inl (fun _ => 0)))] := hD
  refine lv_aload_n hx hb dX6_init_81 rfl (lv_at hl 0 rfl) ?_
  refine va_get (D := D) (ci := 6) (v := .ref q1) (C := RX6) (T := TX6) (N := 14) hx hb ht hiX6 hown hK hP 0 rfl rfl 0 (by decide) (ht _ wb765) (fun _ h9 => h9) rfl dX6_init_82 ?_
  refine lv_sipush (v := 389) hx hb dX6_init_85 (by decide) ?_
  refine lv_bipush (v := 40) hx hb dX6_init_88 (by decide) ?_
  refine va_iast hx hb hK hP hD hS 1 0 rfl rfl (show vp_in 389 401 by unfold vp_in; decide) dX6_init_90 (fun H locs hP hD hS => ?_)
  have hP : va_P D vwCl [(o, .inr (6, [.ref q1, .ref q2, .int 0, .ref q3, .ref q4, .int 0, .ref q5, .ref q6, .ref q7, .int 0, .int 0, .int 0, .int 0, .long 0])), (q1, .inl (k 0, 401, .inl (upd (upd (upd (fun _ => 0) (Int32.toNatClampNeg 387) 5) (Int32.toNatClampNeg 388) 5) (Int32.toNatClampNeg 389) 40))), (q2, .inl (k 0, 2005, .inl (fun _ => 0))), (q3, .inl (k 0, 3, .inl (fun _ => 0))), (q4, .inl (k 0, 120, .inl (fun _ => 0))), (q5, .inl (k 0, 11, .inl (fun _ => 0))), (q6, .inl (k 0, 164, .inl (fun _ => 0))), (q7, .inl (k 0, 132, .inl (fun _ => 0)))] H := hP
  have hD : va_D A [(o, .inr (6, [.ref q1, .ref q2, .int 0, .ref q3, .ref q4, .int 0, .ref q5, .ref q6, .ref q7, .int 0, .int 0, .int 0, .int 0, .long 0])), (q1, .inl (k 0, 401, .inl (upd (upd (upd (fun _ => 0) (Int32.toNatClampNeg 387) 5) (Int32.toNatClampNeg 388) 5) (Int32.toNatClampNeg 389) 40))), (q2, .inl (k 0, 2005, .inl (fun _ => 0))), (q3, .inl (k 0, 3, .inl (fun _ => 0))), (q4, .inl (k 0, 120, .inl (fun _ => 0))), (q5, .inl (k 0, 11, .inl (fun _ => 0))), (q6, .inl (k 0, 164, .inl (fun _ => 0))), (q7, .inl (k 0, 132, .inl (fun _ => 0)))] := hD
  refine lv_aload_n hx hb dX6_init_91 rfl (lv_at hl 0 rfl) ?_
  refine va_get (D := D) (ci := 6) (v := .ref q1) (C := RX6) (T := TX6) (N := 14) hx hb ht hiX6 hown hK hP 0 rfl rfl 0 (by decide) (ht _ wb765) (fun _ h9 => h9) rfl dX6_init_92 ?_
  refine lv_sipush (v := 390) hx hb dX6_init_95 (by decide) ?_
  refine lv_bipush (v := 10) hx hb dX6_init_98 (by decide) ?_
  refine va_iast hx hb hK hP hD hS 1 0 rfl rfl (show vp_in 390 401 by unfold vp_in; decide) dX6_init_100 (fun H locs hP hD hS => ?_)
  have hP : va_P D vwCl [(o, .inr (6, [.ref q1, .ref q2, .int 0, .ref q3, .ref q4, .int 0, .ref q5, .ref q6, .ref q7, .int 0, .int 0, .int 0, .int 0, .long 0])), (q1, .inl (k 0, 401, .inl (upd (upd (upd (upd (fun _ => 0) (Int32.toNatClampNeg 387) 5) (Int32.toNatClampNeg 388) 5) (Int32.toNatClampNeg 389) 40) (Int32.toNatClampNeg 390) 10))), (q2, .inl (k 0, 2005, .inl (fun _ => 0))), (q3, .inl (k 0, 3, .inl (fun _ => 0))), (q4, .inl (k 0, 120, .inl (fun _ => 0))), (q5, .inl (k 0, 11, .inl (fun _ => 0))), (q6, .inl (k 0, 164, .inl (fun _ => 0))), (q7, .inl (k 0, 132, .inl (fun _ => 0)))] H := hP
  have hD : va_D A [(o, .inr (6, [.ref q1, .ref q2, .int 0, .ref q3, .ref q4, .int 0, .ref q5, .ref q6, .ref q7, .int 0, .int 0, .int 0, .int 0, .long 0])), (q1, .inl (k 0, 401, .inl (upd (upd (upd (upd (fun _ => 0) (Int32.toNatClampNeg 387) 5) (Int32.toNatClampNeg 388) 5) (Int32.toNatClampNeg 389) 40) (Int32.toNatClampNeg 390) 10))), (q2, .inl (k 0, 2005, .inl (fun _ => 0))), (q3, .inl (k 0, 3, .inl (fun _ => 0))), (q4, .inl (k 0, 120, .inl (fun _ => 0))), (q5, .inl (k 0, 11, .inl (fun _ => 0))), (q6, .inl (k 0, 164, .inl (fun _ => 0))), (q7, .inl (k 0, 132, .inl (fun _ => 0)))] := hD
  refine lv_aload_n hx hb dX6_init_101 rfl (lv_at hl 0 rfl) ?_
  refine va_get (D := D) (ci := 6) (v := .ref q1) (C := RX6) (T := TX6) (N := 14) hx hb ht hiX6 hown hK hP 0 rfl rfl 0 (by decide) (ht _ wb765) (fun _ h9 => h9) rfl dX6_init_102 ?_
  refine lv_sipush (v := 391) hx hb dX6_init_105 (by decide) ?_
  refine lv_iconst (v := 3) hx hb dX6_init_108 (by decide) ?_
  refine va_iast hx hb hK hP hD hS 1 0 rfl rfl (show vp_in 391 401 by unfold vp_in; decide) dX6_init_109 (fun H locs hP hD hS => ?_)
  have hP : va_P D vwCl [(o, .inr (6, [.ref q1, .ref q2, .int 0, .ref q3, .ref q4, .int 0, .ref q5, .ref q6, .ref q7, .int 0, .int 0, .int 0, .int 0, .long 0])), (q1, .inl (k 0, 401, .inl (upd (upd (upd (upd (upd (fun _ => 0) (Int32.toNatClampNeg 387) 5) (Int32.toNatClampNeg 388) 5) (Int32.toNatClampNeg 389) 40) (Int32.toNatClampNeg 390) 10) (Int32.toNatClampNeg 391) 3))), (q2, .inl (k 0, 2005, .inl (fun _ => 0))), (q3, .inl (k 0, 3, .inl (fun _ => 0))), (q4, .inl (k 0, 120, .inl (fun _ => 0))), (q5, .inl (k 0, 11, .inl (fun _ => 0))), (q6, .inl (k 0, 164, .inl (fun _ => 0))), (q7, .inl (k 0, 132, .inl (fun _ => 0)))] H := hP
  have hD : va_D A [(o, .inr (6, [.ref q1, .ref q2, .int 0, .ref q3, .ref q4, .int 0, .ref q5, .ref q6, .ref q7, .int 0, .int 0, .int 0, .int 0, .long 0])), (q1, .inl (k 0, 401, .inl (upd (upd (upd (upd (upd (fun _ => 0) (Int32.toNatClampNeg 387) 5) (Int32.toNatClampNeg 388) 5) (Int32.toNatClampNeg 389) 40) (Int32.toNatClampNeg 390) 10) (Int32.toNatClampNeg 391) 3))), (q2, .inl (k 0, 2005, .inl (fun _ => 0))), (q3, .inl (k 0, 3, .inl (fun _ => 0))), (q4, .inl (k 0, 120, .inl (fun _ => 0))), (q5, .inl (k 0, 11, .inl (fun _ => 0))), (q6, .inl (k 0, 164, .inl (fun _ => 0))), (q7, .inl (k 0, 132, .inl (fun _ => 0)))] := hD
  refine lv_aload_n hx hb dX6_init_110 rfl (lv_at hl 0 rfl) ?_
  refine va_get (D := D) (ci := 6) (v := .ref q1) (C := RX6) (T := TX6) (N := 14) hx hb ht hiX6 hown hK hP 0 rfl rfl 0 (by decide) (ht _ wb765) (fun _ h9 => h9) rfl dX6_init_111 ?_
  refine lv_sipush (v := 392) hx hb dX6_init_114 (by decide) ?_
  refine lv_bipush (v := 8) hx hb dX6_init_117 (by decide) ?_
  refine va_iast hx hb hK hP hD hS 1 0 rfl rfl (show vp_in 392 401 by unfold vp_in; decide) dX6_init_119 (fun H locs hP hD hS => ?_)
  have hP : va_P D vwCl [(o, .inr (6, [.ref q1, .ref q2, .int 0, .ref q3, .ref q4, .int 0, .ref q5, .ref q6, .ref q7, .int 0, .int 0, .int 0, .int 0, .long 0])), (q1, .inl (k 0, 401, .inl (upd (upd (upd (upd (upd (upd (fun _ => 0) (Int32.toNatClampNeg 387) 5) (Int32.toNatClampNeg 388) 5) (Int32.toNatClampNeg 389) 40) (Int32.toNatClampNeg 390) 10) (Int32.toNatClampNeg 391) 3) (Int32.toNatClampNeg 392) 8))), (q2, .inl (k 0, 2005, .inl (fun _ => 0))), (q3, .inl (k 0, 3, .inl (fun _ => 0))), (q4, .inl (k 0, 120, .inl (fun _ => 0))), (q5, .inl (k 0, 11, .inl (fun _ => 0))), (q6, .inl (k 0, 164, .inl (fun _ => 0))), (q7, .inl (k 0, 132, .inl (fun _ => 0)))] H := hP
  have hD : va_D A [(o, .inr (6, [.ref q1, .ref q2, .int 0, .ref q3, .ref q4, .int 0, .ref q5, .ref q6, .ref q7, .int 0, .int 0, .int 0, .int 0, .long 0])), (q1, .inl (k 0, 401, .inl (upd (upd (upd (upd (upd (upd (fun _ => 0) (Int32.toNatClampNeg 387) 5) (Int32.toNatClampNeg 388) 5) (Int32.toNatClampNeg 389) 40) (Int32.toNatClampNeg 390) 10) (Int32.toNatClampNeg 391) 3) (Int32.toNatClampNeg 392) 8))), (q2, .inl (k 0, 2005, .inl (fun _ => 0))), (q3, .inl (k 0, 3, .inl (fun _ => 0))), (q4, .inl (k 0, 120, .inl (fun _ => 0))), (q5, .inl (k 0, 11, .inl (fun _ => 0))), (q6, .inl (k 0, 164, .inl (fun _ => 0))), (q7, .inl (k 0, 132, .inl (fun _ => 0)))] := hD
  refine lv_aload_n hx hb dX6_init_120 rfl (lv_at hl 0 rfl) ?_
  refine va_get (D := D) (ci := 6) (v := .ref q1) (C := RX6) (T := TX6) (N := 14) hx hb ht hiX6 hown hK hP 0 rfl rfl 0 (by decide) (ht _ wb765) (fun _ h9 => h9) rfl dX6_init_121 ?_
  refine lv_sipush (v := 393) hx hb dX6_init_124 (by decide) ?_
  refine lv_bipush (v := 20) hx hb dX6_init_127 (by decide) ?_
  refine va_iast hx hb hK hP hD hS 1 0 rfl rfl (show vp_in 393 401 by unfold vp_in; decide) dX6_init_129 (fun H locs hP hD hS => ?_)
  have hP : va_P D vwCl [(o, .inr (6, [.ref q1, .ref q2, .int 0, .ref q3, .ref q4, .int 0, .ref q5, .ref q6, .ref q7, .int 0, .int 0, .int 0, .int 0, .long 0])), (q1, .inl (k 0, 401, .inl (upd (upd (upd (upd (upd (upd (upd (fun _ => 0) (Int32.toNatClampNeg 387) 5) (Int32.toNatClampNeg 388) 5) (Int32.toNatClampNeg 389) 40) (Int32.toNatClampNeg 390) 10) (Int32.toNatClampNeg 391) 3) (Int32.toNatClampNeg 392) 8) (Int32.toNatClampNeg 393) 20))), (q2, .inl (k 0, 2005, .inl (fun _ => 0))), (q3, .inl (k 0, 3, .inl (fun _ => 0))), (q4, .inl (k 0, 120, .inl (fun _ => 0))), (q5, .inl (k 0, 11, .inl (fun _ => 0))), (q6, .inl (k 0, 164, .inl (fun _ => 0))), (q7, .inl (k 0, 132, .inl (fun _ => 0)))] H := hP
  have hD : va_D A [(o, .inr (6, [.ref q1, .ref q2, .int 0, .ref q3, .ref q4, .int 0, .ref q5, .ref q6, .ref q7, .int 0, .int 0, .int 0, .int 0, .long 0])), (q1, .inl (k 0, 401, .inl (upd (upd (upd (upd (upd (upd (upd (fun _ => 0) (Int32.toNatClampNeg 387) 5) (Int32.toNatClampNeg 388) 5) (Int32.toNatClampNeg 389) 40) (Int32.toNatClampNeg 390) 10) (Int32.toNatClampNeg 391) 3) (Int32.toNatClampNeg 392) 8) (Int32.toNatClampNeg 393) 20))), (q2, .inl (k 0, 2005, .inl (fun _ => 0))), (q3, .inl (k 0, 3, .inl (fun _ => 0))), (q4, .inl (k 0, 120, .inl (fun _ => 0))), (q5, .inl (k 0, 11, .inl (fun _ => 0))), (q6, .inl (k 0, 164, .inl (fun _ => 0))), (q7, .inl (k 0, 132, .inl (fun _ => 0)))] := hD
  exact W.vret hx hb hr (fun t ht9 hW => ⟨⟨(fun i => ([q1, q2, q3, q4, q5, q6, q7] : List Nat).getD i 0), rfl, trivial, zend ht9 hP, hD⟩, hS.F ht9⟩) hS.2.2 dX6_init_130
