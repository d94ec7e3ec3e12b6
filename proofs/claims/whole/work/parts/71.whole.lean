theorem zJoinN {A0 : Nat → Prop} {D : va_G} {cl : List vw_C} {pre wc wn : va_W} {H H1 : Heap} (hP : va_P D cl (pre ++ wc) H) (hD : va_D A0 (pre ++ wc)) (hA : ∀ q, H.size ≤ q → A0 q)
    (hk : ∀ q : Nat, q < H.size → ¬ va_A wc H.size q → H1[q]? = H[q]?) (hP1 : va_P D cl wn H1) (hD1 : va_D (va_A wc H.size) wn) : va_P D cl (pre ++ wn) H1 ∧ va_D A0 (pre ++ wn) := by
  obtain ⟨p1, p2⟩ := P_app.mp hP
  obtain ⟨d1, d2, d3⟩ := D_app hD
  have hap : ∀ q ∈ pre, ¬ va_A wc H.size q.1 := by
    intro q hq hA
    have h := P_mem.mp p1 q hq
    rcases A_mem.mp hA with ⟨e, he⟩ | he
    · exact d3 q hq _ he rfl
    · exact absurd h.lt (by omega)
  refine ⟨P_app.mpr ⟨P_mem.mpr fun q hq => ?_, hP1⟩, D_nd.mpr ⟨?_, fun q hq => ?_⟩⟩
  · have h := P_mem.mp p1 q hq
    exact h.kept (hk q.1 h.lt (hap q hq))
  · rw [List.map_append, List.nodup_append]
    refine ⟨(D_nd.mp d1).1, (D_nd.mp hD1).1, fun a ha b hb => ?_⟩
    obtain ⟨x, hx, rfl⟩ := List.mem_map.mp ha
    obtain ⟨y, hy, rfl⟩ := List.mem_map.mp hb
    intro hxy
    exact hap x hx (by rw [hxy]; exact (D_nd.mp hD1).2 y hy)
  · rcases List.mem_append.mp hq with h | h
    · exact (D_nd.mp d1).2 q h
    · exact A_sub d2 hA ((D_nd.mp hD1).2 q h)
section ZN
variable {p : Program} {l : Launch} {e : Env} {R : Room} {s : State} {m : MethodId} {args : Array Value} {below : List Frame} {meth : Method} {c : Code} {H : Heap} {locs : List Loc} {cells slots : Nat} {Q : State → Prop}
variable {y : MethodName} {bytes cc : ByteArray} {maxL nL n index mc ms : Nat} {wy Ts : List Cond} {rm : Room} {own : String} {b : Nat} {As rest st0 : List Value} {pc : Nat} {ls : Array Slot}
variable {D : va_G} {k : Nat → Nat} {A : Nat → Prop} {pre wc : va_W} {B : (Nat → Nat) → va_W} {Qc : Array Value → State → Outcome → State → Prop}
theorem znE {a : Array Value} (hr : va_Run p l e R s m args below meth c H locs cells slots mc ms (F0 m pc ls st0) rest (va_Qv (fun (_ : Nat → Nat) => True) (fun q t => va_P D vwCl (B q) t.heap ∧ va_D (va_A wc H.size) (B q)) (va_A wc H.size) a) (va_A wc H.size)) (hP : va_P D vwCl (pre ++ wc) H) (hD : va_D A (pre ++ wc)) (hS : va_S A s.heap H locs) (hA : ∀ q, s.heap.size ≤ q → A q)
    (kk : ∀ (u : Nat → Nat) (H1 : Heap) (locs1 : List Loc), va_P D vwCl (pre ++ B u) H1 → va_D A (pre ++ B u) → va_S A s.heap H1 locs1 → W p l e R s m args below meth c H1 locs1 (cells + mc) (slots + ms) Q (F0 m (pc + 3) ls rest)) : W p l e R s m args below meth c H locs cells slots Q (F0 m pc ls st0) := by
  have hA2 : ∀ q, H.size ≤ q → A q := fun q hq => hA q (Nat.le_trans hS.1 hq)
  have hF : ∀ q, va_A wc H.size q → A q := fun q h => A_sub (D_app hD).2.1 hA2 h
  refine va_callv hr hS (fun q _ h => hF q h) hF (fun u t H1 locs1 ht hvm hx hB hz hk hS1 => ?_)
  rw [ht] at hB
  obtain ⟨g1, g2⟩ := zJoinN hP hD hA2 hk hB.1 hB.2
  exact kk u H1 locs1 g1 g2 hS1
theorem zrIE (S : CallFix p m c cc nL s args Ts own) (hM : Met l y wy rm (va_Pc (.ref b :: As) (cP D k wc H.size)) Qc mc ms (va_A wc H.size)) (cw : CallB R s args own index y bytes maxL none wy rm mc ms n ∧ y.name = "<init>" ∧ (Cond.instanceMethod y).before args s = true) (hK : va_K D vwCl (tyA k) s) (hP : va_P D vwCl (pre ++ wc) H) (hD : va_D A (pre ++ wc)) (hS : va_S A s.heap H locs) (hA : ∀ q, s.heap.size ≤ q → A q) (hm : amb k A s s.heap)
    (hn : As.length = n) (hsize : ls.size = nL) (hstack : st0 = As.reverse ++ .ref b :: rest) (hW : (rest.map fun v => v.category).sum ≤ 8) (hdg : decode cc pc = .ok (.invokespecial index, 3)) (hcs : cells + mc ≤ R.cells ∧ slots + ms ≤ R.slots) :
    va_Run p l e R s m args below meth c H locs cells slots mc ms (F0 m pc ls st0) rest (Qc (Value.ref b :: As).toArray) (va_A wc H.size) :=
  va_runI (As := As) (rest := rest) (g := F0 m pc ls st0) S hM cw ⟨cP.blind, fun U hU hWm => ⟨rfl, zPreE hP hD hK hS hA hm hU hWm⟩⟩ rfl hn hsize hstack (lv_room (rest := st0) hW) hdg hcs
end ZN
set_option maxHeartbeats 4000000 in
set_option maxRecDepth 100000 in
theorem whole_start {p : Program} {e : Env} {s : State} {m : MethodId} {below : List Frame} {meth : Method} {c : Code} (l : Launch) (hflags : l.flags = flags0) {b L : Nat} {xs : Nat → Int32} (hL : L ≤ 3072) (C0 : lw_At p s m meth c b L xs) : W p l e room_1 s m #[Value.ref b] below meth c s.heap [] 0 0 (lw_Z below #[Value.ref b] s) (entryFrame m ([Value.ref b] : List Value).toArray 4) := by
  obtain ⟨hx, hb, hr, hml, hown0, hts, hX, hbl, hlocks, hgv⟩ := id C0
  have hown : s.vm.findClass "ZoneGuardLaw" = some m.cls := hown0
  have ht := wbL hts
  have hA : ∀ q : Nat, s.heap.size ≤ q → (fun q : Nat => s.heap.size ≤ q) q := fun _ h => h
  obtain ⟨D, k, hK, hm⟩ := amb_start hts hgv
  have hS : va_S (fun q : Nat => s.heap.size ≤ q) s.heap s.heap [] := va_S.rf
  have hP : va_P D vwCl [] s.heap := fun k q h => by simp at h
  have hD : va_D (fun q : Nat => s.heap.size ≤ q) [] := ⟨fun i j p q h => by simp at h, fun k q h => by simp at h⟩
  have hl := lv_entry ([.ref b]) (n := 4) (Nat.le_of_ble_eq_true rfl)
  rw [lg_entry_eq]
  generalize (lg_sl ([.ref b]) ++ List.replicate (4 - (lg_sl ([.ref b])).length) Slot.unset).toArray = ls at hl ⊢
  have hl : lv_has ls 4 [(0, .ref b)] := hl
  refine va_new (ci := 5) (fs := [.null, .null, .null, .null, .null, .int 0, .int 0, .int 0]) (C := RX5) (T := TX5) (N := 8) hx hb ht hiX5 tyX5 tyX5_ok hown (ht _ wb86) (ht _ wb87) (ht _ wb72) hK hP hD hS hA rfl (fun j hj => by rcases (show j = 0 ∨ j = 1 ∨ j = 2 ∨ j = 3 ∨ j = 4 ∨ j = 5 ∨ j = 6 ∨ j = 7 by omega) with rfl | rfl | rfl | rfl | rfl | rfl | rfl | rfl <;> rfl) (Nat.le_of_ble_eq_true rfl) (Nat.le_of_ble_eq_true rfl) dL_law_0 (fun xq H hP hD hS => ?_)
  refine lv_dup hx hb dL_law_3 rfl ?_
  refine znE (pre := []) (wc := [(xq, .inr (5, [.null, .null, .null, .null, .null, .int 0, .int 0, .int 0]))]) (B := B_X5_init k xq) (zrIE (pre := []) (wc := [(xq, .inr (5, [.null, .null, .null, .null, .null, .int 0, .int 0, .int 0]))]) (As := []) (rest := [.ref xq]) ⟨hx, hb, hml, hown, ht⟩ (c_X5_init l D k xq _) (cwI 0 ht (gdN wb90) rfl rfl rfl (ht _ wb72) (ht _ wb88) (ht _ wb89) rfl (by decide +kernel) ⟨Nat.le_of_ble_eq_true rfl, Nat.le_of_ble_eq_true rfl⟩) hK hP hD hS hA hm rfl hl.1 rfl (Nat.le_of_ble_eq_true rfl) dL_law_4 ⟨Nat.le_of_ble_eq_true rfl, Nat.le_of_ble_eq_true rfl⟩) hP hD hS hA (fun u H locs hP hD hS => ?_)
  refine lv_astore_n (lv' := [(1, .ref xq), (0, .ref b)]) hx hb dL_law_7 rfl hl (by decide) rfl (fun ls hl => ?_)
  have hP : va_P D vwCl (B_X5_init k xq u) H := hP
  have hD : va_D (fun q : Nat => s.heap.size ≤ q) (B_X5_init k xq u) := hD
  refine va_new (ci := 6) (fs := [.null, .null, .int 0, .null, .null, .int 0, .null, .null, .null, .int 0, .int 0, .int 0, .int 0, .long 0]) (C := RX6) (T := TX6) (N := 14) hx hb ht hiX6 tyX6 tyX6_ok hown (ht _ wb759) (ht _ wb760) (ht _ wb80) hK hP hD hS hA rfl (fun j hj => by rcases (show j = 0 ∨ j = 1 ∨ j = 2 ∨ j = 3 ∨ j = 4 ∨ j = 5 ∨ j = 6 ∨ j = 7 ∨ j = 8 ∨ j = 9 ∨ j = 10 ∨ j = 11 ∨ j = 12 ∨ j = 13 by omega) with rfl | rfl | rfl | rfl | rfl | rfl | rfl | rfl | rfl | rfl | rfl | rfl | rfl | rfl <;> rfl) (Nat.le_of_ble_eq_true rfl) (Nat.le_of_ble_eq_true rfl) dL_law_8 (fun oq H hP hD hS => ?_)
  refine lv_dup hx hb dL_law_11 rfl ?_
  refine znE (pre := B_X5_init k xq u) (wc := [(oq, .inr (6, [.null, .null, .int 0, .null, .null, .int 0, .null, .null, .null, .int 0, .int 0, .int 0, .int 0, .long 0]))]) (B := B_X6_init k oq) (zrIE (pre := B_X5_init k xq u) (wc := [(oq, .inr (6, [.null, .null, .int 0, .null, .null, .int 0, .null, .null, .null, .int 0, .int 0, .int 0, .int 0, .long 0]))]) (As := []) (rest := [.ref oq]) ⟨hx, hb, hml, hown, ht⟩ (c_X6_init l D k oq _) (cwI 0 ht (gdN wb763) rfl rfl rfl (ht _ wb80) (ht _ wb761) (ht _ wb762) rfl (by decide +kernel) ⟨Nat.le_of_ble_eq_true rfl, Nat.le_of_ble_eq_true rfl⟩) hK hP hD hS hA hm rfl hl.1 rfl (Nat.le_of_ble_eq_true rfl) dL_law_12 ⟨Nat.le_of_ble_eq_true rfl, Nat.le_of_ble_eq_true rfl⟩) hP hD hS hA (fun v H locs hP hD hS => ?_)
  refine lv_astore_n (lv' := [(2, .ref oq), (1, .ref xq), (0, .ref b)]) hx hb dL_law_15 rfl hl (by decide) rfl (fun ls hl => ?_)
  refine lv_iconst (v := 0) hx hb dL_law_16 (by decide) ?_
  refine lv_istore_n (lv' := [(3, .int 0), (2, .ref oq), (1, .ref xq), (0, .ref b)]) hx hb dL_law_17 rfl hl (by decide) rfl (fun ls hl => ?_)
  obtain ⟨ws, hI, hP, hD⟩ := inv_start hP hD
  exact law_loop hL C0 hK hm (L + 1) 0 (Nat.zero_le L) (by omega) ws H locs ls hI hP hD hS (lv_sub hl [3, 2, 1, 0] rfl)
