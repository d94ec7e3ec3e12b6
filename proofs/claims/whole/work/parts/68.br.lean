section GW
variable {p : Program} {l : Launch} {e : Env} {R : Room} {s : State} {m : MethodId} {args : Array Value} {below : List Frame} {meth : Method} {c : Code} {H : Heap} {locs : List Loc} {cells slots : Nat} {Q : State → Prop}
variable {rest st0 : List Value} {pc : Nat} {ls : Array Slot} {D : va_G} {A : Nat → Prop} {ws w1 : va_W}
theorem ziW {r : Int32} {a : Array Value} (hr : va_Run p l e R s m args below meth c H locs cells slots 0 0 (F0 m pc ls st0) rest (va_Qi (fun x (_ : Unit) => x = r) (fun _ t => va_P D vwCl w1 t.heap) (va_A ws H.size) a) (va_A ws H.size)) (hD : va_D A ws) (hS : va_S A s.heap H locs) (hA : ∀ q, s.heap.size ≤ q → A q) (hf : w1.map Prod.fst = ws.map Prod.fst)
    (kk : ∀ (H1 : Heap) (locs1 : List Loc), va_P D vwCl w1 H1 → va_D A w1 → va_S A s.heap H1 locs1 → W p l e R s m args below meth c H1 locs1 cells slots Q (F0 m (pc + 3) ls (.int r :: rest))) : W p l e R s m args below meth c H locs cells slots Q (F0 m pc ls st0) := by
  have hF : ∀ q, va_A ws H.size q → A q := fun q h => A_sub hD (fun q hq => hA q (Nat.le_trans hS.1 hq)) h
  refine va_calli hr hS (fun q _ h => hF q h) hF (fun x u t H1 locs1 ht hvm hx hB hz hk hS1 => ?_)
  rw [ht] at hB
  subst hx
  exact kk H1 locs1 hB (zD_of hD (fun k q hq => zFstAt hf hq)) hS1
theorem zlW {r : Int64} {a : Array Value} (hr : va_Run p l e R s m args below meth c H locs cells slots 0 0 (F0 m pc ls st0) rest (va_Ql (fun x (_ : Unit) => x = r) (fun _ t => va_P D vwCl w1 t.heap) (va_A ws H.size) a) (va_A ws H.size)) (hD : va_D A ws) (hS : va_S A s.heap H locs) (hA : ∀ q, s.heap.size ≤ q → A q) (hf : w1.map Prod.fst = ws.map Prod.fst)
    (kk : ∀ (H1 : Heap) (locs1 : List Loc), va_P D vwCl w1 H1 → va_D A w1 → va_S A s.heap H1 locs1 → W p l e R s m args below meth c H1 locs1 cells slots Q (F0 m (pc + 3) ls (.long r :: rest))) : W p l e R s m args below meth c H locs cells slots Q (F0 m pc ls st0) := by
  have hF : ∀ q, va_A ws H.size q → A q := fun q h => A_sub hD (fun q hq => hA q (Nat.le_trans hS.1 hq)) h
  refine va_calll hr hS (fun q _ h => hF q h) hF (fun x u t H1 locs1 ht hvm hx hB hz hk hS1 => ?_)
  rw [ht] at hB
  subst hx
  exact kk H1 locs1 hB (zD_of hD (fun k q hq => zFstAt hf hq)) hS1
end GW
section BR
variable {p : Program} {l : Launch} {e : Env} {s : State} {m : MethodId} {below : List Frame} {meth : Method} {c : Code} {b L : Nat} {xs : Nat → Int32} {D : va_G} {k : Nat → Nat} {Q : State → Prop} {xq oq i : Nat} {ls : Array Slot} {H : Heap} {locs : List Loc} {ws : va_W}
theorem B_zone (C0 : lw_At p s m meth c b L xs) (hK : va_K D vwCl (tyA k) s) (hm : amb k (fun q : Nat => s.heap.size ≤ q) s s.heap) (hL : L ≤ 3072) (hi : i + 6 ≤ L) (hI : INV k xq oq ws) (hP : va_P D vwCl ws H) (hD : va_D (fun q : Nat => s.heap.size ≤ q) ws) (hS : va_S (fun q : Nat => s.heap.size ≤ q) s.heap H locs) (hl : lv_has ls 4 [(0, .ref b), (1, .ref xq), (2, .ref oq), (3, .int (nI i))]) (kk : ∀ (ws' : va_W) (H' : Heap) (locs' : List Loc), INV k xq oq ws' → va_P D vwCl ws' H' → va_D (fun q : Nat => s.heap.size ≤ q) ws' → va_S (fun q : Nat => s.heap.size ≤ q) s.heap H' locs' → W p l e room_1 s m #[Value.ref b] below meth c H' locs' 97 5834 Q (F0 m 945 ls [])) : W p l e room_1 s m #[Value.ref b] below meth c H locs 97 5834 Q (F0 m 160 ls []) := by
  obtain ⟨hx, hb, hr, hml, hown, hts, hX, hbl, hlocks, hgv⟩ := C0
  have hown : s.vm.findClass "ZoneGuardLaw" = some m.cls := hown
  have ht := wbL hts
  have hA : ∀ q : Nat, s.heap.size ≤ q → (fun q : Nat => s.heap.size ≤ q) q := fun _ h => h
  have hbA : ¬ (fun q : Nat => s.heap.size ≤ q) b := Nat.not_le.mpr hbl
  have h1 : vp_in (nI i + 1) L := by
    rw [show nI i + 1 = nI (i + 1) from nI_add i 1]
    exact vp_in_nI (by omega) (by omega)
  have h2 : vp_in (nI i + 2) L := by
    rw [show nI i + 2 = nI (i + 2) from nI_add i 2]
    exact vp_in_nI (by omega) (by omega)
  have h3 : vp_in (nI i + 3) L := by
    rw [show nI i + 3 = nI (i + 3) from nI_add i 3]
    exact vp_in_nI (by omega) (by omega)
  obtain ⟨r, w1, w2, s1, s2, s3, s4, ⟨⟨i1, fs1, s5⟩, -⟩, ⟨-, i2, fs2, s6⟩, s7⟩ := S_zone l D hI (xs (Int32.toNatClampNeg (nI i + 1))) (xs (Int32.toNatClampNeg (nI i + 2))) (xs (Int32.toNatClampNeg (nI i + 3)))
  refine lv_aload_n hx hb dL_law_160 rfl (lv_at hl 1 rfl) ?_
  refine lv_aload_n hx hb dL_law_161 rfl (lv_at hl 0 rfl) ?_
  refine lv_iload_n hx hb dL_law_162 rfl (lv_at hl 3 rfl) ?_
  refine lv_iconst (v := 1) hx hb dL_law_163 (by decide) ?_
  refine lv_iadd hx hb dL_law_164 ?_
  refine va_sld hx hb hX hbl hbA hS h1 dL_law_165 ?_
  refine lv_aload_n hx hb dL_law_166 rfl (lv_at hl 0 rfl) ?_
  refine lv_iload_n hx hb dL_law_167 rfl (lv_at hl 3 rfl) ?_
  refine lv_iconst (v := 2) hx hb dL_law_168 (by decide) ?_
  refine lv_iadd hx hb dL_law_169 ?_
  refine va_sld hx hb hX hbl hbA hS h2 dL_law_170 ?_
  refine lv_aload_n hx hb dL_law_171 rfl (lv_at hl 0 rfl) ?_
  refine lv_iload_n hx hb dL_law_172 rfl (lv_at hl 3 rfl) ?_
  refine lv_iconst (v := 3) hx hb dL_law_173 (by decide) ?_
  refine lv_iadd hx hb dL_law_174 ?_
  refine va_sld hx hb hX hbl hbA hS h3 dL_law_175 ?_
  refine ziW (zrVE (pre := []) (wc := ws) (C := RX5) (T := TX5) (N := 8) (b := xq) (As := [.int (xs (Int32.toNatClampNeg (nI i + 1))), .int (xs (Int32.toNatClampNeg (nI i + 2))), .int (xs (Int32.toNatClampNeg (nI i + 3)))]) (rest := []) ⟨hx, hb, hml, hown, ht⟩ (s1 _) (cwV 3 ht (gdV wb264 wb265 wb266 wb72 wb267) rfl rfl rfl (by decide +kernel) ⟨Nat.le_of_ble_eq_true rfl, Nat.le_of_ble_eq_true rfl⟩) hK hP hD hS hA hm i1 5 rfl s5 rfl hl.1 rfl (Nat.le_of_ble_eq_true rfl) dL_law_176 ⟨Nat.le_of_ble_eq_true rfl, Nat.le_of_ble_eq_true rfl⟩) hD hS hA s3 (fun H locs hP hD hS => ?_)
  refine lv_aload_n hx hb dL_law_179 rfl (lv_at hl 2 rfl) ?_
  refine lv_aload_n hx hb dL_law_180 rfl (lv_at hl 0 rfl) ?_
  refine lv_iload_n hx hb dL_law_181 rfl (lv_at hl 3 rfl) ?_
  refine lv_iconst (v := 1) hx hb dL_law_182 (by decide) ?_
  refine lv_iadd hx hb dL_law_183 ?_
  refine va_sld hx hb hX hbl hbA hS h1 dL_law_184 ?_
  refine lv_aload_n hx hb dL_law_185 rfl (lv_at hl 0 rfl) ?_
  refine lv_iload_n hx hb dL_law_186 rfl (lv_at hl 3 rfl) ?_
  refine lv_iconst (v := 2) hx hb dL_law_187 (by decide) ?_
  refine lv_iadd hx hb dL_law_188 ?_
  refine va_sld hx hb hX hbl hbA hS h2 dL_law_189 ?_
  refine lv_aload_n hx hb dL_law_190 rfl (lv_at hl 0 rfl) ?_
  refine lv_iload_n hx hb dL_law_191 rfl (lv_at hl 3 rfl) ?_
  refine lv_iconst (v := 3) hx hb dL_law_192 (by decide) ?_
  refine lv_iadd hx hb dL_law_193 ?_
  refine va_sld hx hb hX hbl hbA hS h3 dL_law_194 ?_
  refine ziW (zrVE (pre := []) (wc := w1) (C := RX6) (T := TX6) (N := 14) (b := oq) (As := [.int (xs (Int32.toNatClampNeg (nI i + 1))), .int (xs (Int32.toNatClampNeg (nI i + 2))), .int (xs (Int32.toNatClampNeg (nI i + 3)))]) (rest := [.int r]) ⟨hx, hb, hml, hown, ht⟩ (s2 _) (cwV 3 ht (gdV wb816 wb817 wb818 wb80 wb819) rfl rfl rfl (by decide +kernel) ⟨Nat.le_of_ble_eq_true rfl, Nat.le_of_ble_eq_true rfl⟩) hK hP hD hS hA hm i2 6 rfl s6 rfl hl.1 rfl (Nat.le_of_ble_eq_true rfl) dL_law_195 ⟨Nat.le_of_ble_eq_true rfl, Nat.le_of_ble_eq_true rfl⟩) hD hS hA s4 (fun H locs hP hD hS => ?_)
  exact lv_icmp_eq (tgt := 945) hx hb dL_law_198 (by decide) (fun _ => kk w2 H locs s7 hP hD hS) (fun c9 => absurd rfl c9)
theorem B_zoneOf (C0 : lw_At p s m meth c b L xs) (hK : va_K D vwCl (tyA k) s) (hm : amb k (fun q : Nat => s.heap.size ≤ q) s s.heap) (hL : L ≤ 3072) (hi : i + 6 ≤ L) (hI : INV k xq oq ws) (hP : va_P D vwCl ws H) (hD : va_D (fun q : Nat => s.heap.size ≤ q) ws) (hS : va_S (fun q : Nat => s.heap.size ≤ q) s.heap H locs) (hl : lv_has ls 4 [(0, .ref b), (1, .ref xq), (2, .ref oq), (3, .int (nI i))]) (kk : ∀ (ws' : va_W) (H' : Heap) (locs' : List Loc), INV k xq oq ws' → va_P D vwCl ws' H' → va_D (fun q : Nat => s.heap.size ≤ q) ws' → va_S (fun q : Nat => s.heap.size ≤ q) s.heap H' locs' → W p l e room_1 s m #[Value.ref b] below meth c H' locs' 97 5834 Q (F0 m 945 ls [])) : W p l e room_1 s m #[Value.ref b] below meth c H locs 97 5834 Q (F0 m 203 ls []) := by
  obtain ⟨hx, hb, hr, hml, hown, hts, hX, hbl, hlocks, hgv⟩ := C0
  have hown : s.vm.findClass "ZoneGuardLaw" = some m.cls := hown
  have ht := wbL hts
  have hA : ∀ q : Nat, s.heap.size ≤ q → (fun q : Nat => s.heap.size ≤ q) q := fun _ h => h
  have hbA : ¬ (fun q : Nat => s.heap.size ≤ q) b := Nat.not_le.mpr hbl
  have h1 : vp_in (nI i + 1) L := by
    rw [show nI i + 1 = nI (i + 1) from nI_add i 1]
    exact vp_in_nI (by omega) (by omega)
  obtain ⟨r, w1, w2, s1, s2, s3, s4, ⟨⟨i1, fs1, s5⟩, -⟩, ⟨-, i2, fs2, s6⟩, s7⟩ := S_zoneOf l D hI (xs (Int32.toNatClampNeg (nI i + 1)))
  refine lv_aload_n hx hb dL_law_203 rfl (lv_at hl 1 rfl) ?_
  refine lv_aload_n hx hb dL_law_204 rfl (lv_at hl 0 rfl) ?_
  refine lv_iload_n hx hb dL_law_205 rfl (lv_at hl 3 rfl) ?_
  refine lv_iconst (v := 1) hx hb dL_law_206 (by decide) ?_
  refine lv_iadd hx hb dL_law_207 ?_
  refine va_sld hx hb hX hbl hbA hS h1 dL_law_208 ?_
  refine ziW (zrVE (pre := []) (wc := ws) (C := RX5) (T := TX5) (N := 8) (b := xq) (As := [.int (xs (Int32.toNatClampNeg (nI i + 1)))]) (rest := []) ⟨hx, hb, hml, hown, ht⟩ (s1 _) (cwV 1 ht (gdV wb296 wb297 wb298 wb72 wb299) rfl rfl rfl (by decide +kernel) ⟨Nat.le_of_ble_eq_true rfl, Nat.le_of_ble_eq_true rfl⟩) hK hP hD hS hA hm i1 5 rfl s5 rfl hl.1 rfl (Nat.le_of_ble_eq_true rfl) dL_law_209 ⟨Nat.le_of_ble_eq_true rfl, Nat.le_of_ble_eq_true rfl⟩) hD hS hA s3 (fun H locs hP hD hS => ?_)
  refine lv_aload_n hx hb dL_law_212 rfl (lv_at hl 2 rfl) ?_
  refine lv_aload_n hx hb dL_law_213 rfl (lv_at hl 0 rfl) ?_
  refine lv_iload_n hx hb dL_law_214 rfl (lv_at hl 3 rfl) ?_
  refine lv_iconst (v := 1) hx hb dL_law_215 (by decide) ?_
  refine lv_iadd hx hb dL_law_216 ?_
  refine va_sld hx hb hX hbl hbA hS h1 dL_law_217 ?_
  refine ziW (zrVE (pre := []) (wc := w1) (C := RX6) (T := TX6) (N := 14) (b := oq) (As := [.int (xs (Int32.toNatClampNeg (nI i + 1)))]) (rest := [.int r]) ⟨hx, hb, hml, hown, ht⟩ (s2 _) (cwV 1 ht (gdV wb834 wb835 wb836 wb80 wb837) rfl rfl rfl (by decide +kernel) ⟨Nat.le_of_ble_eq_true rfl, Nat.le_of_ble_eq_true rfl⟩) hK hP hD hS hA hm i2 6 rfl s6 rfl hl.1 rfl (Nat.le_of_ble_eq_true rfl) dL_law_218 ⟨Nat.le_of_ble_eq_true rfl, Nat.le_of_ble_eq_true rfl⟩) hD hS hA s4 (fun H locs hP hD hS => ?_)
  exact lv_icmp_eq (tgt := 945) hx hb dL_law_221 (by decide) (fun _ => kk w2 H locs s7 hP hD hS) (fun c9 => absurd rfl c9)
theorem B_rule (C0 : lw_At p s m meth c b L xs) (hK : va_K D vwCl (tyA k) s) (hm : amb k (fun q : Nat => s.heap.size ≤ q) s s.heap) (hL : L ≤ 3072) (hi : i + 6 ≤ L) (hI : INV k xq oq ws) (hP : va_P D vwCl ws H) (hD : va_D (fun q : Nat => s.heap.size ≤ q) ws) (hS : va_S (fun q : Nat => s.heap.size ≤ q) s.heap H locs) (hl : lv_has ls 4 [(0, .ref b), (1, .ref xq), (2, .ref oq), (3, .int (nI i))]) (kk : ∀ (ws' : va_W) (H' : Heap) (locs' : List Loc), INV k xq oq ws' → va_P D vwCl ws' H' → va_D (fun q : Nat => s.heap.size ≤ q) ws' → va_S (fun q : Nat => s.heap.size ≤ q) s.heap H' locs' → W p l e room_1 s m #[Value.ref b] below meth c H' locs' 97 5834 Q (F0 m 945 ls [])) : W p l e room_1 s m #[Value.ref b] below meth c H locs 97 5834 Q (F0 m 226 ls []) := by
  obtain ⟨hx, hb, hr, hml, hown, hts, hX, hbl, hlocks, hgv⟩ := C0
  have hown : s.vm.findClass "ZoneGuardLaw" = some m.cls := hown
  have ht := wbL hts
  have hA : ∀ q : Nat, s.heap.size ≤ q → (fun q : Nat => s.heap.size ≤ q) q := fun _ h => h
  have hbA : ¬ (fun q : Nat => s.heap.size ≤ q) b := Nat.not_le.mpr hbl
  have h1 : vp_in (nI i + 1) L := by
    rw [show nI i + 1 = nI (i + 1) from nI_add i 1]
    exact vp_in_nI (by omega) (by omega)
  have h2 : vp_in (nI i + 2) L := by
    rw [show nI i + 2 = nI (i + 2) from nI_add i 2]
    exact vp_in_nI (by omega) (by omega)
  obtain ⟨r, w1, w2, s1, s2, s3, s4, ⟨⟨i1, fs1, s5⟩, -⟩, ⟨-, i2, fs2, s6⟩, s7⟩ := S_rule l D hI (xs (Int32.toNatClampNeg (nI i + 1))) (xs (Int32.toNatClampNeg (nI i + 2)))
  refine lv_aload_n hx hb dL_law_226 rfl (lv_at hl 1 rfl) ?_
  refine lv_aload_n hx hb dL_law_227 rfl (lv_at hl 0 rfl) ?_
  refine lv_iload_n hx hb dL_law_228 rfl (lv_at hl 3 rfl) ?_
  refine lv_iconst (v := 1) hx hb dL_law_229 (by decide) ?_
  refine lv_iadd hx hb dL_law_230 ?_
  refine va_sld hx hb hX hbl hbA hS h1 dL_law_231 ?_
  refine lv_aload_n hx hb dL_law_232 rfl (lv_at hl 0 rfl) ?_
  refine lv_iload_n hx hb dL_law_233 rfl (lv_at hl 3 rfl) ?_
  refine lv_iconst (v := 2) hx hb dL_law_234 (by decide) ?_
  refine lv_iadd hx hb dL_law_235 ?_
  refine va_sld hx hb hX hbl hbA hS h2 dL_law_236 ?_
  refine ziW (zrVE (pre := []) (wc := ws) (C := RX5) (T := TX5) (N := 8) (b := xq) (As := [.int (xs (Int32.toNatClampNeg (nI i + 1))), .int (xs (Int32.toNatClampNeg (nI i + 2)))]) (rest := []) ⟨hx, hb, hml, hown, ht⟩ (s1 _) (cwV 2 ht (gdV wb300 wb301 wb302 wb72 wb303) rfl rfl rfl (by decide +kernel) ⟨Nat.le_of_ble_eq_true rfl, Nat.le_of_ble_eq_true rfl⟩) hK hP hD hS hA hm i1 5 rfl s5 rfl hl.1 rfl (Nat.le_of_ble_eq_true rfl) dL_law_237 ⟨Nat.le_of_ble_eq_true rfl, Nat.le_of_ble_eq_true rfl⟩) hD hS hA s3 (fun H locs hP hD hS => ?_)
  refine lv_aload_n hx hb dL_law_240 rfl (lv_at hl 2 rfl) ?_
  refine lv_aload_n hx hb dL_law_241 rfl (lv_at hl 0 rfl) ?_
  refine lv_iload_n hx hb dL_law_242 rfl (lv_at hl 3 rfl) ?_
  refine lv_iconst (v := 1) hx hb dL_law_243 (by decide) ?_
  refine lv_iadd hx hb dL_law_244 ?_
  refine va_sld hx hb hX hbl hbA hS h1 dL_law_245 ?_
  refine lv_aload_n hx hb dL_law_246 rfl (lv_at hl 0 rfl) ?_
  refine lv_iload_n hx hb dL_law_247 rfl (lv_at hl 3 rfl) ?_
  refine lv_iconst (v := 2) hx hb dL_law_248 (by decide) ?_
  refine lv_iadd hx hb dL_law_249 ?_
  refine va_sld hx hb hX hbl hbA hS h2 dL_law_250 ?_
  refine ziW (zrVE (pre := []) (wc := w1) (C := RX6) (T := TX6) (N := 14) (b := oq) (As := [.int (xs (Int32.toNatClampNeg (nI i + 1))), .int (xs (Int32.toNatClampNeg (nI i + 2)))]) (rest := [.int r]) ⟨hx, hb, hml, hown, ht⟩ (s2 _) (cwV 2 ht (gdV wb838 wb839 wb840 wb80 wb841) rfl rfl rfl (by decide +kernel) ⟨Nat.le_of_ble_eq_true rfl, Nat.le_of_ble_eq_true rfl⟩) hK hP hD hS hA hm i2 6 rfl s6 rfl hl.1 rfl (Nat.le_of_ble_eq_true rfl) dL_law_251 ⟨Nat.le_of_ble_eq_true rfl, Nat.le_of_ble_eq_true rfl⟩) hD hS hA s4 (fun H locs hP hD hS => ?_)
  exact lv_icmp_eq (tgt := 945) hx hb dL_law_254 (by decide) (fun _ => kk w2 H locs s7 hP hD hS) (fun c9 => absurd rfl c9)
theorem B_sets (C0 : lw_At p s m meth c b L xs) (hK : va_K D vwCl (tyA k) s) (hm : amb k (fun q : Nat => s.heap.size ≤ q) s s.heap) (hL : L ≤ 3072) (hi : i + 6 ≤ L) (hI : INV k xq oq ws) (hP : va_P D vwCl ws H) (hD : va_D (fun q : Nat => s.heap.size ≤ q) ws) (hS : va_S (fun q : Nat => s.heap.size ≤ q) s.heap H locs) (hl : lv_has ls 4 [(0, .ref b), (1, .ref xq), (2, .ref oq), (3, .int (nI i))]) (kk : ∀ (ws' : va_W) (H' : Heap) (locs' : List Loc), INV k xq oq ws' → va_P D vwCl ws' H' → va_D (fun q : Nat => s.heap.size ≤ q) ws' → va_S (fun q : Nat => s.heap.size ≤ q) s.heap H' locs' → W p l e room_1 s m #[Value.ref b] below meth c H' locs' 97 5834 Q (F0 m 945 ls [])) : W p l e room_1 s m #[Value.ref b] below meth c H locs 97 5834 Q (F0 m 259 ls []) := by
  obtain ⟨hx, hb, hr, hml, hown, hts, hX, hbl, hlocks, hgv⟩ := C0
  have hown : s.vm.findClass "ZoneGuardLaw" = some m.cls := hown
  have ht := wbL hts
  have hA : ∀ q : Nat, s.heap.size ≤ q → (fun q : Nat => s.heap.size ≤ q) q := fun _ h => h
  have hbA : ¬ (fun q : Nat => s.heap.size ≤ q) b := Nat.not_le.mpr hbl
  have h1 : vp_in (nI i + 1) L := by
    rw [show nI i + 1 = nI (i + 1) from nI_add i 1]
    exact vp_in_nI (by omega) (by omega)
  have h2 : vp_in (nI i + 2) L := by
    rw [show nI i + 2 = nI (i + 2) from nI_add i 2]
    exact vp_in_nI (by omega) (by omega)
  have h3 : vp_in (nI i + 3) L := by
    rw [show nI i + 3 = nI (i + 3) from nI_add i 3]
    exact vp_in_nI (by omega) (by omega)
  obtain ⟨r, w1, w2, s1, s2, s3, s4, ⟨⟨i1, fs1, s5⟩, -⟩, ⟨-, i2, fs2, s6⟩, s7⟩ := S_sets l D hI (xs (Int32.toNatClampNeg (nI i + 1))) (xs (Int32.toNatClampNeg (nI i + 2))) (xs (Int32.toNatClampNeg (nI i + 3)))
  refine lv_aload_n hx hb dL_law_259 rfl (lv_at hl 1 rfl) ?_
  refine lv_aload_n hx hb dL_law_260 rfl (lv_at hl 0 rfl) ?_
  refine lv_iload_n hx hb dL_law_261 rfl (lv_at hl 3 rfl) ?_
  refine lv_iconst (v := 1) hx hb dL_law_262 (by decide) ?_
  refine lv_iadd hx hb dL_law_263 ?_
  refine va_sld hx hb hX hbl hbA hS h1 dL_law_264 ?_
  refine lv_aload_n hx hb dL_law_265 rfl (lv_at hl 0 rfl) ?_
  refine lv_iload_n hx hb dL_law_266 rfl (lv_at hl 3 rfl) ?_
  refine lv_iconst (v := 2) hx hb dL_law_267 (by decide) ?_
  refine lv_iadd hx hb dL_law_268 ?_
  refine va_sld hx hb hX hbl hbA hS h2 dL_law_269 ?_
  refine lv_aload_n hx hb dL_law_270 rfl (lv_at hl 0 rfl) ?_
  refine lv_iload_n hx hb dL_law_271 rfl (lv_at hl 3 rfl) ?_
  refine lv_iconst (v := 3) hx hb dL_law_272 (by decide) ?_
  refine lv_iadd hx hb dL_law_273 ?_
  refine va_sld hx hb hX hbl hbA hS h3 dL_law_274 ?_
  refine ziW (zrVE (pre := []) (wc := ws) (C := RX5) (T := TX5) (N := 8) (b := xq) (As := [.int (xs (Int32.toNatClampNeg (nI i + 1))), .int (xs (Int32.toNatClampNeg (nI i + 2))), .int (xs (Int32.toNatClampNeg (nI i + 3)))]) (rest := []) ⟨hx, hb, hml, hown, ht⟩ (s1 _) (cwV 3 ht (gdV wb330 wb331 wb332 wb72 wb333) rfl rfl rfl (by decide +kernel) ⟨Nat.le_of_ble_eq_true rfl, Nat.le_of_ble_eq_true rfl⟩) hK hP hD hS hA hm i1 5 rfl s5 rfl hl.1 rfl (Nat.le_of_ble_eq_true rfl) dL_law_275 ⟨Nat.le_of_ble_eq_true rfl, Nat.le_of_ble_eq_true rfl⟩) hD hS hA s3 (fun H locs hP hD hS => ?_)
  refine lv_aload_n hx hb dL_law_278 rfl (lv_at hl 2 rfl) ?_
  refine lv_aload_n hx hb dL_law_279 rfl (lv_at hl 0 rfl) ?_
  refine lv_iload_n hx hb dL_law_280 rfl (lv_at hl 3 rfl) ?_
  refine lv_iconst (v := 1) hx hb dL_law_281 (by decide) ?_
  refine lv_iadd hx hb dL_law_282 ?_
  refine va_sld hx hb hX hbl hbA hS h1 dL_law_283 ?_
  refine lv_aload_n hx hb dL_law_284 rfl (lv_at hl 0 rfl) ?_
  refine lv_iload_n hx hb dL_law_285 rfl (lv_at hl 3 rfl) ?_
  refine lv_iconst (v := 2) hx hb dL_law_286 (by decide) ?_
  refine lv_iadd hx hb dL_law_287 ?_
  refine va_sld hx hb hX hbl hbA hS h2 dL_law_288 ?_
  refine lv_aload_n hx hb dL_law_289 rfl (lv_at hl 0 rfl) ?_
  refine lv_iload_n hx hb dL_law_290 rfl (lv_at hl 3 rfl) ?_
  refine lv_iconst (v := 3) hx hb dL_law_291 (by decide) ?_
  refine lv_iadd hx hb dL_law_292 ?_
  refine va_sld hx hb hX hbl hbA hS h3 dL_law_293 ?_
  refine ziW (zrVE (pre := []) (wc := w1) (C := RX6) (T := TX6) (N := 14) (b := oq) (As := [.int (xs (Int32.toNatClampNeg (nI i + 1))), .int (xs (Int32.toNatClampNeg (nI i + 2))), .int (xs (Int32.toNatClampNeg (nI i + 3)))]) (rest := [.int r]) ⟨hx, hb, hml, hown, ht⟩ (s2 _) (cwV 3 ht (gdV wb853 wb854 wb855 wb80 wb856) rfl rfl rfl (by decide +kernel) ⟨Nat.le_of_ble_eq_true rfl, Nat.le_of_ble_eq_true rfl⟩) hK hP hD hS hA hm i2 6 rfl s6 rfl hl.1 rfl (Nat.le_of_ble_eq_true rfl) dL_law_294 ⟨Nat.le_of_ble_eq_true rfl, Nat.le_of_ble_eq_true rfl⟩) hD hS hA s4 (fun H locs hP hD hS => ?_)
  exact lv_icmp_eq (tgt := 945) hx hb dL_law_297 (by decide) (fun _ => kk w2 H locs s7 hP hD hS) (fun c9 => absurd rfl c9)
theorem B_drops (C0 : lw_At p s m meth c b L xs) (hK : va_K D vwCl (tyA k) s) (hm : amb k (fun q : Nat => s.heap.size ≤ q) s s.heap) (hL : L ≤ 3072) (hi : i + 6 ≤ L) (hI : INV k xq oq ws) (hP : va_P D vwCl ws H) (hD : va_D (fun q : Nat => s.heap.size ≤ q) ws) (hS : va_S (fun q : Nat => s.heap.size ≤ q) s.heap H locs) (hl : lv_has ls 4 [(0, .ref b), (1, .ref xq), (2, .ref oq), (3, .int (nI i))]) (kk : ∀ (ws' : va_W) (H' : Heap) (locs' : List Loc), INV k xq oq ws' → va_P D vwCl ws' H' → va_D (fun q : Nat => s.heap.size ≤ q) ws' → va_S (fun q : Nat => s.heap.size ≤ q) s.heap H' locs' → W p l e room_1 s m #[Value.ref b] below meth c H' locs' 97 5834 Q (F0 m 945 ls [])) : W p l e room_1 s m #[Value.ref b] below meth c H locs 97 5834 Q (F0 m 302 ls []) := by
  obtain ⟨hx, hb, hr, hml, hown, hts, hX, hbl, hlocks, hgv⟩ := C0
  have hown : s.vm.findClass "ZoneGuardLaw" = some m.cls := hown
  have ht := wbL hts
  have hA : ∀ q : Nat, s.heap.size ≤ q → (fun q : Nat => s.heap.size ≤ q) q := fun _ h => h
  have hbA : ¬ (fun q : Nat => s.heap.size ≤ q) b := Nat.not_le.mpr hbl
  have h1 : vp_in (nI i + 1) L := by
    rw [show nI i + 1 = nI (i + 1) from nI_add i 1]
    exact vp_in_nI (by omega) (by omega)
  obtain ⟨r, w1, w2, s1, s2, s3, s4, ⟨⟨i1, fs1, s5⟩, -⟩, ⟨-, i2, fs2, s6⟩, s7⟩ := S_drops l D hI (xs (Int32.toNatClampNeg (nI i + 1)))
  refine lv_aload_n hx hb dL_law_302 rfl (lv_at hl 1 rfl) ?_
  refine lv_aload_n hx hb dL_law_303 rfl (lv_at hl 0 rfl) ?_
  refine lv_iload_n hx hb dL_law_304 rfl (lv_at hl 3 rfl) ?_
  refine lv_iconst (v := 1) hx hb dL_law_305 (by decide) ?_
  refine lv_iadd hx hb dL_law_306 ?_
  refine va_sld hx hb hX hbl hbA hS h1 dL_law_307 ?_
  refine ziW (zrVE (pre := []) (wc := ws) (C := RX5) (T := TX5) (N := 8) (b := xq) (As := [.int (xs (Int32.toNatClampNeg (nI i + 1)))]) (rest := []) ⟨hx, hb, hml, hown, ht⟩ (s1 _) (cwV 1 ht (gdV wb347 wb348 wb349 wb72 wb350) rfl rfl rfl (by decide +kernel) ⟨Nat.le_of_ble_eq_true rfl, Nat.le_of_ble_eq_true rfl⟩) hK hP hD hS hA hm i1 5 rfl s5 rfl hl.1 rfl (Nat.le_of_ble_eq_true rfl) dL_law_308 ⟨Nat.le_of_ble_eq_true rfl, Nat.le_of_ble_eq_true rfl⟩) hD hS hA s3 (fun H locs hP hD hS => ?_)
  refine lv_aload_n hx hb dL_law_311 rfl (lv_at hl 2 rfl) ?_
  refine lv_aload_n hx hb dL_law_312 rfl (lv_at hl 0 rfl) ?_
  refine lv_iload_n hx hb dL_law_313 rfl (lv_at hl 3 rfl) ?_
  refine lv_iconst (v := 1) hx hb dL_law_314 (by decide) ?_
  refine lv_iadd hx hb dL_law_315 ?_
  refine va_sld hx hb hX hbl hbA hS h1 dL_law_316 ?_
  refine ziW (zrVE (pre := []) (wc := w1) (C := RX6) (T := TX6) (N := 14) (b := oq) (As := [.int (xs (Int32.toNatClampNeg (nI i + 1)))]) (rest := [.int r]) ⟨hx, hb, hml, hown, ht⟩ (s2 _) (cwV 1 ht (gdV wb864 wb865 wb866 wb80 wb867) rfl rfl rfl (by decide +kernel) ⟨Nat.le_of_ble_eq_true rfl, Nat.le_of_ble_eq_true rfl⟩) hK hP hD hS hA hm i2 6 rfl s6 rfl hl.1 rfl (Nat.le_of_ble_eq_true rfl) dL_law_317 ⟨Nat.le_of_ble_eq_true rfl, Nat.le_of_ble_eq_true rfl⟩) hD hS hA s4 (fun H locs hP hD hS => ?_)
  exact lv_icmp_eq (tgt := 945) hx hb dL_law_320 (by decide) (fun _ => kk w2 H locs s7 hP hD hS) (fun c9 => absurd rfl c9)
theorem B_moves (C0 : lw_At p s m meth c b L xs) (hK : va_K D vwCl (tyA k) s) (hm : amb k (fun q : Nat => s.heap.size ≤ q) s s.heap) (hL : L ≤ 3072) (hi : i + 6 ≤ L) (hI : INV k xq oq ws) (hP : va_P D vwCl ws H) (hD : va_D (fun q : Nat => s.heap.size ≤ q) ws) (hS : va_S (fun q : Nat => s.heap.size ≤ q) s.heap H locs) (hl : lv_has ls 4 [(0, .ref b), (1, .ref xq), (2, .ref oq), (3, .int (nI i))]) (kk : ∀ (ws' : va_W) (H' : Heap) (locs' : List Loc), INV k xq oq ws' → va_P D vwCl ws' H' → va_D (fun q : Nat => s.heap.size ≤ q) ws' → va_S (fun q : Nat => s.heap.size ≤ q) s.heap H' locs' → W p l e room_1 s m #[Value.ref b] below meth c H' locs' 97 5834 Q (F0 m 945 ls [])) : W p l e room_1 s m #[Value.ref b] below meth c H locs 97 5834 Q (F0 m 325 ls []) := by
  obtain ⟨hx, hb, hr, hml, hown, hts, hX, hbl, hlocks, hgv⟩ := C0
  have hown : s.vm.findClass "ZoneGuardLaw" = some m.cls := hown
  have ht := wbL hts
  have hA : ∀ q : Nat, s.heap.size ≤ q → (fun q : Nat => s.heap.size ≤ q) q := fun _ h => h
  have hbA : ¬ (fun q : Nat => s.heap.size ≤ q) b := Nat.not_le.mpr hbl
  have h1 : vp_in (nI i + 1) L := by
    rw [show nI i + 1 = nI (i + 1) from nI_add i 1]
    exact vp_in_nI (by omega) (by omega)
  have h2 : vp_in (nI i + 2) L := by
    rw [show nI i + 2 = nI (i + 2) from nI_add i 2]
    exact vp_in_nI (by omega) (by omega)
  obtain ⟨r, w1, w2, s1, s2, s3, s4, ⟨⟨i1, fs1, s5⟩, -⟩, ⟨-, i2, fs2, s6⟩, s7⟩ := S_moves l D hI (xs (Int32.toNatClampNeg (nI i + 1))) (xs (Int32.toNatClampNeg (nI i + 2)))
  refine lv_aload_n hx hb dL_law_325 rfl (lv_at hl 1 rfl) ?_
  refine lv_aload_n hx hb dL_law_326 rfl (lv_at hl 0 rfl) ?_
  refine lv_iload_n hx hb dL_law_327 rfl (lv_at hl 3 rfl) ?_
  refine lv_iconst (v := 1) hx hb dL_law_328 (by decide) ?_
  refine lv_iadd hx hb dL_law_329 ?_
  refine va_sld hx hb hX hbl hbA hS h1 dL_law_330 ?_
  refine lv_aload_n hx hb dL_law_331 rfl (lv_at hl 0 rfl) ?_
  refine lv_iload_n hx hb dL_law_332 rfl (lv_at hl 3 rfl) ?_
  refine lv_iconst (v := 2) hx hb dL_law_333 (by decide) ?_
  refine lv_iadd hx hb dL_law_334 ?_
  refine va_sld hx hb hX hbl hbA hS h2 dL_law_335 ?_
  refine ziW (zrVE (pre := []) (wc := ws) (C := RX5) (T := TX5) (N := 8) (b := xq) (As := [.int (xs (Int32.toNatClampNeg (nI i + 1))), .int (xs (Int32.toNatClampNeg (nI i + 2)))]) (rest := []) ⟨hx, hb, hml, hown, ht⟩ (s1 _) (cwV 2 ht (gdV wb355 wb356 wb357 wb72 wb358) rfl rfl rfl (by decide +kernel) ⟨Nat.le_of_ble_eq_true rfl, Nat.le_of_ble_eq_true rfl⟩) hK hP hD hS hA hm i1 5 rfl s5 rfl hl.1 rfl (Nat.le_of_ble_eq_true rfl) dL_law_336 ⟨Nat.le_of_ble_eq_true rfl, Nat.le_of_ble_eq_true rfl⟩) hD hS hA s3 (fun H locs hP hD hS => ?_)
  refine lv_aload_n hx hb dL_law_339 rfl (lv_at hl 2 rfl) ?_
  refine lv_aload_n hx hb dL_law_340 rfl (lv_at hl 0 rfl) ?_
  refine lv_iload_n hx hb dL_law_341 rfl (lv_at hl 3 rfl) ?_
  refine lv_iconst (v := 1) hx hb dL_law_342 (by decide) ?_
  refine lv_iadd hx hb dL_law_343 ?_
  refine va_sld hx hb hX hbl hbA hS h1 dL_law_344 ?_
  refine lv_aload_n hx hb dL_law_345 rfl (lv_at hl 0 rfl) ?_
  refine lv_iload_n hx hb dL_law_346 rfl (lv_at hl 3 rfl) ?_
  refine lv_iconst (v := 2) hx hb dL_law_347 (by decide) ?_
  refine lv_iadd hx hb dL_law_348 ?_
  refine va_sld hx hb hX hbl hbA hS h2 dL_law_349 ?_
  refine ziW (zrVE (pre := []) (wc := w1) (C := RX6) (T := TX6) (N := 14) (b := oq) (As := [.int (xs (Int32.toNatClampNeg (nI i + 1))), .int (xs (Int32.toNatClampNeg (nI i + 2)))]) (rest := [.int r]) ⟨hx, hb, hml, hown, ht⟩ (s2 _) (cwV 2 ht (gdV wb872 wb873 wb874 wb80 wb875) rfl rfl rfl (by decide +kernel) ⟨Nat.le_of_ble_eq_true rfl, Nat.le_of_ble_eq_true rfl⟩) hK hP hD hS hA hm i2 6 rfl s6 rfl hl.1 rfl (Nat.le_of_ble_eq_true rfl) dL_law_350 ⟨Nat.le_of_ble_eq_true rfl, Nat.le_of_ble_eq_true rfl⟩) hD hS hA s4 (fun H locs hP hD hS => ?_)
  exact lv_icmp_eq (tgt := 945) hx hb dL_law_353 (by decide) (fun _ => kk w2 H locs s7 hP hD hS) (fun c9 => absurd rfl c9)
theorem B_of (C0 : lw_At p s m meth c b L xs) (hK : va_K D vwCl (tyA k) s) (hm : amb k (fun q : Nat => s.heap.size ≤ q) s s.heap) (hL : L ≤ 3072) (hi : i + 6 ≤ L) (hI : INV k xq oq ws) (hP : va_P D vwCl ws H) (hD : va_D (fun q : Nat => s.heap.size ≤ q) ws) (hS : va_S (fun q : Nat => s.heap.size ≤ q) s.heap H locs) (hl : lv_has ls 4 [(0, .ref b), (1, .ref xq), (2, .ref oq), (3, .int (nI i))]) (kk : ∀ (ws' : va_W) (H' : Heap) (locs' : List Loc), INV k xq oq ws' → va_P D vwCl ws' H' → va_D (fun q : Nat => s.heap.size ≤ q) ws' → va_S (fun q : Nat => s.heap.size ≤ q) s.heap H' locs' → W p l e room_1 s m #[Value.ref b] below meth c H' locs' 97 5834 Q (F0 m 945 ls [])) : W p l e room_1 s m #[Value.ref b] below meth c H locs 97 5834 Q (F0 m 358 ls []) := by
  obtain ⟨hx, hb, hr, hml, hown, hts, hX, hbl, hlocks, hgv⟩ := C0
  have hown : s.vm.findClass "ZoneGuardLaw" = some m.cls := hown
  have ht := wbL hts
  have hA : ∀ q : Nat, s.heap.size ≤ q → (fun q : Nat => s.heap.size ≤ q) q := fun _ h => h
  have hbA : ¬ (fun q : Nat => s.heap.size ≤ q) b := Nat.not_le.mpr hbl
  have h1 : vp_in (nI i + 1) L := by
    rw [show nI i + 1 = nI (i + 1) from nI_add i 1]
    exact vp_in_nI (by omega) (by omega)
  have h2 : vp_in (nI i + 2) L := by
    rw [show nI i + 2 = nI (i + 2) from nI_add i 2]
    exact vp_in_nI (by omega) (by omega)
  obtain ⟨r, w1, w2, s1, s2, s3, s4, ⟨⟨i1, fs1, s5⟩, -⟩, ⟨-, i2, fs2, s6⟩, s7⟩ := S_of l D hI (xs (Int32.toNatClampNeg (nI i + 1))) (xs (Int32.toNatClampNeg (nI i + 2)))
  refine lv_aload_n hx hb dL_law_358 rfl (lv_at hl 1 rfl) ?_
  refine lv_aload_n hx hb dL_law_359 rfl (lv_at hl 0 rfl) ?_
  refine lv_iload_n hx hb dL_law_360 rfl (lv_at hl 3 rfl) ?_
  refine lv_iconst (v := 1) hx hb dL_law_361 (by decide) ?_
  refine lv_iadd hx hb dL_law_362 ?_
  refine va_sld hx hb hX hbl hbA hS h1 dL_law_363 ?_
  refine lv_aload_n hx hb dL_law_364 rfl (lv_at hl 0 rfl) ?_
  refine lv_iload_n hx hb dL_law_365 rfl (lv_at hl 3 rfl) ?_
  refine lv_iconst (v := 2) hx hb dL_law_366 (by decide) ?_
  refine lv_iadd hx hb dL_law_367 ?_
  refine va_sld hx hb hX hbl hbA hS h2 dL_law_368 ?_
  refine ziW (zrVE (pre := []) (wc := ws) (C := RX5) (T := TX5) (N := 8) (b := xq) (As := [.int (xs (Int32.toNatClampNeg (nI i + 1))), .int (xs (Int32.toNatClampNeg (nI i + 2)))]) (rest := []) ⟨hx, hb, hml, hown, ht⟩ (s1 _) (cwV 2 ht (gdV wb365 wb366 wb367 wb72 wb368) rfl rfl rfl (by decide +kernel) ⟨Nat.le_of_ble_eq_true rfl, Nat.le_of_ble_eq_true rfl⟩) hK hP hD hS hA hm i1 5 rfl s5 rfl hl.1 rfl (Nat.le_of_ble_eq_true rfl) dL_law_369 ⟨Nat.le_of_ble_eq_true rfl, Nat.le_of_ble_eq_true rfl⟩) hD hS hA s3 (fun H locs hP hD hS => ?_)
  refine lv_aload_n hx hb dL_law_372 rfl (lv_at hl 2 rfl) ?_
  refine lv_aload_n hx hb dL_law_373 rfl (lv_at hl 0 rfl) ?_
  refine lv_iload_n hx hb dL_law_374 rfl (lv_at hl 3 rfl) ?_
  refine lv_iconst (v := 1) hx hb dL_law_375 (by decide) ?_
  refine lv_iadd hx hb dL_law_376 ?_
  refine va_sld hx hb hX hbl hbA hS h1 dL_law_377 ?_
  refine lv_aload_n hx hb dL_law_378 rfl (lv_at hl 0 rfl) ?_
  refine lv_iload_n hx hb dL_law_379 rfl (lv_at hl 3 rfl) ?_
  refine lv_iconst (v := 2) hx hb dL_law_380 (by decide) ?_
  refine lv_iadd hx hb dL_law_381 ?_
  refine va_sld hx hb hX hbl hbA hS h2 dL_law_382 ?_
  refine ziW (zrVE (pre := []) (wc := w1) (C := RX6) (T := TX6) (N := 14) (b := oq) (As := [.int (xs (Int32.toNatClampNeg (nI i + 1))), .int (xs (Int32.toNatClampNeg (nI i + 2)))]) (rest := [.int r]) ⟨hx, hb, hml, hown, ht⟩ (s2 _) (cwV 2 ht (gdV wb876 wb877 wb878 wb80 wb879) rfl rfl rfl (by decide +kernel) ⟨Nat.le_of_ble_eq_true rfl, Nat.le_of_ble_eq_true rfl⟩) hK hP hD hS hA hm i2 6 rfl s6 rfl hl.1 rfl (Nat.le_of_ble_eq_true rfl) dL_law_383 ⟨Nat.le_of_ble_eq_true rfl, Nat.le_of_ble_eq_true rfl⟩) hD hS hA s4 (fun H locs hP hD hS => ?_)
  exact lv_icmp_eq (tgt := 945) hx hb dL_law_386 (by decide) (fun _ => kk w2 H locs s7 hP hD hS) (fun c9 => absurd rfl c9)
theorem B_keeps (C0 : lw_At p s m meth c b L xs) (hK : va_K D vwCl (tyA k) s) (hm : amb k (fun q : Nat => s.heap.size ≤ q) s s.heap) (hL : L ≤ 3072) (hi : i + 6 ≤ L) (hI : INV k xq oq ws) (hP : va_P D vwCl ws H) (hD : va_D (fun q : Nat => s.heap.size ≤ q) ws) (hS : va_S (fun q : Nat => s.heap.size ≤ q) s.heap H locs) (hl : lv_has ls 4 [(0, .ref b), (1, .ref xq), (2, .ref oq), (3, .int (nI i))]) (kk : ∀ (ws' : va_W) (H' : Heap) (locs' : List Loc), INV k xq oq ws' → va_P D vwCl ws' H' → va_D (fun q : Nat => s.heap.size ≤ q) ws' → va_S (fun q : Nat => s.heap.size ≤ q) s.heap H' locs' → W p l e room_1 s m #[Value.ref b] below meth c H' locs' 97 5834 Q (F0 m 945 ls [])) : W p l e room_1 s m #[Value.ref b] below meth c H locs 97 5834 Q (F0 m 391 ls []) := by
  obtain ⟨hx, hb, hr, hml, hown, hts, hX, hbl, hlocks, hgv⟩ := C0
  have hown : s.vm.findClass "ZoneGuardLaw" = some m.cls := hown
  have ht := wbL hts
  have hA : ∀ q : Nat, s.heap.size ≤ q → (fun q : Nat => s.heap.size ≤ q) q := fun _ h => h
  have hbA : ¬ (fun q : Nat => s.heap.size ≤ q) b := Nat.not_le.mpr hbl
  obtain ⟨r, w1, w2, s1, s2, s3, s4, ⟨⟨i1, fs1, s5⟩, -⟩, ⟨-, i2, fs2, s6⟩, s7⟩ := S_keeps l D hI 
  refine lv_aload_n hx hb dL_law_391 rfl (lv_at hl 1 rfl) ?_
  refine ziW (zrVE (pre := []) (wc := ws) (C := RX5) (T := TX5) (N := 8) (b := xq) (As := []) (rest := []) ⟨hx, hb, hml, hown, ht⟩ (s1 _) (cwV 0 ht (gdV wb369 wb370 wb371 wb72 wb372) rfl rfl rfl (by decide +kernel) ⟨Nat.le_of_ble_eq_true rfl, Nat.le_of_ble_eq_true rfl⟩) hK hP hD hS hA hm i1 5 rfl s5 rfl hl.1 rfl (Nat.le_of_ble_eq_true rfl) dL_law_392 ⟨Nat.le_of_ble_eq_true rfl, Nat.le_of_ble_eq_true rfl⟩) hD hS hA s3 (fun H locs hP hD hS => ?_)
  refine lv_aload_n hx hb dL_law_395 rfl (lv_at hl 2 rfl) ?_
  refine ziW (zrVE (pre := []) (wc := w1) (C := RX6) (T := TX6) (N := 14) (b := oq) (As := []) (rest := [.int r]) ⟨hx, hb, hml, hown, ht⟩ (s2 _) (cwV 0 ht (gdV wb880 wb881 wb882 wb80 wb883) rfl rfl rfl (by decide +kernel) ⟨Nat.le_of_ble_eq_true rfl, Nat.le_of_ble_eq_true rfl⟩) hK hP hD hS hA hm i2 6 rfl s6 rfl hl.1 rfl (Nat.le_of_ble_eq_true rfl) dL_law_396 ⟨Nat.le_of_ble_eq_true rfl, Nat.le_of_ble_eq_true rfl⟩) hD hS hA s4 (fun H locs hP hD hS => ?_)
  exact lv_icmp_eq (tgt := 945) hx hb dL_law_399 (by decide) (fun _ => kk w2 H locs s7 hP hD hS) (fun c9 => absurd rfl c9)
theorem B_takes (C0 : lw_At p s m meth c b L xs) (hK : va_K D vwCl (tyA k) s) (hm : amb k (fun q : Nat => s.heap.size ≤ q) s s.heap) (hL : L ≤ 3072) (hi : i + 6 ≤ L) (hI : INV k xq oq ws) (hP : va_P D vwCl ws H) (hD : va_D (fun q : Nat => s.heap.size ≤ q) ws) (hS : va_S (fun q : Nat => s.heap.size ≤ q) s.heap H locs) (hl : lv_has ls 4 [(0, .ref b), (1, .ref xq), (2, .ref oq), (3, .int (nI i))]) (kk : ∀ (ws' : va_W) (H' : Heap) (locs' : List Loc), INV k xq oq ws' → va_P D vwCl ws' H' → va_D (fun q : Nat => s.heap.size ≤ q) ws' → va_S (fun q : Nat => s.heap.size ≤ q) s.heap H' locs' → W p l e room_1 s m #[Value.ref b] below meth c H' locs' 97 5834 Q (F0 m 945 ls [])) : W p l e room_1 s m #[Value.ref b] below meth c H locs 97 5834 Q (F0 m 404 ls []) := by
  obtain ⟨hx, hb, hr, hml, hown, hts, hX, hbl, hlocks, hgv⟩ := C0
  have hown : s.vm.findClass "ZoneGuardLaw" = some m.cls := hown
  have ht := wbL hts
  have hA : ∀ q : Nat, s.heap.size ≤ q → (fun q : Nat => s.heap.size ≤ q) q := fun _ h => h
  have hbA : ¬ (fun q : Nat => s.heap.size ≤ q) b := Nat.not_le.mpr hbl
  obtain ⟨r, w1, w2, s1, s2, s3, s4, ⟨⟨i1, fs1, s5⟩, -⟩, ⟨-, i2, fs2, s6⟩, s7⟩ := S_takes l D hI 
  refine lv_aload_n hx hb dL_law_404 rfl (lv_at hl 1 rfl) ?_
  refine ziW (zrVE (pre := []) (wc := ws) (C := RX5) (T := TX5) (N := 8) (b := xq) (As := []) (rest := []) ⟨hx, hb, hml, hown, ht⟩ (s1 _) (cwV 0 ht (gdV wb377 wb378 wb379 wb72 wb380) rfl rfl rfl (by decide +kernel) ⟨Nat.le_of_ble_eq_true rfl, Nat.le_of_ble_eq_true rfl⟩) hK hP hD hS hA hm i1 5 rfl s5 rfl hl.1 rfl (Nat.le_of_ble_eq_true rfl) dL_law_405 ⟨Nat.le_of_ble_eq_true rfl, Nat.le_of_ble_eq_true rfl⟩) hD hS hA s3 (fun H locs hP hD hS => ?_)
  refine lv_aload_n hx hb dL_law_408 rfl (lv_at hl 2 rfl) ?_
  refine ziW (zrVE (pre := []) (wc := w1) (C := RX6) (T := TX6) (N := 14) (b := oq) (As := []) (rest := [.int r]) ⟨hx, hb, hml, hown, ht⟩ (s2 _) (cwV 0 ht (gdV wb888 wb889 wb890 wb80 wb891) rfl rfl rfl (by decide +kernel) ⟨Nat.le_of_ble_eq_true rfl, Nat.le_of_ble_eq_true rfl⟩) hK hP hD hS hA hm i2 6 rfl s6 rfl hl.1 rfl (Nat.le_of_ble_eq_true rfl) dL_law_409 ⟨Nat.le_of_ble_eq_true rfl, Nat.le_of_ble_eq_true rfl⟩) hD hS hA s4 (fun H locs hP hD hS => ?_)
  exact lv_icmp_eq (tgt := 945) hx hb dL_law_412 (by decide) (fun _ => kk w2 H locs s7 hP hD hS) (fun c9 => absurd rfl c9)
theorem B_decides (C0 : lw_At p s m meth c b L xs) (hK : va_K D vwCl (tyA k) s) (hm : amb k (fun q : Nat => s.heap.size ≤ q) s s.heap) (hL : L ≤ 3072) (hi : i + 6 ≤ L) (hI : INV k xq oq ws) (hP : va_P D vwCl ws H) (hD : va_D (fun q : Nat => s.heap.size ≤ q) ws) (hS : va_S (fun q : Nat => s.heap.size ≤ q) s.heap H locs) (hl : lv_has ls 4 [(0, .ref b), (1, .ref xq), (2, .ref oq), (3, .int (nI i))]) (kk : ∀ (ws' : va_W) (H' : Heap) (locs' : List Loc), INV k xq oq ws' → va_P D vwCl ws' H' → va_D (fun q : Nat => s.heap.size ≤ q) ws' → va_S (fun q : Nat => s.heap.size ≤ q) s.heap H' locs' → W p l e room_1 s m #[Value.ref b] below meth c H' locs' 97 5834 Q (F0 m 945 ls [])) : W p l e room_1 s m #[Value.ref b] below meth c H locs 97 5834 Q (F0 m 417 ls []) := by
  obtain ⟨hx, hb, hr, hml, hown, hts, hX, hbl, hlocks, hgv⟩ := C0
  have hown : s.vm.findClass "ZoneGuardLaw" = some m.cls := hown
  have ht := wbL hts
  have hA : ∀ q : Nat, s.heap.size ≤ q → (fun q : Nat => s.heap.size ≤ q) q := fun _ h => h
  have hbA : ¬ (fun q : Nat => s.heap.size ≤ q) b := Nat.not_le.mpr hbl
  have h1 : vp_in (nI i + 1) L := by
    rw [show nI i + 1 = nI (i + 1) from nI_add i 1]
    exact vp_in_nI (by omega) (by omega)
  have h2 : vp_in (nI i + 2) L := by
    rw [show nI i + 2 = nI (i + 2) from nI_add i 2]
    exact vp_in_nI (by omega) (by omega)
  have h3 : vp_in (nI i + 3) L := by
    rw [show nI i + 3 = nI (i + 3) from nI_add i 3]
    exact vp_in_nI (by omega) (by omega)
  have h4 : vp_in (nI i + 4) L := by
    rw [show nI i + 4 = nI (i + 4) from nI_add i 4]
    exact vp_in_nI (by omega) (by omega)
  obtain ⟨r, w1, w2, s1, s2, s3, s4, ⟨⟨i1, fs1, s5⟩, -⟩, ⟨-, i2, fs2, s6⟩, s7⟩ := S_decides l D hI (xs (Int32.toNatClampNeg (nI i + 1))) (xs (Int32.toNatClampNeg (nI i + 2))) (xs (Int32.toNatClampNeg (nI i + 3))) (xs (Int32.toNatClampNeg (nI i + 4)))
  refine lv_aload_n hx hb dL_law_417 rfl (lv_at hl 1 rfl) ?_
  refine lv_aload_n hx hb dL_law_418 rfl (lv_at hl 0 rfl) ?_
  refine lv_iload_n hx hb dL_law_419 rfl (lv_at hl 3 rfl) ?_
  refine lv_iconst (v := 1) hx hb dL_law_420 (by decide) ?_
  refine lv_iadd hx hb dL_law_421 ?_
  refine va_sld hx hb hX hbl hbA hS h1 dL_law_422 ?_
  refine lv_aload_n hx hb dL_law_423 rfl (lv_at hl 0 rfl) ?_
  refine lv_iload_n hx hb dL_law_424 rfl (lv_at hl 3 rfl) ?_
  refine lv_iconst (v := 2) hx hb dL_law_425 (by decide) ?_
  refine lv_iadd hx hb dL_law_426 ?_
  refine va_sld hx hb hX hbl hbA hS h2 dL_law_427 ?_
  refine lv_aload_n hx hb dL_law_428 rfl (lv_at hl 0 rfl) ?_
  refine lv_iload_n hx hb dL_law_429 rfl (lv_at hl 3 rfl) ?_
  refine lv_iconst (v := 3) hx hb dL_law_430 (by decide) ?_
  refine lv_iadd hx hb dL_law_431 ?_
  refine va_sld hx hb hX hbl hbA hS h3 dL_law_432 ?_
  refine lv_aload_n hx hb dL_law_433 rfl (lv_at hl 0 rfl) ?_
  refine lv_iload_n hx hb dL_law_434 rfl (lv_at hl 3 rfl) ?_
  refine lv_iconst (v := 4) hx hb dL_law_435 (by decide) ?_
  refine lv_iadd hx hb dL_law_436 ?_
  refine va_sld hx hb hX hbl hbA hS h4 dL_law_437 ?_
  refine ziW (zrVE (pre := []) (wc := ws) (C := RX5) (T := TX5) (N := 8) (b := xq) (As := [.int (xs (Int32.toNatClampNeg (nI i + 1))), .int (xs (Int32.toNatClampNeg (nI i + 2))), .int (xs (Int32.toNatClampNeg (nI i + 3))), .int (xs (Int32.toNatClampNeg (nI i + 4)))]) (rest := []) ⟨hx, hb, hml, hown, ht⟩ (s1 _) (cwV 4 ht (gdV wb381 wb382 wb383 wb72 wb384) rfl rfl rfl (by decide +kernel) ⟨Nat.le_of_ble_eq_true rfl, Nat.le_of_ble_eq_true rfl⟩) hK hP hD hS hA hm i1 5 rfl s5 rfl hl.1 rfl (Nat.le_of_ble_eq_true rfl) dL_law_438 ⟨Nat.le_of_ble_eq_true rfl, Nat.le_of_ble_eq_true rfl⟩) hD hS hA s3 (fun H locs hP hD hS => ?_)
  refine lv_aload_n hx hb dL_law_441 rfl (lv_at hl 2 rfl) ?_
  refine lv_aload_n hx hb dL_law_442 rfl (lv_at hl 0 rfl) ?_
  refine lv_iload_n hx hb dL_law_443 rfl (lv_at hl 3 rfl) ?_
  refine lv_iconst (v := 1) hx hb dL_law_444 (by decide) ?_
  refine lv_iadd hx hb dL_law_445 ?_
  refine va_sld hx hb hX hbl hbA hS h1 dL_law_446 ?_
  refine lv_aload_n hx hb dL_law_447 rfl (lv_at hl 0 rfl) ?_
  refine lv_iload_n hx hb dL_law_448 rfl (lv_at hl 3 rfl) ?_
  refine lv_iconst (v := 2) hx hb dL_law_449 (by decide) ?_
  refine lv_iadd hx hb dL_law_450 ?_
  refine va_sld hx hb hX hbl hbA hS h2 dL_law_451 ?_
  refine lv_aload_n hx hb dL_law_452 rfl (lv_at hl 0 rfl) ?_
  refine lv_iload_n hx hb dL_law_453 rfl (lv_at hl 3 rfl) ?_
  refine lv_iconst (v := 3) hx hb dL_law_454 (by decide) ?_
  refine lv_iadd hx hb dL_law_455 ?_
  refine va_sld hx hb hX hbl hbA hS h3 dL_law_456 ?_
  refine lv_aload_n hx hb dL_law_457 rfl (lv_at hl 0 rfl) ?_
  refine lv_iload_n hx hb dL_law_458 rfl (lv_at hl 3 rfl) ?_
  refine lv_iconst (v := 4) hx hb dL_law_459 (by decide) ?_
  refine lv_iadd hx hb dL_law_460 ?_
  refine va_sld hx hb hX hbl hbA hS h4 dL_law_461 ?_
  refine ziW (zrVE (pre := []) (wc := w1) (C := RX6) (T := TX6) (N := 14) (b := oq) (As := [.int (xs (Int32.toNatClampNeg (nI i + 1))), .int (xs (Int32.toNatClampNeg (nI i + 2))), .int (xs (Int32.toNatClampNeg (nI i + 3))), .int (xs (Int32.toNatClampNeg (nI i + 4)))]) (rest := [.int r]) ⟨hx, hb, hml, hown, ht⟩ (s2 _) (cwV 4 ht (gdV wb892 wb893 wb894 wb80 wb895) rfl rfl rfl (by decide +kernel) ⟨Nat.le_of_ble_eq_true rfl, Nat.le_of_ble_eq_true rfl⟩) hK hP hD hS hA hm i2 6 rfl s6 rfl hl.1 rfl (Nat.le_of_ble_eq_true rfl) dL_law_462 ⟨Nat.le_of_ble_eq_true rfl, Nat.le_of_ble_eq_true rfl⟩) hD hS hA s4 (fun H locs hP hD hS => ?_)
  exact lv_icmp_eq (tgt := 945) hx hb dL_law_465 (by decide) (fun _ => kk w2 H locs s7 hP hD hS) (fun c9 => absurd rfl c9)
theorem B_cases (C0 : lw_At p s m meth c b L xs) (hK : va_K D vwCl (tyA k) s) (hm : amb k (fun q : Nat => s.heap.size ≤ q) s s.heap) (hL : L ≤ 3072) (hi : i + 6 ≤ L) (hI : INV k xq oq ws) (hP : va_P D vwCl ws H) (hD : va_D (fun q : Nat => s.heap.size ≤ q) ws) (hS : va_S (fun q : Nat => s.heap.size ≤ q) s.heap H locs) (hl : lv_has ls 4 [(0, .ref b), (1, .ref xq), (2, .ref oq), (3, .int (nI i))]) (kk : ∀ (ws' : va_W) (H' : Heap) (locs' : List Loc), INV k xq oq ws' → va_P D vwCl ws' H' → va_D (fun q : Nat => s.heap.size ≤ q) ws' → va_S (fun q : Nat => s.heap.size ≤ q) s.heap H' locs' → W p l e room_1 s m #[Value.ref b] below meth c H' locs' 97 5834 Q (F0 m 945 ls [])) : W p l e room_1 s m #[Value.ref b] below meth c H locs 97 5834 Q (F0 m 470 ls []) := by
  obtain ⟨hx, hb, hr, hml, hown, hts, hX, hbl, hlocks, hgv⟩ := C0
  have hown : s.vm.findClass "ZoneGuardLaw" = some m.cls := hown
  have ht := wbL hts
  have hA : ∀ q : Nat, s.heap.size ≤ q → (fun q : Nat => s.heap.size ≤ q) q := fun _ h => h
  have hbA : ¬ (fun q : Nat => s.heap.size ≤ q) b := Nat.not_le.mpr hbl
  have h1 : vp_in (nI i + 1) L := by
    rw [show nI i + 1 = nI (i + 1) from nI_add i 1]
    exact vp_in_nI (by omega) (by omega)
  have h2 : vp_in (nI i + 2) L := by
    rw [show nI i + 2 = nI (i + 2) from nI_add i 2]
    exact vp_in_nI (by omega) (by omega)
  obtain ⟨r, w1, w2, s1, s2, s3, s4, ⟨⟨i1, fs1, s5⟩, -⟩, ⟨-, i2, fs2, s6⟩, s7⟩ := S_cases l D hI (xs (Int32.toNatClampNeg (nI i + 1))) (xs (Int32.toNatClampNeg (nI i + 2)))
  refine lv_aload_n hx hb dL_law_470 rfl (lv_at hl 1 rfl) ?_
  refine lv_aload_n hx hb dL_law_471 rfl (lv_at hl 0 rfl) ?_
  refine lv_iload_n hx hb dL_law_472 rfl (lv_at hl 3 rfl) ?_
  refine lv_iconst (v := 1) hx hb dL_law_473 (by decide) ?_
  refine lv_iadd hx hb dL_law_474 ?_
  refine va_sld hx hb hX hbl hbA hS h1 dL_law_475 ?_
  refine lv_aload_n hx hb dL_law_476 rfl (lv_at hl 0 rfl) ?_
  refine lv_iload_n hx hb dL_law_477 rfl (lv_at hl 3 rfl) ?_
  refine lv_iconst (v := 2) hx hb dL_law_478 (by decide) ?_
  refine lv_iadd hx hb dL_law_479 ?_
  refine va_sld hx hb hX hbl hbA hS h2 dL_law_480 ?_
  refine ziW (zrVE (pre := []) (wc := ws) (C := RX5) (T := TX5) (N := 8) (b := xq) (As := [.int (xs (Int32.toNatClampNeg (nI i + 1))), .int (xs (Int32.toNatClampNeg (nI i + 2)))]) (rest := []) ⟨hx, hb, hml, hown, ht⟩ (s1 _) (cwV 2 ht (gdV wb404 wb405 wb406 wb72 wb407) rfl rfl rfl (by decide +kernel) ⟨Nat.le_of_ble_eq_true rfl, Nat.le_of_ble_eq_true rfl⟩) hK hP hD hS hA hm i1 5 rfl s5 rfl hl.1 rfl (Nat.le_of_ble_eq_true rfl) dL_law_481 ⟨Nat.le_of_ble_eq_true rfl, Nat.le_of_ble_eq_true rfl⟩) hD hS hA s3 (fun H locs hP hD hS => ?_)
  refine lv_aload_n hx hb dL_law_484 rfl (lv_at hl 2 rfl) ?_
  refine lv_aload_n hx hb dL_law_485 rfl (lv_at hl 0 rfl) ?_
  refine lv_iload_n hx hb dL_law_486 rfl (lv_at hl 3 rfl) ?_
  refine lv_iconst (v := 1) hx hb dL_law_487 (by decide) ?_
  refine lv_iadd hx hb dL_law_488 ?_
  refine va_sld hx hb hX hbl hbA hS h1 dL_law_489 ?_
  refine lv_aload_n hx hb dL_law_490 rfl (lv_at hl 0 rfl) ?_
  refine lv_iload_n hx hb dL_law_491 rfl (lv_at hl 3 rfl) ?_
  refine lv_iconst (v := 2) hx hb dL_law_492 (by decide) ?_
  refine lv_iadd hx hb dL_law_493 ?_
  refine va_sld hx hb hX hbl hbA hS h2 dL_law_494 ?_
  refine ziW (zrVE (pre := []) (wc := w1) (C := RX6) (T := TX6) (N := 14) (b := oq) (As := [.int (xs (Int32.toNatClampNeg (nI i + 1))), .int (xs (Int32.toNatClampNeg (nI i + 2)))]) (rest := [.int r]) ⟨hx, hb, hml, hown, ht⟩ (s2 _) (cwV 2 ht (gdV wb934 wb935 wb936 wb80 wb937) rfl rfl rfl (by decide +kernel) ⟨Nat.le_of_ble_eq_true rfl, Nat.le_of_ble_eq_true rfl⟩) hK hP hD hS hA hm i2 6 rfl s6 rfl hl.1 rfl (Nat.le_of_ble_eq_true rfl) dL_law_495 ⟨Nat.le_of_ble_eq_true rfl, Nat.le_of_ble_eq_true rfl⟩) hD hS hA s4 (fun H locs hP hD hS => ?_)
  exact lv_icmp_eq (tgt := 945) hx hb dL_law_498 (by decide) (fun _ => kk w2 H locs s7 hP hD hS) (fun c9 => absurd rfl c9)
theorem B_idle (C0 : lw_At p s m meth c b L xs) (hK : va_K D vwCl (tyA k) s) (hm : amb k (fun q : Nat => s.heap.size ≤ q) s s.heap) (hL : L ≤ 3072) (hi : i + 6 ≤ L) (hI : INV k xq oq ws) (hP : va_P D vwCl ws H) (hD : va_D (fun q : Nat => s.heap.size ≤ q) ws) (hS : va_S (fun q : Nat => s.heap.size ≤ q) s.heap H locs) (hl : lv_has ls 4 [(0, .ref b), (1, .ref xq), (2, .ref oq), (3, .int (nI i))]) (kk : ∀ (ws' : va_W) (H' : Heap) (locs' : List Loc), INV k xq oq ws' → va_P D vwCl ws' H' → va_D (fun q : Nat => s.heap.size ≤ q) ws' → va_S (fun q : Nat => s.heap.size ≤ q) s.heap H' locs' → W p l e room_1 s m #[Value.ref b] below meth c H' locs' 97 5834 Q (F0 m 945 ls [])) : W p l e room_1 s m #[Value.ref b] below meth c H locs 97 5834 Q (F0 m 503 ls []) := by
  obtain ⟨hx, hb, hr, hml, hown, hts, hX, hbl, hlocks, hgv⟩ := C0
  have hown : s.vm.findClass "ZoneGuardLaw" = some m.cls := hown
  have ht := wbL hts
  have hA : ∀ q : Nat, s.heap.size ≤ q → (fun q : Nat => s.heap.size ≤ q) q := fun _ h => h
  have hbA : ¬ (fun q : Nat => s.heap.size ≤ q) b := Nat.not_le.mpr hbl
  have h1 : vp_in (nI i + 1) L := by
    rw [show nI i + 1 = nI (i + 1) from nI_add i 1]
    exact vp_in_nI (by omega) (by omega)
  have h2 : vp_in (nI i + 2) L := by
    rw [show nI i + 2 = nI (i + 2) from nI_add i 2]
    exact vp_in_nI (by omega) (by omega)
  obtain ⟨r, w1, w2, s1, s2, s3, s4, ⟨⟨i1, fs1, s5⟩, -⟩, ⟨-, i2, fs2, s6⟩, s7⟩ := S_idle l D hI (xs (Int32.toNatClampNeg (nI i + 1))) (xs (Int32.toNatClampNeg (nI i + 2)))
  refine lv_aload_n hx hb dL_law_503 rfl (lv_at hl 1 rfl) ?_
  refine lv_aload_n hx hb dL_law_504 rfl (lv_at hl 0 rfl) ?_
  refine lv_iload_n hx hb dL_law_505 rfl (lv_at hl 3 rfl) ?_
  refine lv_iconst (v := 1) hx hb dL_law_506 (by decide) ?_
  refine lv_iadd hx hb dL_law_507 ?_
  refine va_sld hx hb hX hbl hbA hS h1 dL_law_508 ?_
  refine lv_aload_n hx hb dL_law_509 rfl (lv_at hl 0 rfl) ?_
  refine lv_iload_n hx hb dL_law_510 rfl (lv_at hl 3 rfl) ?_
  refine lv_iconst (v := 2) hx hb dL_law_511 (by decide) ?_
  refine lv_iadd hx hb dL_law_512 ?_
  refine va_sld hx hb hX hbl hbA hS h2 dL_law_513 ?_
  refine ziW (zrVE (pre := []) (wc := ws) (C := RX5) (T := TX5) (N := 8) (b := xq) (As := [.int (xs (Int32.toNatClampNeg (nI i + 1))), .int (xs (Int32.toNatClampNeg (nI i + 2)))]) (rest := []) ⟨hx, hb, hml, hown, ht⟩ (s1 _) (cwV 2 ht (gdV wb453 wb454 wb455 wb72 wb456) rfl rfl rfl (by decide +kernel) ⟨Nat.le_of_ble_eq_true rfl, Nat.le_of_ble_eq_true rfl⟩) hK hP hD hS hA hm i1 5 rfl s5 rfl hl.1 rfl (Nat.le_of_ble_eq_true rfl) dL_law_514 ⟨Nat.le_of_ble_eq_true rfl, Nat.le_of_ble_eq_true rfl⟩) hD hS hA s3 (fun H locs hP hD hS => ?_)
  refine lv_aload_n hx hb dL_law_517 rfl (lv_at hl 2 rfl) ?_
  refine lv_aload_n hx hb dL_law_518 rfl (lv_at hl 0 rfl) ?_
  refine lv_iload_n hx hb dL_law_519 rfl (lv_at hl 3 rfl) ?_
  refine lv_iconst (v := 1) hx hb dL_law_520 (by decide) ?_
  refine lv_iadd hx hb dL_law_521 ?_
  refine va_sld hx hb hX hbl hbA hS h1 dL_law_522 ?_
  refine lv_aload_n hx hb dL_law_523 rfl (lv_at hl 0 rfl) ?_
  refine lv_iload_n hx hb dL_law_524 rfl (lv_at hl 3 rfl) ?_
  refine lv_iconst (v := 2) hx hb dL_law_525 (by decide) ?_
  refine lv_iadd hx hb dL_law_526 ?_
  refine va_sld hx hb hX hbl hbA hS h2 dL_law_527 ?_
  refine ziW (zrVE (pre := []) (wc := w1) (C := RX6) (T := TX6) (N := 14) (b := oq) (As := [.int (xs (Int32.toNatClampNeg (nI i + 1))), .int (xs (Int32.toNatClampNeg (nI i + 2)))]) (rest := [.int r]) ⟨hx, hb, hml, hown, ht⟩ (s2 _) (cwV 2 ht (gdV wb943 wb944 wb945 wb80 wb946) rfl rfl rfl (by decide +kernel) ⟨Nat.le_of_ble_eq_true rfl, Nat.le_of_ble_eq_true rfl⟩) hK hP hD hS hA hm i2 6 rfl s6 rfl hl.1 rfl (Nat.le_of_ble_eq_true rfl) dL_law_528 ⟨Nat.le_of_ble_eq_true rfl, Nat.le_of_ble_eq_true rfl⟩) hD hS hA s4 (fun H locs hP hD hS => ?_)
  exact lv_icmp_eq (tgt := 945) hx hb dL_law_531 (by decide) (fun _ => kk w2 H locs s7 hP hD hS) (fun c9 => absurd rfl c9)
theorem B_contradicts (C0 : lw_At p s m meth c b L xs) (hK : va_K D vwCl (tyA k) s) (hm : amb k (fun q : Nat => s.heap.size ≤ q) s s.heap) (hL : L ≤ 3072) (hi : i + 6 ≤ L) (hI : INV k xq oq ws) (hP : va_P D vwCl ws H) (hD : va_D (fun q : Nat => s.heap.size ≤ q) ws) (hS : va_S (fun q : Nat => s.heap.size ≤ q) s.heap H locs) (hl : lv_has ls 4 [(0, .ref b), (1, .ref xq), (2, .ref oq), (3, .int (nI i))]) (kk : ∀ (ws' : va_W) (H' : Heap) (locs' : List Loc), INV k xq oq ws' → va_P D vwCl ws' H' → va_D (fun q : Nat => s.heap.size ≤ q) ws' → va_S (fun q : Nat => s.heap.size ≤ q) s.heap H' locs' → W p l e room_1 s m #[Value.ref b] below meth c H' locs' 97 5834 Q (F0 m 945 ls [])) : W p l e room_1 s m #[Value.ref b] below meth c H locs 97 5834 Q (F0 m 536 ls []) := by
  obtain ⟨hx, hb, hr, hml, hown, hts, hX, hbl, hlocks, hgv⟩ := C0
  have hown : s.vm.findClass "ZoneGuardLaw" = some m.cls := hown
  have ht := wbL hts
  have hA : ∀ q : Nat, s.heap.size ≤ q → (fun q : Nat => s.heap.size ≤ q) q := fun _ h => h
  have hbA : ¬ (fun q : Nat => s.heap.size ≤ q) b := Nat.not_le.mpr hbl
  have h1 : vp_in (nI i + 1) L := by
    rw [show nI i + 1 = nI (i + 1) from nI_add i 1]
    exact vp_in_nI (by omega) (by omega)
  have h2 : vp_in (nI i + 2) L := by
    rw [show nI i + 2 = nI (i + 2) from nI_add i 2]
    exact vp_in_nI (by omega) (by omega)
  obtain ⟨r, w1, w2, s1, s2, s3, s4, ⟨⟨i1, fs1, s5⟩, -⟩, ⟨-, i2, fs2, s6⟩, s7⟩ := S_contradicts l D hI (xs (Int32.toNatClampNeg (nI i + 1))) (xs (Int32.toNatClampNeg (nI i + 2)))
  refine lv_aload_n hx hb dL_law_536 rfl (lv_at hl 1 rfl) ?_
  refine lv_aload_n hx hb dL_law_537 rfl (lv_at hl 0 rfl) ?_
  refine lv_iload_n hx hb dL_law_538 rfl (lv_at hl 3 rfl) ?_
  refine lv_iconst (v := 1) hx hb dL_law_539 (by decide) ?_
  refine lv_iadd hx hb dL_law_540 ?_
  refine va_sld hx hb hX hbl hbA hS h1 dL_law_541 ?_
  refine lv_aload_n hx hb dL_law_542 rfl (lv_at hl 0 rfl) ?_
  refine lv_iload_n hx hb dL_law_543 rfl (lv_at hl 3 rfl) ?_
  refine lv_iconst (v := 2) hx hb dL_law_544 (by decide) ?_
  refine lv_iadd hx hb dL_law_545 ?_
  refine va_sld hx hb hX hbl hbA hS h2 dL_law_546 ?_
  refine ziW (zrVE (pre := []) (wc := ws) (C := RX5) (T := TX5) (N := 8) (b := xq) (As := [.int (xs (Int32.toNatClampNeg (nI i + 1))), .int (xs (Int32.toNatClampNeg (nI i + 2)))]) (rest := []) ⟨hx, hb, hml, hown, ht⟩ (s1 _) (cwV 2 ht (gdV wb476 wb477 wb478 wb72 wb479) rfl rfl rfl (by decide +kernel) ⟨Nat.le_of_ble_eq_true rfl, Nat.le_of_ble_eq_true rfl⟩) hK hP hD hS hA hm i1 5 rfl s5 rfl hl.1 rfl (Nat.le_of_ble_eq_true rfl) dL_law_547 ⟨Nat.le_of_ble_eq_true rfl, Nat.le_of_ble_eq_true rfl⟩) hD hS hA s3 (fun H locs hP hD hS => ?_)
  refine lv_aload_n hx hb dL_law_550 rfl (lv_at hl 2 rfl) ?_
  refine lv_aload_n hx hb dL_law_551 rfl (lv_at hl 0 rfl) ?_
  refine lv_iload_n hx hb dL_law_552 rfl (lv_at hl 3 rfl) ?_
  refine lv_iconst (v := 1) hx hb dL_law_553 (by decide) ?_
  refine lv_iadd hx hb dL_law_554 ?_
  refine va_sld hx hb hX hbl hbA hS h1 dL_law_555 ?_
  refine lv_aload_n hx hb dL_law_556 rfl (lv_at hl 0 rfl) ?_
  refine lv_iload_n hx hb dL_law_557 rfl (lv_at hl 3 rfl) ?_
  refine lv_iconst (v := 2) hx hb dL_law_558 (by decide) ?_
  refine lv_iadd hx hb dL_law_559 ?_
  refine va_sld hx hb hX hbl hbA hS h2 dL_law_560 ?_
  refine ziW (zrVE (pre := []) (wc := w1) (C := RX6) (T := TX6) (N := 14) (b := oq) (As := [.int (xs (Int32.toNatClampNeg (nI i + 1))), .int (xs (Int32.toNatClampNeg (nI i + 2)))]) (rest := [.int r]) ⟨hx, hb, hml, hown, ht⟩ (s2 _) (cwV 2 ht (gdV wb955 wb956 wb957 wb80 wb958) rfl rfl rfl (by decide +kernel) ⟨Nat.le_of_ble_eq_true rfl, Nat.le_of_ble_eq_true rfl⟩) hK hP hD hS hA hm i2 6 rfl s6 rfl hl.1 rfl (Nat.le_of_ble_eq_true rfl) dL_law_561 ⟨Nat.le_of_ble_eq_true rfl, Nat.le_of_ble_eq_true rfl⟩) hD hS hA s4 (fun H locs hP hD hS => ?_)
  exact lv_icmp_eq (tgt := 945) hx hb dL_law_564 (by decide) (fun _ => kk w2 H locs s7 hP hD hS) (fun c9 => absurd rfl c9)
theorem B_change (C0 : lw_At p s m meth c b L xs) (hK : va_K D vwCl (tyA k) s) (hm : amb k (fun q : Nat => s.heap.size ≤ q) s s.heap) (hL : L ≤ 3072) (hi : i + 6 ≤ L) (hI : INV k xq oq ws) (hP : va_P D vwCl ws H) (hD : va_D (fun q : Nat => s.heap.size ≤ q) ws) (hS : va_S (fun q : Nat => s.heap.size ≤ q) s.heap H locs) (hl : lv_has ls 4 [(0, .ref b), (1, .ref xq), (2, .ref oq), (3, .int (nI i))]) (kk : ∀ (ws' : va_W) (H' : Heap) (locs' : List Loc), INV k xq oq ws' → va_P D vwCl ws' H' → va_D (fun q : Nat => s.heap.size ≤ q) ws' → va_S (fun q : Nat => s.heap.size ≤ q) s.heap H' locs' → W p l e room_1 s m #[Value.ref b] below meth c H' locs' 97 5834 Q (F0 m 945 ls [])) : W p l e room_1 s m #[Value.ref b] below meth c H locs 97 5834 Q (F0 m 569 ls []) := by
  obtain ⟨hx, hb, hr, hml, hown, hts, hX, hbl, hlocks, hgv⟩ := C0
  have hown : s.vm.findClass "ZoneGuardLaw" = some m.cls := hown
  have ht := wbL hts
  have hA : ∀ q : Nat, s.heap.size ≤ q → (fun q : Nat => s.heap.size ≤ q) q := fun _ h => h
  have hbA : ¬ (fun q : Nat => s.heap.size ≤ q) b := Nat.not_le.mpr hbl
  have h1 : vp_in (nI i + 1) L := by
    rw [show nI i + 1 = nI (i + 1) from nI_add i 1]
    exact vp_in_nI (by omega) (by omega)
  obtain ⟨r, w1, w2, s1, s2, s3, s4, ⟨⟨i1, fs1, s5⟩, -⟩, ⟨-, i2, fs2, s6⟩, s7⟩ := S_change l D hI (xs (Int32.toNatClampNeg (nI i + 1)))
  refine lv_aload_n hx hb dL_law_569 rfl (lv_at hl 1 rfl) ?_
  refine lv_aload_n hx hb dL_law_570 rfl (lv_at hl 0 rfl) ?_
  refine lv_iload_n hx hb dL_law_571 rfl (lv_at hl 3 rfl) ?_
  refine lv_iconst (v := 1) hx hb dL_law_572 (by decide) ?_
  refine lv_iadd hx hb dL_law_573 ?_
  refine va_sld hx hb hX hbl hbA hS h1 dL_law_574 ?_
  refine ziW (zrVE (pre := []) (wc := ws) (C := RX5) (T := TX5) (N := 8) (b := xq) (As := [.int (xs (Int32.toNatClampNeg (nI i + 1)))]) (rest := []) ⟨hx, hb, hml, hown, ht⟩ (s1 _) (cwV 1 ht (gdV wb480 wb481 wb482 wb72 wb483) rfl rfl rfl (by decide +kernel) ⟨Nat.le_of_ble_eq_true rfl, Nat.le_of_ble_eq_true rfl⟩) hK hP hD hS hA hm i1 5 rfl s5 rfl hl.1 rfl (Nat.le_of_ble_eq_true rfl) dL_law_575 ⟨Nat.le_of_ble_eq_true rfl, Nat.le_of_ble_eq_true rfl⟩) hD hS hA s3 (fun H locs hP hD hS => ?_)
  refine lv_aload_n hx hb dL_law_578 rfl (lv_at hl 2 rfl) ?_
  refine lv_aload_n hx hb dL_law_579 rfl (lv_at hl 0 rfl) ?_
  refine lv_iload_n hx hb dL_law_580 rfl (lv_at hl 3 rfl) ?_
  refine lv_iconst (v := 1) hx hb dL_law_581 (by decide) ?_
  refine lv_iadd hx hb dL_law_582 ?_
  refine va_sld hx hb hX hbl hbA hS h1 dL_law_583 ?_
  refine ziW (zrVE (pre := []) (wc := w1) (C := RX6) (T := TX6) (N := 14) (b := oq) (As := [.int (xs (Int32.toNatClampNeg (nI i + 1)))]) (rest := [.int r]) ⟨hx, hb, hml, hown, ht⟩ (s2 _) (cwV 1 ht (gdV wb959 wb960 wb961 wb80 wb962) rfl rfl rfl (by decide +kernel) ⟨Nat.le_of_ble_eq_true rfl, Nat.le_of_ble_eq_true rfl⟩) hK hP hD hS hA hm i2 6 rfl s6 rfl hl.1 rfl (Nat.le_of_ble_eq_true rfl) dL_law_584 ⟨Nat.le_of_ble_eq_true rfl, Nat.le_of_ble_eq_true rfl⟩) hD hS hA s4 (fun H locs hP hD hS => ?_)
  exact lv_icmp_eq (tgt := 945) hx hb dL_law_587 (by decide) (fun _ => kk w2 H locs s7 hP hD hS) (fun c9 => absurd rfl c9)
theorem B_all (C0 : lw_At p s m meth c b L xs) (hK : va_K D vwCl (tyA k) s) (hm : amb k (fun q : Nat => s.heap.size ≤ q) s s.heap) (hL : L ≤ 3072) (hi : i + 6 ≤ L) (hI : INV k xq oq ws) (hP : va_P D vwCl ws H) (hD : va_D (fun q : Nat => s.heap.size ≤ q) ws) (hS : va_S (fun q : Nat => s.heap.size ≤ q) s.heap H locs) (hl : lv_has ls 4 [(0, .ref b), (1, .ref xq), (2, .ref oq), (3, .int (nI i))]) (kk : ∀ (ws' : va_W) (H' : Heap) (locs' : List Loc), INV k xq oq ws' → va_P D vwCl ws' H' → va_D (fun q : Nat => s.heap.size ≤ q) ws' → va_S (fun q : Nat => s.heap.size ≤ q) s.heap H' locs' → W p l e room_1 s m #[Value.ref b] below meth c H' locs' 97 5834 Q (F0 m 945 ls [])) : W p l e room_1 s m #[Value.ref b] below meth c H locs 97 5834 Q (F0 m 592 ls []) := by
  obtain ⟨hx, hb, hr, hml, hown, hts, hX, hbl, hlocks, hgv⟩ := C0
  have hown : s.vm.findClass "ZoneGuardLaw" = some m.cls := hown
  have ht := wbL hts
  have hA : ∀ q : Nat, s.heap.size ≤ q → (fun q : Nat => s.heap.size ≤ q) q := fun _ h => h
  have hbA : ¬ (fun q : Nat => s.heap.size ≤ q) b := Nat.not_le.mpr hbl
  have h1 : vp_in (nI i + 1) L := by
    rw [show nI i + 1 = nI (i + 1) from nI_add i 1]
    exact vp_in_nI (by omega) (by omega)
  obtain ⟨r, w1, w2, s1, s2, s3, s4, ⟨⟨i1, fs1, s5⟩, -⟩, ⟨-, i2, fs2, s6⟩, s7⟩ := S_all l D hI (xs (Int32.toNatClampNeg (nI i + 1)))
  refine lv_aload_n hx hb dL_law_592 rfl (lv_at hl 1 rfl) ?_
  refine lv_aload_n hx hb dL_law_593 rfl (lv_at hl 0 rfl) ?_
  refine lv_iload_n hx hb dL_law_594 rfl (lv_at hl 3 rfl) ?_
  refine lv_iconst (v := 1) hx hb dL_law_595 (by decide) ?_
  refine lv_iadd hx hb dL_law_596 ?_
  refine va_sld hx hb hX hbl hbA hS h1 dL_law_597 ?_
  refine ziW (zrVE (pre := []) (wc := ws) (C := RX5) (T := TX5) (N := 8) (b := xq) (As := [.int (xs (Int32.toNatClampNeg (nI i + 1)))]) (rest := []) ⟨hx, hb, hml, hown, ht⟩ (s1 _) (cwV 1 ht (gdV wb498 wb499 wb500 wb72 wb501) rfl rfl rfl (by decide +kernel) ⟨Nat.le_of_ble_eq_true rfl, Nat.le_of_ble_eq_true rfl⟩) hK hP hD hS hA hm i1 5 rfl s5 rfl hl.1 rfl (Nat.le_of_ble_eq_true rfl) dL_law_598 ⟨Nat.le_of_ble_eq_true rfl, Nat.le_of_ble_eq_true rfl⟩) hD hS hA s3 (fun H locs hP hD hS => ?_)
  refine lv_aload_n hx hb dL_law_601 rfl (lv_at hl 2 rfl) ?_
  refine lv_aload_n hx hb dL_law_602 rfl (lv_at hl 0 rfl) ?_
  refine lv_iload_n hx hb dL_law_603 rfl (lv_at hl 3 rfl) ?_
  refine lv_iconst (v := 1) hx hb dL_law_604 (by decide) ?_
  refine lv_iadd hx hb dL_law_605 ?_
  refine va_sld hx hb hX hbl hbA hS h1 dL_law_606 ?_
  refine ziW (zrVE (pre := []) (wc := w1) (C := RX6) (T := TX6) (N := 14) (b := oq) (As := [.int (xs (Int32.toNatClampNeg (nI i + 1)))]) (rest := [.int r]) ⟨hx, hb, hml, hown, ht⟩ (s2 _) (cwV 1 ht (gdV wb971 wb972 wb973 wb80 wb974) rfl rfl rfl (by decide +kernel) ⟨Nat.le_of_ble_eq_true rfl, Nat.le_of_ble_eq_true rfl⟩) hK hP hD hS hA hm i2 6 rfl s6 rfl hl.1 rfl (Nat.le_of_ble_eq_true rfl) dL_law_607 ⟨Nat.le_of_ble_eq_true rfl, Nat.le_of_ble_eq_true rfl⟩) hD hS hA s4 (fun H locs hP hD hS => ?_)
  exact lv_icmp_eq (tgt := 945) hx hb dL_law_610 (by decide) (fun _ => kk w2 H locs s7 hP hD hS) (fun c9 => absurd rfl c9)
theorem B_letter (C0 : lw_At p s m meth c b L xs) (hK : va_K D vwCl (tyA k) s) (hm : amb k (fun q : Nat => s.heap.size ≤ q) s s.heap) (hL : L ≤ 3072) (hi : i + 6 ≤ L) (hI : INV k xq oq ws) (hP : va_P D vwCl ws H) (hD : va_D (fun q : Nat => s.heap.size ≤ q) ws) (hS : va_S (fun q : Nat => s.heap.size ≤ q) s.heap H locs) (hl : lv_has ls 4 [(0, .ref b), (1, .ref xq), (2, .ref oq), (3, .int (nI i))]) (kk : ∀ (ws' : va_W) (H' : Heap) (locs' : List Loc), INV k xq oq ws' → va_P D vwCl ws' H' → va_D (fun q : Nat => s.heap.size ≤ q) ws' → va_S (fun q : Nat => s.heap.size ≤ q) s.heap H' locs' → W p l e room_1 s m #[Value.ref b] below meth c H' locs' 97 5834 Q (F0 m 945 ls [])) : W p l e room_1 s m #[Value.ref b] below meth c H locs 97 5834 Q (F0 m 615 ls []) := by
  obtain ⟨hx, hb, hr, hml, hown, hts, hX, hbl, hlocks, hgv⟩ := C0
  have hown : s.vm.findClass "ZoneGuardLaw" = some m.cls := hown
  have ht := wbL hts
  have hA : ∀ q : Nat, s.heap.size ≤ q → (fun q : Nat => s.heap.size ≤ q) q := fun _ h => h
  have hbA : ¬ (fun q : Nat => s.heap.size ≤ q) b := Nat.not_le.mpr hbl
  have h1 : vp_in (nI i + 1) L := by
    rw [show nI i + 1 = nI (i + 1) from nI_add i 1]
    exact vp_in_nI (by omega) (by omega)
  have h2 : vp_in (nI i + 2) L := by
    rw [show nI i + 2 = nI (i + 2) from nI_add i 2]
    exact vp_in_nI (by omega) (by omega)
  have h3 : vp_in (nI i + 3) L := by
    rw [show nI i + 3 = nI (i + 3) from nI_add i 3]
    exact vp_in_nI (by omega) (by omega)
  have h4 : vp_in (nI i + 4) L := by
    rw [show nI i + 4 = nI (i + 4) from nI_add i 4]
    exact vp_in_nI (by omega) (by omega)
  have h5 : vp_in (nI i + 5) L := by
    rw [show nI i + 5 = nI (i + 5) from nI_add i 5]
    exact vp_in_nI (by omega) (by omega)
  obtain ⟨r, w1, w2, s1, s2, s3, s4, ⟨⟨i1, fs1, s5⟩, -⟩, ⟨-, i2, fs2, s6⟩, s7⟩ := S_letter l D hI (xs (Int32.toNatClampNeg (nI i + 1))) (xs (Int32.toNatClampNeg (nI i + 2))) (xs (Int32.toNatClampNeg (nI i + 3))) (xs (Int32.toNatClampNeg (nI i + 4))) (xs (Int32.toNatClampNeg (nI i + 5)))
  refine lv_aload_n hx hb dL_law_615 rfl (lv_at hl 1 rfl) ?_
  refine lv_aload_n hx hb dL_law_616 rfl (lv_at hl 0 rfl) ?_
  refine lv_iload_n hx hb dL_law_617 rfl (lv_at hl 3 rfl) ?_
  refine lv_iconst (v := 1) hx hb dL_law_618 (by decide) ?_
  refine lv_iadd hx hb dL_law_619 ?_
  refine va_sld hx hb hX hbl hbA hS h1 dL_law_620 ?_
  refine lv_aload_n hx hb dL_law_621 rfl (lv_at hl 0 rfl) ?_
  refine lv_iload_n hx hb dL_law_622 rfl (lv_at hl 3 rfl) ?_
  refine lv_iconst (v := 2) hx hb dL_law_623 (by decide) ?_
  refine lv_iadd hx hb dL_law_624 ?_
  refine va_sld hx hb hX hbl hbA hS h2 dL_law_625 ?_
  refine lv_aload_n hx hb dL_law_626 rfl (lv_at hl 0 rfl) ?_
  refine lv_iload_n hx hb dL_law_627 rfl (lv_at hl 3 rfl) ?_
  refine lv_iconst (v := 3) hx hb dL_law_628 (by decide) ?_
  refine lv_iadd hx hb dL_law_629 ?_
  refine va_sld hx hb hX hbl hbA hS h3 dL_law_630 ?_
  refine lv_aload_n hx hb dL_law_631 rfl (lv_at hl 0 rfl) ?_
  refine lv_iload_n hx hb dL_law_632 rfl (lv_at hl 3 rfl) ?_
  refine lv_iconst (v := 4) hx hb dL_law_633 (by decide) ?_
  refine lv_iadd hx hb dL_law_634 ?_
  refine va_sld hx hb hX hbl hbA hS h4 dL_law_635 ?_
  refine lv_aload_n hx hb dL_law_636 rfl (lv_at hl 0 rfl) ?_
  refine lv_iload_n hx hb dL_law_637 rfl (lv_at hl 3 rfl) ?_
  refine lv_iconst (v := 5) hx hb dL_law_638 (by decide) ?_
  refine lv_iadd hx hb dL_law_639 ?_
  refine va_sld hx hb hX hbl hbA hS h5 dL_law_640 ?_
  refine ziW (zrVE (pre := []) (wc := ws) (C := RX5) (T := TX5) (N := 8) (b := xq) (As := [.int (xs (Int32.toNatClampNeg (nI i + 1))), .int (xs (Int32.toNatClampNeg (nI i + 2))), .int (xs (Int32.toNatClampNeg (nI i + 3))), .int (xs (Int32.toNatClampNeg (nI i + 4))), .int (xs (Int32.toNatClampNeg (nI i + 5)))]) (rest := []) ⟨hx, hb, hml, hown, ht⟩ (s1 _) (cwV 5 ht (gdV wb510 wb511 wb512 wb72 wb513) rfl rfl rfl (by decide +kernel) ⟨Nat.le_of_ble_eq_true rfl, Nat.le_of_ble_eq_true rfl⟩) hK hP hD hS hA hm i1 5 rfl s5 rfl hl.1 rfl (Nat.le_of_ble_eq_true rfl) dL_law_641 ⟨Nat.le_of_ble_eq_true rfl, Nat.le_of_ble_eq_true rfl⟩) hD hS hA s3 (fun H locs hP hD hS => ?_)
  refine lv_aload_n hx hb dL_law_644 rfl (lv_at hl 2 rfl) ?_
  refine lv_aload_n hx hb dL_law_645 rfl (lv_at hl 0 rfl) ?_
  refine lv_iload_n hx hb dL_law_646 rfl (lv_at hl 3 rfl) ?_
  refine lv_iconst (v := 1) hx hb dL_law_647 (by decide) ?_
  refine lv_iadd hx hb dL_law_648 ?_
  refine va_sld hx hb hX hbl hbA hS h1 dL_law_649 ?_
  refine lv_aload_n hx hb dL_law_650 rfl (lv_at hl 0 rfl) ?_
  refine lv_iload_n hx hb dL_law_651 rfl (lv_at hl 3 rfl) ?_
  refine lv_iconst (v := 2) hx hb dL_law_652 (by decide) ?_
  refine lv_iadd hx hb dL_law_653 ?_
  refine va_sld hx hb hX hbl hbA hS h2 dL_law_654 ?_
  refine lv_aload_n hx hb dL_law_655 rfl (lv_at hl 0 rfl) ?_
  refine lv_iload_n hx hb dL_law_656 rfl (lv_at hl 3 rfl) ?_
  refine lv_iconst (v := 3) hx hb dL_law_657 (by decide) ?_
  refine lv_iadd hx hb dL_law_658 ?_
  refine va_sld hx hb hX hbl hbA hS h3 dL_law_659 ?_
  refine lv_aload_n hx hb dL_law_660 rfl (lv_at hl 0 rfl) ?_
  refine lv_iload_n hx hb dL_law_661 rfl (lv_at hl 3 rfl) ?_
  refine lv_iconst (v := 4) hx hb dL_law_662 (by decide) ?_
  refine lv_iadd hx hb dL_law_663 ?_
  refine va_sld hx hb hX hbl hbA hS h4 dL_law_664 ?_
  refine lv_aload_n hx hb dL_law_665 rfl (lv_at hl 0 rfl) ?_
  refine lv_iload_n hx hb dL_law_666 rfl (lv_at hl 3 rfl) ?_
  refine lv_iconst (v := 5) hx hb dL_law_667 (by decide) ?_
  refine lv_iadd hx hb dL_law_668 ?_
  refine va_sld hx hb hX hbl hbA hS h5 dL_law_669 ?_
  refine ziW (zrVE (pre := []) (wc := w1) (C := RX6) (T := TX6) (N := 14) (b := oq) (As := [.int (xs (Int32.toNatClampNeg (nI i + 1))), .int (xs (Int32.toNatClampNeg (nI i + 2))), .int (xs (Int32.toNatClampNeg (nI i + 3))), .int (xs (Int32.toNatClampNeg (nI i + 4))), .int (xs (Int32.toNatClampNeg (nI i + 5)))]) (rest := [.int r]) ⟨hx, hb, hml, hown, ht⟩ (s2 _) (cwV 5 ht (gdV wb975 wb976 wb977 wb80 wb978) rfl rfl rfl (by decide +kernel) ⟨Nat.le_of_ble_eq_true rfl, Nat.le_of_ble_eq_true rfl⟩) hK hP hD hS hA hm i2 6 rfl s6 rfl hl.1 rfl (Nat.le_of_ble_eq_true rfl) dL_law_670 ⟨Nat.le_of_ble_eq_true rfl, Nat.le_of_ble_eq_true rfl⟩) hD hS hA s4 (fun H locs hP hD hS => ?_)
  exact lv_icmp_eq (tgt := 945) hx hb dL_law_673 (by decide) (fun _ => kk w2 H locs s7 hP hD hS) (fun c9 => absurd rfl c9)
theorem B_announces (C0 : lw_At p s m meth c b L xs) (hK : va_K D vwCl (tyA k) s) (hm : amb k (fun q : Nat => s.heap.size ≤ q) s s.heap) (hL : L ≤ 3072) (hi : i + 6 ≤ L) (hI : INV k xq oq ws) (hP : va_P D vwCl ws H) (hD : va_D (fun q : Nat => s.heap.size ≤ q) ws) (hS : va_S (fun q : Nat => s.heap.size ≤ q) s.heap H locs) (hl : lv_has ls 4 [(0, .ref b), (1, .ref xq), (2, .ref oq), (3, .int (nI i))]) (kk : ∀ (ws' : va_W) (H' : Heap) (locs' : List Loc), INV k xq oq ws' → va_P D vwCl ws' H' → va_D (fun q : Nat => s.heap.size ≤ q) ws' → va_S (fun q : Nat => s.heap.size ≤ q) s.heap H' locs' → W p l e room_1 s m #[Value.ref b] below meth c H' locs' 97 5834 Q (F0 m 945 ls [])) : W p l e room_1 s m #[Value.ref b] below meth c H locs 97 5834 Q (F0 m 678 ls []) := by
  obtain ⟨hx, hb, hr, hml, hown, hts, hX, hbl, hlocks, hgv⟩ := C0
  have hown : s.vm.findClass "ZoneGuardLaw" = some m.cls := hown
  have ht := wbL hts
  have hA : ∀ q : Nat, s.heap.size ≤ q → (fun q : Nat => s.heap.size ≤ q) q := fun _ h => h
  have hbA : ¬ (fun q : Nat => s.heap.size ≤ q) b := Nat.not_le.mpr hbl
  have h1 : vp_in (nI i + 1) L := by
    rw [show nI i + 1 = nI (i + 1) from nI_add i 1]
    exact vp_in_nI (by omega) (by omega)
  have h2 : vp_in (nI i + 2) L := by
    rw [show nI i + 2 = nI (i + 2) from nI_add i 2]
    exact vp_in_nI (by omega) (by omega)
  have h3 : vp_in (nI i + 3) L := by
    rw [show nI i + 3 = nI (i + 3) from nI_add i 3]
    exact vp_in_nI (by omega) (by omega)
  obtain ⟨r, w1, w2, s1, s2, s3, s4, ⟨⟨i1, fs1, s5⟩, -⟩, ⟨-, i2, fs2, s6⟩, s7⟩ := S_announces l D hI (xs (Int32.toNatClampNeg (nI i + 1))) (xs (Int32.toNatClampNeg (nI i + 2))) (xs (Int32.toNatClampNeg (nI i + 3)))
  refine lv_aload_n hx hb dL_law_678 rfl (lv_at hl 1 rfl) ?_
  refine lv_aload_n hx hb dL_law_679 rfl (lv_at hl 0 rfl) ?_
  refine lv_iload_n hx hb dL_law_680 rfl (lv_at hl 3 rfl) ?_
  refine lv_iconst (v := 1) hx hb dL_law_681 (by decide) ?_
  refine lv_iadd hx hb dL_law_682 ?_
  refine va_sld hx hb hX hbl hbA hS h1 dL_law_683 ?_
  refine lv_aload_n hx hb dL_law_684 rfl (lv_at hl 0 rfl) ?_
  refine lv_iload_n hx hb dL_law_685 rfl (lv_at hl 3 rfl) ?_
  refine lv_iconst (v := 2) hx hb dL_law_686 (by decide) ?_
  refine lv_iadd hx hb dL_law_687 ?_
  refine va_sld hx hb hX hbl hbA hS h2 dL_law_688 ?_
  refine lv_aload_n hx hb dL_law_689 rfl (lv_at hl 0 rfl) ?_
  refine lv_iload_n hx hb dL_law_690 rfl (lv_at hl 3 rfl) ?_
  refine lv_iconst (v := 3) hx hb dL_law_691 (by decide) ?_
  refine lv_iadd hx hb dL_law_692 ?_
  refine va_sld hx hb hX hbl hbA hS h3 dL_law_693 ?_
  refine ziW (zrVE (pre := []) (wc := ws) (C := RX5) (T := TX5) (N := 8) (b := xq) (As := [.int (xs (Int32.toNatClampNeg (nI i + 1))), .int (xs (Int32.toNatClampNeg (nI i + 2))), .int (xs (Int32.toNatClampNeg (nI i + 3)))]) (rest := []) ⟨hx, hb, hml, hown, ht⟩ (s1 _) (cwV 3 ht (gdV wb556 wb557 wb558 wb72 wb559) rfl rfl rfl (by decide +kernel) ⟨Nat.le_of_ble_eq_true rfl, Nat.le_of_ble_eq_true rfl⟩) hK hP hD hS hA hm i1 5 rfl s5 rfl hl.1 rfl (Nat.le_of_ble_eq_true rfl) dL_law_694 ⟨Nat.le_of_ble_eq_true rfl, Nat.le_of_ble_eq_true rfl⟩) hD hS hA s3 (fun H locs hP hD hS => ?_)
  refine lv_aload_n hx hb dL_law_697 rfl (lv_at hl 2 rfl) ?_
  refine lv_aload_n hx hb dL_law_698 rfl (lv_at hl 0 rfl) ?_
  refine lv_iload_n hx hb dL_law_699 rfl (lv_at hl 3 rfl) ?_
  refine lv_iconst (v := 1) hx hb dL_law_700 (by decide) ?_
  refine lv_iadd hx hb dL_law_701 ?_
  refine va_sld hx hb hX hbl hbA hS h1 dL_law_702 ?_
  refine lv_aload_n hx hb dL_law_703 rfl (lv_at hl 0 rfl) ?_
  refine lv_iload_n hx hb dL_law_704 rfl (lv_at hl 3 rfl) ?_
  refine lv_iconst (v := 2) hx hb dL_law_705 (by decide) ?_
  refine lv_iadd hx hb dL_law_706 ?_
  refine va_sld hx hb hX hbl hbA hS h2 dL_law_707 ?_
  refine lv_aload_n hx hb dL_law_708 rfl (lv_at hl 0 rfl) ?_
  refine lv_iload_n hx hb dL_law_709 rfl (lv_at hl 3 rfl) ?_
  refine lv_iconst (v := 3) hx hb dL_law_710 (by decide) ?_
  refine lv_iadd hx hb dL_law_711 ?_
  refine va_sld hx hb hX hbl hbA hS h3 dL_law_712 ?_
  refine ziW (zrVE (pre := []) (wc := w1) (C := RX6) (T := TX6) (N := 14) (b := oq) (As := [.int (xs (Int32.toNatClampNeg (nI i + 1))), .int (xs (Int32.toNatClampNeg (nI i + 2))), .int (xs (Int32.toNatClampNeg (nI i + 3)))]) (rest := [.int r]) ⟨hx, hb, hml, hown, ht⟩ (s2 _) (cwV 3 ht (gdV wb1030 wb1031 wb1032 wb80 wb1033) rfl rfl rfl (by decide +kernel) ⟨Nat.le_of_ble_eq_true rfl, Nat.le_of_ble_eq_true rfl⟩) hK hP hD hS hA hm i2 6 rfl s6 rfl hl.1 rfl (Nat.le_of_ble_eq_true rfl) dL_law_713 ⟨Nat.le_of_ble_eq_true rfl, Nat.le_of_ble_eq_true rfl⟩) hD hS hA s4 (fun H locs hP hD hS => ?_)
  exact lv_icmp_eq (tgt := 945) hx hb dL_law_716 (by decide) (fun _ => kk w2 H locs s7 hP hD hS) (fun c9 => absurd rfl c9)
theorem B_ticks (C0 : lw_At p s m meth c b L xs) (hK : va_K D vwCl (tyA k) s) (hm : amb k (fun q : Nat => s.heap.size ≤ q) s s.heap) (hL : L ≤ 3072) (hi : i + 6 ≤ L) (hI : INV k xq oq ws) (hP : va_P D vwCl ws H) (hD : va_D (fun q : Nat => s.heap.size ≤ q) ws) (hS : va_S (fun q : Nat => s.heap.size ≤ q) s.heap H locs) (hl : lv_has ls 4 [(0, .ref b), (1, .ref xq), (2, .ref oq), (3, .int (nI i))]) (kk : ∀ (ws' : va_W) (H' : Heap) (locs' : List Loc), INV k xq oq ws' → va_P D vwCl ws' H' → va_D (fun q : Nat => s.heap.size ≤ q) ws' → va_S (fun q : Nat => s.heap.size ≤ q) s.heap H' locs' → W p l e room_1 s m #[Value.ref b] below meth c H' locs' 97 5834 Q (F0 m 945 ls [])) : W p l e room_1 s m #[Value.ref b] below meth c H locs 97 5834 Q (F0 m 721 ls []) := by
  obtain ⟨hx, hb, hr, hml, hown, hts, hX, hbl, hlocks, hgv⟩ := C0
  have hown : s.vm.findClass "ZoneGuardLaw" = some m.cls := hown
  have ht := wbL hts
  have hA : ∀ q : Nat, s.heap.size ≤ q → (fun q : Nat => s.heap.size ≤ q) q := fun _ h => h
  have hbA : ¬ (fun q : Nat => s.heap.size ≤ q) b := Nat.not_le.mpr hbl
  have h1 : vp_in (nI i + 1) L := by
    rw [show nI i + 1 = nI (i + 1) from nI_add i 1]
    exact vp_in_nI (by omega) (by omega)
  obtain ⟨r, w1, w2, s1, s2, s3, s4, ⟨⟨i1, fs1, s5⟩, -⟩, ⟨-, i2, fs2, s6⟩, s7⟩ := S_ticks l D hI (xs (Int32.toNatClampNeg (nI i + 1)))
  refine lv_aload_n hx hb dL_law_721 rfl (lv_at hl 1 rfl) ?_
  refine lv_aload_n hx hb dL_law_722 rfl (lv_at hl 0 rfl) ?_
  refine lv_iload_n hx hb dL_law_723 rfl (lv_at hl 3 rfl) ?_
  refine lv_iconst (v := 1) hx hb dL_law_724 (by decide) ?_
  refine lv_iadd hx hb dL_law_725 ?_
  refine va_sld hx hb hX hbl hbA hS h1 dL_law_726 ?_
  refine ziW (zrVE (pre := []) (wc := ws) (C := RX5) (T := TX5) (N := 8) (b := xq) (As := [.int (xs (Int32.toNatClampNeg (nI i + 1)))]) (rest := []) ⟨hx, hb, hml, hown, ht⟩ (s1 _) (cwV 1 ht (gdV wb564 wb565 wb566 wb72 wb567) rfl rfl rfl (by decide +kernel) ⟨Nat.le_of_ble_eq_true rfl, Nat.le_of_ble_eq_true rfl⟩) hK hP hD hS hA hm i1 5 rfl s5 rfl hl.1 rfl (Nat.le_of_ble_eq_true rfl) dL_law_727 ⟨Nat.le_of_ble_eq_true rfl, Nat.le_of_ble_eq_true rfl⟩) hD hS hA s3 (fun H locs hP hD hS => ?_)
  refine lv_aload_n hx hb dL_law_730 rfl (lv_at hl 2 rfl) ?_
  refine lv_aload_n hx hb dL_law_731 rfl (lv_at hl 0 rfl) ?_
  refine lv_iload_n hx hb dL_law_732 rfl (lv_at hl 3 rfl) ?_
  refine lv_iconst (v := 1) hx hb dL_law_733 (by decide) ?_
  refine lv_iadd hx hb dL_law_734 ?_
  refine va_sld hx hb hX hbl hbA hS h1 dL_law_735 ?_
  refine ziW (zrVE (pre := []) (wc := w1) (C := RX6) (T := TX6) (N := 14) (b := oq) (As := [.int (xs (Int32.toNatClampNeg (nI i + 1)))]) (rest := [.int r]) ⟨hx, hb, hml, hown, ht⟩ (s2 _) (cwV 1 ht (gdV wb1034 wb1035 wb1036 wb80 wb1037) rfl rfl rfl (by decide +kernel) ⟨Nat.le_of_ble_eq_true rfl, Nat.le_of_ble_eq_true rfl⟩) hK hP hD hS hA hm i2 6 rfl s6 rfl hl.1 rfl (Nat.le_of_ble_eq_true rfl) dL_law_736 ⟨Nat.le_of_ble_eq_true rfl, Nat.le_of_ble_eq_true rfl⟩) hD hS hA s4 (fun H locs hP hD hS => ?_)
  exact lv_icmp_eq (tgt := 945) hx hb dL_law_739 (by decide) (fun _ => kk w2 H locs s7 hP hD hS) (fun c9 => absurd rfl c9)
theorem B_span (C0 : lw_At p s m meth c b L xs) (hK : va_K D vwCl (tyA k) s) (hm : amb k (fun q : Nat => s.heap.size ≤ q) s s.heap) (hL : L ≤ 3072) (hi : i + 6 ≤ L) (hI : INV k xq oq ws) (hP : va_P D vwCl ws H) (hD : va_D (fun q : Nat => s.heap.size ≤ q) ws) (hS : va_S (fun q : Nat => s.heap.size ≤ q) s.heap H locs) (hl : lv_has ls 4 [(0, .ref b), (1, .ref xq), (2, .ref oq), (3, .int (nI i))]) (kk : ∀ (ws' : va_W) (H' : Heap) (locs' : List Loc), INV k xq oq ws' → va_P D vwCl ws' H' → va_D (fun q : Nat => s.heap.size ≤ q) ws' → va_S (fun q : Nat => s.heap.size ≤ q) s.heap H' locs' → W p l e room_1 s m #[Value.ref b] below meth c H' locs' 97 5834 Q (F0 m 945 ls [])) : W p l e room_1 s m #[Value.ref b] below meth c H locs 97 5834 Q (F0 m 744 ls []) := by
  obtain ⟨hx, hb, hr, hml, hown, hts, hX, hbl, hlocks, hgv⟩ := C0
  have hown : s.vm.findClass "ZoneGuardLaw" = some m.cls := hown
  have ht := wbL hts
  have hA : ∀ q : Nat, s.heap.size ≤ q → (fun q : Nat => s.heap.size ≤ q) q := fun _ h => h
  have hbA : ¬ (fun q : Nat => s.heap.size ≤ q) b := Nat.not_le.mpr hbl
  have h1 : vp_in (nI i + 1) L := by
    rw [show nI i + 1 = nI (i + 1) from nI_add i 1]
    exact vp_in_nI (by omega) (by omega)
  have h2 : vp_in (nI i + 2) L := by
    rw [show nI i + 2 = nI (i + 2) from nI_add i 2]
    exact vp_in_nI (by omega) (by omega)
  obtain ⟨r, w1, w2, s1, s2, s3, s4, ⟨⟨i1, fs1, s5⟩, -⟩, ⟨-, i2, fs2, s6⟩, s7⟩ := S_span l D hI (xs (Int32.toNatClampNeg (nI i + 1))) (xs (Int32.toNatClampNeg (nI i + 2)))
  refine lv_aload_n hx hb dL_law_744 rfl (lv_at hl 1 rfl) ?_
  refine lv_aload_n hx hb dL_law_745 rfl (lv_at hl 0 rfl) ?_
  refine lv_iload_n hx hb dL_law_746 rfl (lv_at hl 3 rfl) ?_
  refine lv_iconst (v := 1) hx hb dL_law_747 (by decide) ?_
  refine lv_iadd hx hb dL_law_748 ?_
  refine va_sld hx hb hX hbl hbA hS h1 dL_law_749 ?_
  refine lv_aload_n hx hb dL_law_750 rfl (lv_at hl 0 rfl) ?_
  refine lv_iload_n hx hb dL_law_751 rfl (lv_at hl 3 rfl) ?_
  refine lv_iconst (v := 2) hx hb dL_law_752 (by decide) ?_
  refine lv_iadd hx hb dL_law_753 ?_
  refine va_sld hx hb hX hbl hbA hS h2 dL_law_754 ?_
  refine ziW (zrVE (pre := []) (wc := ws) (C := RX5) (T := TX5) (N := 8) (b := xq) (As := [.int (xs (Int32.toNatClampNeg (nI i + 1))), .int (xs (Int32.toNatClampNeg (nI i + 2)))]) (rest := []) ⟨hx, hb, hml, hown, ht⟩ (s1 _) (cwV 2 ht (gdV wb572 wb573 wb574 wb72 wb575) rfl rfl rfl (by decide +kernel) ⟨Nat.le_of_ble_eq_true rfl, Nat.le_of_ble_eq_true rfl⟩) hK hP hD hS hA hm i1 5 rfl s5 rfl hl.1 rfl (Nat.le_of_ble_eq_true rfl) dL_law_755 ⟨Nat.le_of_ble_eq_true rfl, Nat.le_of_ble_eq_true rfl⟩) hD hS hA s3 (fun H locs hP hD hS => ?_)
  refine lv_aload_n hx hb dL_law_758 rfl (lv_at hl 2 rfl) ?_
  refine lv_aload_n hx hb dL_law_759 rfl (lv_at hl 0 rfl) ?_
  refine lv_iload_n hx hb dL_law_760 rfl (lv_at hl 3 rfl) ?_
  refine lv_iconst (v := 1) hx hb dL_law_761 (by decide) ?_
  refine lv_iadd hx hb dL_law_762 ?_
  refine va_sld hx hb hX hbl hbA hS h1 dL_law_763 ?_
  refine lv_aload_n hx hb dL_law_764 rfl (lv_at hl 0 rfl) ?_
  refine lv_iload_n hx hb dL_law_765 rfl (lv_at hl 3 rfl) ?_
  refine lv_iconst (v := 2) hx hb dL_law_766 (by decide) ?_
  refine lv_iadd hx hb dL_law_767 ?_
  refine va_sld hx hb hX hbl hbA hS h2 dL_law_768 ?_
  refine ziW (zrVE (pre := []) (wc := w1) (C := RX6) (T := TX6) (N := 14) (b := oq) (As := [.int (xs (Int32.toNatClampNeg (nI i + 1))), .int (xs (Int32.toNatClampNeg (nI i + 2)))]) (rest := [.int r]) ⟨hx, hb, hml, hown, ht⟩ (s2 _) (cwV 2 ht (gdV wb1038 wb1039 wb1040 wb80 wb1041) rfl rfl rfl (by decide +kernel) ⟨Nat.le_of_ble_eq_true rfl, Nat.le_of_ble_eq_true rfl⟩) hK hP hD hS hA hm i2 6 rfl s6 rfl hl.1 rfl (Nat.le_of_ble_eq_true rfl) dL_law_769 ⟨Nat.le_of_ble_eq_true rfl, Nat.le_of_ble_eq_true rfl⟩) hD hS hA s4 (fun H locs hP hD hS => ?_)
  exact lv_icmp_eq (tgt := 945) hx hb dL_law_772 (by decide) (fun _ => kk w2 H locs s7 hP hD hS) (fun c9 => absurd rfl c9)
theorem B_cuts (C0 : lw_At p s m meth c b L xs) (hK : va_K D vwCl (tyA k) s) (hm : amb k (fun q : Nat => s.heap.size ≤ q) s s.heap) (hL : L ≤ 3072) (hi : i + 6 ≤ L) (hI : INV k xq oq ws) (hP : va_P D vwCl ws H) (hD : va_D (fun q : Nat => s.heap.size ≤ q) ws) (hS : va_S (fun q : Nat => s.heap.size ≤ q) s.heap H locs) (hl : lv_has ls 4 [(0, .ref b), (1, .ref xq), (2, .ref oq), (3, .int (nI i))]) (kk : ∀ (ws' : va_W) (H' : Heap) (locs' : List Loc), INV k xq oq ws' → va_P D vwCl ws' H' → va_D (fun q : Nat => s.heap.size ≤ q) ws' → va_S (fun q : Nat => s.heap.size ≤ q) s.heap H' locs' → W p l e room_1 s m #[Value.ref b] below meth c H' locs' 97 5834 Q (F0 m 945 ls [])) : W p l e room_1 s m #[Value.ref b] below meth c H locs 97 5834 Q (F0 m 777 ls []) := by
  obtain ⟨hx, hb, hr, hml, hown, hts, hX, hbl, hlocks, hgv⟩ := C0
  have hown : s.vm.findClass "ZoneGuardLaw" = some m.cls := hown
  have ht := wbL hts
  have hA : ∀ q : Nat, s.heap.size ≤ q → (fun q : Nat => s.heap.size ≤ q) q := fun _ h => h
  have hbA : ¬ (fun q : Nat => s.heap.size ≤ q) b := Nat.not_le.mpr hbl
  obtain ⟨r, w1, w2, s1, s2, s3, s4, ⟨⟨i1, fs1, s5⟩, -⟩, ⟨-, i2, fs2, s6⟩, s7⟩ := S_cuts l D hI 
  refine lv_aload_n hx hb dL_law_777 rfl (lv_at hl 1 rfl) ?_
  refine ziW (zrVE (pre := []) (wc := ws) (C := RX5) (T := TX5) (N := 8) (b := xq) (As := []) (rest := []) ⟨hx, hb, hml, hown, ht⟩ (s1 _) (cwV 0 ht (gdV wb576 wb577 wb578 wb72 wb579) rfl rfl rfl (by decide +kernel) ⟨Nat.le_of_ble_eq_true rfl, Nat.le_of_ble_eq_true rfl⟩) hK hP hD hS hA hm i1 5 rfl s5 rfl hl.1 rfl (Nat.le_of_ble_eq_true rfl) dL_law_778 ⟨Nat.le_of_ble_eq_true rfl, Nat.le_of_ble_eq_true rfl⟩) hD hS hA s3 (fun H locs hP hD hS => ?_)
  refine lv_aload_n hx hb dL_law_781 rfl (lv_at hl 2 rfl) ?_
  refine ziW (zrVE (pre := []) (wc := w1) (C := RX6) (T := TX6) (N := 14) (b := oq) (As := []) (rest := [.int r]) ⟨hx, hb, hml, hown, ht⟩ (s2 _) (cwV 0 ht (gdV wb1042 wb1043 wb1044 wb80 wb1045) rfl rfl rfl (by decide +kernel) ⟨Nat.le_of_ble_eq_true rfl, Nat.le_of_ble_eq_true rfl⟩) hK hP hD hS hA hm i2 6 rfl s6 rfl hl.1 rfl (Nat.le_of_ble_eq_true rfl) dL_law_782 ⟨Nat.le_of_ble_eq_true rfl, Nat.le_of_ble_eq_true rfl⟩) hD hS hA s4 (fun H locs hP hD hS => ?_)
  exact lv_icmp_eq (tgt := 945) hx hb dL_law_785 (by decide) (fun _ => kk w2 H locs s7 hP hD hS) (fun c9 => absurd rfl c9)
theorem B_flow (C0 : lw_At p s m meth c b L xs) (hK : va_K D vwCl (tyA k) s) (hm : amb k (fun q : Nat => s.heap.size ≤ q) s s.heap) (hL : L ≤ 3072) (hi : i + 6 ≤ L) (hI : INV k xq oq ws) (hP : va_P D vwCl ws H) (hD : va_D (fun q : Nat => s.heap.size ≤ q) ws) (hS : va_S (fun q : Nat => s.heap.size ≤ q) s.heap H locs) (hl : lv_has ls 4 [(0, .ref b), (1, .ref xq), (2, .ref oq), (3, .int (nI i))]) (kk : ∀ (ws' : va_W) (H' : Heap) (locs' : List Loc), INV k xq oq ws' → va_P D vwCl ws' H' → va_D (fun q : Nat => s.heap.size ≤ q) ws' → va_S (fun q : Nat => s.heap.size ≤ q) s.heap H' locs' → W p l e room_1 s m #[Value.ref b] below meth c H' locs' 97 5834 Q (F0 m 945 ls [])) : W p l e room_1 s m #[Value.ref b] below meth c H locs 97 5834 Q (F0 m 790 ls []) := by
  obtain ⟨hx, hb, hr, hml, hown, hts, hX, hbl, hlocks, hgv⟩ := C0
  have hown : s.vm.findClass "ZoneGuardLaw" = some m.cls := hown
  have ht := wbL hts
  have hA : ∀ q : Nat, s.heap.size ≤ q → (fun q : Nat => s.heap.size ≤ q) q := fun _ h => h
  have hbA : ¬ (fun q : Nat => s.heap.size ≤ q) b := Nat.not_le.mpr hbl
  have h1 : vp_in (nI i + 1) L := by
    rw [show nI i + 1 = nI (i + 1) from nI_add i 1]
    exact vp_in_nI (by omega) (by omega)
  have h2 : vp_in (nI i + 2) L := by
    rw [show nI i + 2 = nI (i + 2) from nI_add i 2]
    exact vp_in_nI (by omega) (by omega)
  obtain ⟨r, w1, w2, s1, s2, s3, s4, ⟨⟨i1, fs1, s5⟩, -⟩, ⟨-, i2, fs2, s6⟩, s7⟩ := S_flow l D hI (xs (Int32.toNatClampNeg (nI i + 1))) (xs (Int32.toNatClampNeg (nI i + 2)))
  refine lv_aload_n hx hb dL_law_790 rfl (lv_at hl 1 rfl) ?_
  refine lv_aload_n hx hb dL_law_791 rfl (lv_at hl 0 rfl) ?_
  refine lv_iload_n hx hb dL_law_792 rfl (lv_at hl 3 rfl) ?_
  refine lv_iconst (v := 1) hx hb dL_law_793 (by decide) ?_
  refine lv_iadd hx hb dL_law_794 ?_
  refine va_sld hx hb hX hbl hbA hS h1 dL_law_795 ?_
  refine lv_aload_n hx hb dL_law_796 rfl (lv_at hl 0 rfl) ?_
  refine lv_iload_n hx hb dL_law_797 rfl (lv_at hl 3 rfl) ?_
  refine lv_iconst (v := 2) hx hb dL_law_798 (by decide) ?_
  refine lv_iadd hx hb dL_law_799 ?_
  refine va_sld hx hb hX hbl hbA hS h2 dL_law_800 ?_
  refine ziW (zrVE (pre := []) (wc := ws) (C := RX5) (T := TX5) (N := 8) (b := xq) (As := [.int (xs (Int32.toNatClampNeg (nI i + 1))), .int (xs (Int32.toNatClampNeg (nI i + 2)))]) (rest := []) ⟨hx, hb, hml, hown, ht⟩ (s1 _) (cwV 2 ht (gdV wb584 wb585 wb586 wb72 wb587) rfl rfl rfl (by decide +kernel) ⟨Nat.le_of_ble_eq_true rfl, Nat.le_of_ble_eq_true rfl⟩) hK hP hD hS hA hm i1 5 rfl s5 rfl hl.1 rfl (Nat.le_of_ble_eq_true rfl) dL_law_801 ⟨Nat.le_of_ble_eq_true rfl, Nat.le_of_ble_eq_true rfl⟩) hD hS hA s3 (fun H locs hP hD hS => ?_)
  refine lv_aload_n hx hb dL_law_804 rfl (lv_at hl 2 rfl) ?_
  refine lv_aload_n hx hb dL_law_805 rfl (lv_at hl 0 rfl) ?_
  refine lv_iload_n hx hb dL_law_806 rfl (lv_at hl 3 rfl) ?_
  refine lv_iconst (v := 1) hx hb dL_law_807 (by decide) ?_
  refine lv_iadd hx hb dL_law_808 ?_
  refine va_sld hx hb hX hbl hbA hS h1 dL_law_809 ?_
  refine lv_aload_n hx hb dL_law_810 rfl (lv_at hl 0 rfl) ?_
  refine lv_iload_n hx hb dL_law_811 rfl (lv_at hl 3 rfl) ?_
  refine lv_iconst (v := 2) hx hb dL_law_812 (by decide) ?_
  refine lv_iadd hx hb dL_law_813 ?_
  refine va_sld hx hb hX hbl hbA hS h2 dL_law_814 ?_
  refine ziW (zrVE (pre := []) (wc := w1) (C := RX6) (T := TX6) (N := 14) (b := oq) (As := [.int (xs (Int32.toNatClampNeg (nI i + 1))), .int (xs (Int32.toNatClampNeg (nI i + 2)))]) (rest := [.int r]) ⟨hx, hb, hml, hown, ht⟩ (s2 _) (cwV 2 ht (gdV wb1046 wb1047 wb1048 wb80 wb1049) rfl rfl rfl (by decide +kernel) ⟨Nat.le_of_ble_eq_true rfl, Nat.le_of_ble_eq_true rfl⟩) hK hP hD hS hA hm i2 6 rfl s6 rfl hl.1 rfl (Nat.le_of_ble_eq_true rfl) dL_law_815 ⟨Nat.le_of_ble_eq_true rfl, Nat.le_of_ble_eq_true rfl⟩) hD hS hA s4 (fun H locs hP hD hS => ?_)
  exact lv_icmp_eq (tgt := 945) hx hb dL_law_818 (by decide) (fun _ => kk w2 H locs s7 hP hD hS) (fun c9 => absurd rfl c9)
theorem B_count (C0 : lw_At p s m meth c b L xs) (hK : va_K D vwCl (tyA k) s) (hm : amb k (fun q : Nat => s.heap.size ≤ q) s s.heap) (hL : L ≤ 3072) (hi : i + 6 ≤ L) (hI : INV k xq oq ws) (hP : va_P D vwCl ws H) (hD : va_D (fun q : Nat => s.heap.size ≤ q) ws) (hS : va_S (fun q : Nat => s.heap.size ≤ q) s.heap H locs) (hl : lv_has ls 4 [(0, .ref b), (1, .ref xq), (2, .ref oq), (3, .int (nI i))]) (kk : ∀ (ws' : va_W) (H' : Heap) (locs' : List Loc), INV k xq oq ws' → va_P D vwCl ws' H' → va_D (fun q : Nat => s.heap.size ≤ q) ws' → va_S (fun q : Nat => s.heap.size ≤ q) s.heap H' locs' → W p l e room_1 s m #[Value.ref b] below meth c H' locs' 97 5834 Q (F0 m 945 ls [])) : W p l e room_1 s m #[Value.ref b] below meth c H locs 97 5834 Q (F0 m 823 ls []) := by
  obtain ⟨hx, hb, hr, hml, hown, hts, hX, hbl, hlocks, hgv⟩ := C0
  have hown : s.vm.findClass "ZoneGuardLaw" = some m.cls := hown
  have ht := wbL hts
  have hA : ∀ q : Nat, s.heap.size ≤ q → (fun q : Nat => s.heap.size ≤ q) q := fun _ h => h
  have hbA : ¬ (fun q : Nat => s.heap.size ≤ q) b := Nat.not_le.mpr hbl
  have h1 : vp_in (nI i + 1) L := by
    rw [show nI i + 1 = nI (i + 1) from nI_add i 1]
    exact vp_in_nI (by omega) (by omega)
  obtain ⟨r, w1, w2, s1, s2, s3, s4, ⟨⟨i1, fs1, s5⟩, -⟩, ⟨-, i2, fs2, s6⟩, s7⟩ := S_count l D hI (xs (Int32.toNatClampNeg (nI i + 1)))
  refine lv_aload_n hx hb dL_law_823 rfl (lv_at hl 1 rfl) ?_
  refine lv_aload_n hx hb dL_law_824 rfl (lv_at hl 0 rfl) ?_
  refine lv_iload_n hx hb dL_law_825 rfl (lv_at hl 3 rfl) ?_
  refine lv_iconst (v := 1) hx hb dL_law_826 (by decide) ?_
  refine lv_iadd hx hb dL_law_827 ?_
  refine va_sld hx hb hX hbl hbA hS h1 dL_law_828 ?_
  refine ziW (zrVE (pre := []) (wc := ws) (C := RX5) (T := TX5) (N := 8) (b := xq) (As := [.int (xs (Int32.toNatClampNeg (nI i + 1)))]) (rest := []) ⟨hx, hb, hml, hown, ht⟩ (s1 _) (cwV 1 ht (gdV wb588 wb589 wb590 wb72 wb591) rfl rfl rfl (by decide +kernel) ⟨Nat.le_of_ble_eq_true rfl, Nat.le_of_ble_eq_true rfl⟩) hK hP hD hS hA hm i1 5 rfl s5 rfl hl.1 rfl (Nat.le_of_ble_eq_true rfl) dL_law_829 ⟨Nat.le_of_ble_eq_true rfl, Nat.le_of_ble_eq_true rfl⟩) hD hS hA s3 (fun H locs hP hD hS => ?_)
  refine lv_aload_n hx hb dL_law_832 rfl (lv_at hl 2 rfl) ?_
  refine lv_aload_n hx hb dL_law_833 rfl (lv_at hl 0 rfl) ?_
  refine lv_iload_n hx hb dL_law_834 rfl (lv_at hl 3 rfl) ?_
  refine lv_iconst (v := 1) hx hb dL_law_835 (by decide) ?_
  refine lv_iadd hx hb dL_law_836 ?_
  refine va_sld hx hb hX hbl hbA hS h1 dL_law_837 ?_
  refine ziW (zrVE (pre := []) (wc := w1) (C := RX6) (T := TX6) (N := 14) (b := oq) (As := [.int (xs (Int32.toNatClampNeg (nI i + 1)))]) (rest := [.int r]) ⟨hx, hb, hml, hown, ht⟩ (s2 _) (cwV 1 ht (gdV wb1050 wb1051 wb1052 wb80 wb1053) rfl rfl rfl (by decide +kernel) ⟨Nat.le_of_ble_eq_true rfl, Nat.le_of_ble_eq_true rfl⟩) hK hP hD hS hA hm i2 6 rfl s6 rfl hl.1 rfl (Nat.le_of_ble_eq_true rfl) dL_law_838 ⟨Nat.le_of_ble_eq_true rfl, Nat.le_of_ble_eq_true rfl⟩) hD hS hA s4 (fun H locs hP hD hS => ?_)
  exact lv_icmp_eq (tgt := 945) hx hb dL_law_841 (by decide) (fun _ => kk w2 H locs s7 hP hD hS) (fun c9 => absurd rfl c9)
theorem B_type (C0 : lw_At p s m meth c b L xs) (hK : va_K D vwCl (tyA k) s) (hm : amb k (fun q : Nat => s.heap.size ≤ q) s s.heap) (hL : L ≤ 3072) (hi : i + 6 ≤ L) (hI : INV k xq oq ws) (hP : va_P D vwCl ws H) (hD : va_D (fun q : Nat => s.heap.size ≤ q) ws) (hS : va_S (fun q : Nat => s.heap.size ≤ q) s.heap H locs) (hl : lv_has ls 4 [(0, .ref b), (1, .ref xq), (2, .ref oq), (3, .int (nI i))]) (kk : ∀ (ws' : va_W) (H' : Heap) (locs' : List Loc), INV k xq oq ws' → va_P D vwCl ws' H' → va_D (fun q : Nat => s.heap.size ≤ q) ws' → va_S (fun q : Nat => s.heap.size ≤ q) s.heap H' locs' → W p l e room_1 s m #[Value.ref b] below meth c H' locs' 97 5834 Q (F0 m 945 ls [])) : W p l e room_1 s m #[Value.ref b] below meth c H locs 97 5834 Q (F0 m 846 ls []) := by
  obtain ⟨hx, hb, hr, hml, hown, hts, hX, hbl, hlocks, hgv⟩ := C0
  have hown : s.vm.findClass "ZoneGuardLaw" = some m.cls := hown
  have ht := wbL hts
  have hA : ∀ q : Nat, s.heap.size ≤ q → (fun q : Nat => s.heap.size ≤ q) q := fun _ h => h
  have hbA : ¬ (fun q : Nat => s.heap.size ≤ q) b := Nat.not_le.mpr hbl
  have h1 : vp_in (nI i + 1) L := by
    rw [show nI i + 1 = nI (i + 1) from nI_add i 1]
    exact vp_in_nI (by omega) (by omega)
  obtain ⟨r, w1, w2, s1, s2, s3, s4, ⟨⟨i1, fs1, s5⟩, -⟩, ⟨-, i2, fs2, s6⟩, s7⟩ := S_type l D hI (xs (Int32.toNatClampNeg (nI i + 1)))
  refine lv_aload_n hx hb dL_law_846 rfl (lv_at hl 1 rfl) ?_
  refine lv_aload_n hx hb dL_law_847 rfl (lv_at hl 0 rfl) ?_
  refine lv_iload_n hx hb dL_law_848 rfl (lv_at hl 3 rfl) ?_
  refine lv_iconst (v := 1) hx hb dL_law_849 (by decide) ?_
  refine lv_iadd hx hb dL_law_850 ?_
  refine va_sld hx hb hX hbl hbA hS h1 dL_law_851 ?_
  refine ziW (zrVE (pre := []) (wc := ws) (C := RX5) (T := TX5) (N := 8) (b := xq) (As := [.int (xs (Int32.toNatClampNeg (nI i + 1)))]) (rest := []) ⟨hx, hb, hml, hown, ht⟩ (s1 _) (cwV 1 ht (gdV wb592 wb593 wb594 wb72 wb595) rfl rfl rfl (by decide +kernel) ⟨Nat.le_of_ble_eq_true rfl, Nat.le_of_ble_eq_true rfl⟩) hK hP hD hS hA hm i1 5 rfl s5 rfl hl.1 rfl (Nat.le_of_ble_eq_true rfl) dL_law_852 ⟨Nat.le_of_ble_eq_true rfl, Nat.le_of_ble_eq_true rfl⟩) hD hS hA s3 (fun H locs hP hD hS => ?_)
  refine lv_aload_n hx hb dL_law_855 rfl (lv_at hl 2 rfl) ?_
  refine lv_aload_n hx hb dL_law_856 rfl (lv_at hl 0 rfl) ?_
  refine lv_iload_n hx hb dL_law_857 rfl (lv_at hl 3 rfl) ?_
  refine lv_iconst (v := 1) hx hb dL_law_858 (by decide) ?_
  refine lv_iadd hx hb dL_law_859 ?_
  refine va_sld hx hb hX hbl hbA hS h1 dL_law_860 ?_
  refine ziW (zrVE (pre := []) (wc := w1) (C := RX6) (T := TX6) (N := 14) (b := oq) (As := [.int (xs (Int32.toNatClampNeg (nI i + 1)))]) (rest := [.int r]) ⟨hx, hb, hml, hown, ht⟩ (s2 _) (cwV 1 ht (gdV wb1058 wb1059 wb1060 wb80 wb1061) rfl rfl rfl (by decide +kernel) ⟨Nat.le_of_ble_eq_true rfl, Nat.le_of_ble_eq_true rfl⟩) hK hP hD hS hA hm i2 6 rfl s6 rfl hl.1 rfl (Nat.le_of_ble_eq_true rfl) dL_law_861 ⟨Nat.le_of_ble_eq_true rfl, Nat.le_of_ble_eq_true rfl⟩) hD hS hA s4 (fun H locs hP hD hS => ?_)
  exact lv_icmp_eq (tgt := 945) hx hb dL_law_864 (by decide) (fun _ => kk w2 H locs s7 hP hD hS) (fun c9 => absurd rfl c9)
theorem B_clear (C0 : lw_At p s m meth c b L xs) (hK : va_K D vwCl (tyA k) s) (hm : amb k (fun q : Nat => s.heap.size ≤ q) s s.heap) (hL : L ≤ 3072) (hi : i + 6 ≤ L) (hI : INV k xq oq ws) (hP : va_P D vwCl ws H) (hD : va_D (fun q : Nat => s.heap.size ≤ q) ws) (hS : va_S (fun q : Nat => s.heap.size ≤ q) s.heap H locs) (hl : lv_has ls 4 [(0, .ref b), (1, .ref xq), (2, .ref oq), (3, .int (nI i))]) (kk : ∀ (ws' : va_W) (H' : Heap) (locs' : List Loc), INV k xq oq ws' → va_P D vwCl ws' H' → va_D (fun q : Nat => s.heap.size ≤ q) ws' → va_S (fun q : Nat => s.heap.size ≤ q) s.heap H' locs' → W p l e room_1 s m #[Value.ref b] below meth c H' locs' 97 5834 Q (F0 m 945 ls [])) : W p l e room_1 s m #[Value.ref b] below meth c H locs 97 5834 Q (F0 m 869 ls []) := by
  obtain ⟨hx, hb, hr, hml, hown, hts, hX, hbl, hlocks, hgv⟩ := C0
  have hown : s.vm.findClass "ZoneGuardLaw" = some m.cls := hown
  have ht := wbL hts
  have hA : ∀ q : Nat, s.heap.size ≤ q → (fun q : Nat => s.heap.size ≤ q) q := fun _ h => h
  have hbA : ¬ (fun q : Nat => s.heap.size ≤ q) b := Nat.not_le.mpr hbl
  obtain ⟨r, w1, w2, s1, s2, s3, s4, ⟨⟨i1, fs1, s5⟩, -⟩, ⟨-, i2, fs2, s6⟩, s7⟩ := S_clear l D hI 
  refine lv_aload_n hx hb dL_law_869 rfl (lv_at hl 1 rfl) ?_
  refine ziW (zrVE (pre := []) (wc := ws) (C := RX5) (T := TX5) (N := 8) (b := xq) (As := []) (rest := []) ⟨hx, hb, hml, hown, ht⟩ (s1 _) (cwV 0 ht (gdV wb605 wb606 wb607 wb72 wb608) rfl rfl rfl (by decide +kernel) ⟨Nat.le_of_ble_eq_true rfl, Nat.le_of_ble_eq_true rfl⟩) hK hP hD hS hA hm i1 5 rfl s5 rfl hl.1 rfl (Nat.le_of_ble_eq_true rfl) dL_law_870 ⟨Nat.le_of_ble_eq_true rfl, Nat.le_of_ble_eq_true rfl⟩) hD hS hA s3 (fun H locs hP hD hS => ?_)
  refine lv_aload_n hx hb dL_law_873 rfl (lv_at hl 2 rfl) ?_
  refine ziW (zrVE (pre := []) (wc := w1) (C := RX6) (T := TX6) (N := 14) (b := oq) (As := []) (rest := [.int r]) ⟨hx, hb, hml, hown, ht⟩ (s2 _) (cwV 0 ht (gdV wb1062 wb1063 wb1064 wb80 wb1065) rfl rfl rfl (by decide +kernel) ⟨Nat.le_of_ble_eq_true rfl, Nat.le_of_ble_eq_true rfl⟩) hK hP hD hS hA hm i2 6 rfl s6 rfl hl.1 rfl (Nat.le_of_ble_eq_true rfl) dL_law_874 ⟨Nat.le_of_ble_eq_true rfl, Nat.le_of_ble_eq_true rfl⟩) hD hS hA s4 (fun H locs hP hD hS => ?_)
  exact lv_icmp_eq (tgt := 945) hx hb dL_law_877 (by decide) (fun _ => kk w2 H locs s7 hP hD hS) (fun c9 => absurd rfl c9)
theorem B_reads (C0 : lw_At p s m meth c b L xs) (hK : va_K D vwCl (tyA k) s) (hm : amb k (fun q : Nat => s.heap.size ≤ q) s s.heap) (hL : L ≤ 3072) (hi : i + 6 ≤ L) (hI : INV k xq oq ws) (hP : va_P D vwCl ws H) (hD : va_D (fun q : Nat => s.heap.size ≤ q) ws) (hS : va_S (fun q : Nat => s.heap.size ≤ q) s.heap H locs) (hl : lv_has ls 4 [(0, .ref b), (1, .ref xq), (2, .ref oq), (3, .int (nI i))]) (kk : ∀ (ws' : va_W) (H' : Heap) (locs' : List Loc), INV k xq oq ws' → va_P D vwCl ws' H' → va_D (fun q : Nat => s.heap.size ≤ q) ws' → va_S (fun q : Nat => s.heap.size ≤ q) s.heap H' locs' → W p l e room_1 s m #[Value.ref b] below meth c H' locs' 97 5834 Q (F0 m 945 ls [])) : W p l e room_1 s m #[Value.ref b] below meth c H locs 97 5834 Q (F0 m 882 ls []) := by
  obtain ⟨hx, hb, hr, hml, hown, hts, hX, hbl, hlocks, hgv⟩ := C0
  have hown : s.vm.findClass "ZoneGuardLaw" = some m.cls := hown
  have ht := wbL hts
  have hA : ∀ q : Nat, s.heap.size ≤ q → (fun q : Nat => s.heap.size ≤ q) q := fun _ h => h
  have hbA : ¬ (fun q : Nat => s.heap.size ≤ q) b := Nat.not_le.mpr hbl
  obtain ⟨r, w1, w2, s1, s2, s3, s4, ⟨⟨i1, fs1, s5⟩, -⟩, ⟨-, i2, fs2, s6⟩, s7⟩ := S_reads l D hI 
  refine lv_aload_n hx hb dL_law_882 rfl (lv_at hl 1 rfl) ?_
  refine ziW (zrVE (pre := []) (wc := ws) (C := RX5) (T := TX5) (N := 8) (b := xq) (As := []) (rest := []) ⟨hx, hb, hml, hown, ht⟩ (s1 _) (cwV 0 ht (gdV wb613 wb614 wb615 wb72 wb616) rfl rfl rfl (by decide +kernel) ⟨Nat.le_of_ble_eq_true rfl, Nat.le_of_ble_eq_true rfl⟩) hK hP hD hS hA hm i1 5 rfl s5 rfl hl.1 rfl (Nat.le_of_ble_eq_true rfl) dL_law_883 ⟨Nat.le_of_ble_eq_true rfl, Nat.le_of_ble_eq_true rfl⟩) hD hS hA s3 (fun H locs hP hD hS => ?_)
  refine lv_aload_n hx hb dL_law_886 rfl (lv_at hl 2 rfl) ?_
  refine ziW (zrVE (pre := []) (wc := w1) (C := RX6) (T := TX6) (N := 14) (b := oq) (As := []) (rest := [.int r]) ⟨hx, hb, hml, hown, ht⟩ (s2 _) (cwV 0 ht (gdV wb1066 wb1067 wb1068 wb80 wb1069) rfl rfl rfl (by decide +kernel) ⟨Nat.le_of_ble_eq_true rfl, Nat.le_of_ble_eq_true rfl⟩) hK hP hD hS hA hm i2 6 rfl s6 rfl hl.1 rfl (Nat.le_of_ble_eq_true rfl) dL_law_887 ⟨Nat.le_of_ble_eq_true rfl, Nat.le_of_ble_eq_true rfl⟩) hD hS hA s4 (fun H locs hP hD hS => ?_)
  exact lv_icmp_eq (tgt := 945) hx hb dL_law_890 (by decide) (fun _ => kk w2 H locs s7 hP hD hS) (fun c9 => absurd rfl c9)
theorem B_back (C0 : lw_At p s m meth c b L xs) (hK : va_K D vwCl (tyA k) s) (hm : amb k (fun q : Nat => s.heap.size ≤ q) s s.heap) (hL : L ≤ 3072) (hi : i + 6 ≤ L) (hI : INV k xq oq ws) (hP : va_P D vwCl ws H) (hD : va_D (fun q : Nat => s.heap.size ≤ q) ws) (hS : va_S (fun q : Nat => s.heap.size ≤ q) s.heap H locs) (hl : lv_has ls 4 [(0, .ref b), (1, .ref xq), (2, .ref oq), (3, .int (nI i))]) (kk : ∀ (ws' : va_W) (H' : Heap) (locs' : List Loc), INV k xq oq ws' → va_P D vwCl ws' H' → va_D (fun q : Nat => s.heap.size ≤ q) ws' → va_S (fun q : Nat => s.heap.size ≤ q) s.heap H' locs' → W p l e room_1 s m #[Value.ref b] below meth c H' locs' 97 5834 Q (F0 m 945 ls [])) : W p l e room_1 s m #[Value.ref b] below meth c H locs 97 5834 Q (F0 m 895 ls []) := by
  obtain ⟨hx, hb, hr, hml, hown, hts, hX, hbl, hlocks, hgv⟩ := C0
  have hown : s.vm.findClass "ZoneGuardLaw" = some m.cls := hown
  have ht := wbL hts
  have hA : ∀ q : Nat, s.heap.size ≤ q → (fun q : Nat => s.heap.size ≤ q) q := fun _ h => h
  have hbA : ¬ (fun q : Nat => s.heap.size ≤ q) b := Nat.not_le.mpr hbl
  obtain ⟨r, w1, w2, s1, s2, s3, s4, ⟨⟨i1, fs1, s5⟩, -⟩, ⟨-, i2, fs2, s6⟩, s7⟩ := S_back l D hI 
  refine lv_aload_n hx hb dL_law_895 rfl (lv_at hl 1 rfl) ?_
  refine ziW (zrVE (pre := []) (wc := ws) (C := RX5) (T := TX5) (N := 8) (b := xq) (As := []) (rest := []) ⟨hx, hb, hml, hown, ht⟩ (s1 _) (cwV 0 ht (gdV wb730 wb731 wb732 wb72 wb733) rfl rfl rfl (by decide +kernel) ⟨Nat.le_of_ble_eq_true rfl, Nat.le_of_ble_eq_true rfl⟩) hK hP hD hS hA hm i1 5 rfl s5 rfl hl.1 rfl (Nat.le_of_ble_eq_true rfl) dL_law_896 ⟨Nat.le_of_ble_eq_true rfl, Nat.le_of_ble_eq_true rfl⟩) hD hS hA s3 (fun H locs hP hD hS => ?_)
  refine lv_aload_n hx hb dL_law_899 rfl (lv_at hl 2 rfl) ?_
  refine ziW (zrVE (pre := []) (wc := w1) (C := RX6) (T := TX6) (N := 14) (b := oq) (As := []) (rest := [.int r]) ⟨hx, hb, hml, hown, ht⟩ (s2 _) (cwV 0 ht (gdV wb808 wb809 wb810 wb80 wb811) rfl rfl rfl (by decide +kernel) ⟨Nat.le_of_ble_eq_true rfl, Nat.le_of_ble_eq_true rfl⟩) hK hP hD hS hA hm i2 6 rfl s6 rfl hl.1 rfl (Nat.le_of_ble_eq_true rfl) dL_law_900 ⟨Nat.le_of_ble_eq_true rfl, Nat.le_of_ble_eq_true rfl⟩) hD hS hA s4 (fun H locs hP hD hS => ?_)
  exact lv_icmp_eq (tgt := 945) hx hb dL_law_903 (by decide) (fun _ => kk w2 H locs s7 hP hD hS) (fun c9 => absurd rfl c9)
theorem B_told (C0 : lw_At p s m meth c b L xs) (hK : va_K D vwCl (tyA k) s) (hm : amb k (fun q : Nat => s.heap.size ≤ q) s s.heap) (hL : L ≤ 3072) (hi : i + 6 ≤ L) (hI : INV k xq oq ws) (hP : va_P D vwCl ws H) (hD : va_D (fun q : Nat => s.heap.size ≤ q) ws) (hS : va_S (fun q : Nat => s.heap.size ≤ q) s.heap H locs) (hl : lv_has ls 4 [(0, .ref b), (1, .ref xq), (2, .ref oq), (3, .int (nI i))]) (kk : ∀ (ws' : va_W) (H' : Heap) (locs' : List Loc), INV k xq oq ws' → va_P D vwCl ws' H' → va_D (fun q : Nat => s.heap.size ≤ q) ws' → va_S (fun q : Nat => s.heap.size ≤ q) s.heap H' locs' → W p l e room_1 s m #[Value.ref b] below meth c H' locs' 97 5834 Q (F0 m 945 ls [])) : W p l e room_1 s m #[Value.ref b] below meth c H locs 97 5834 Q (F0 m 908 ls []) := by
  obtain ⟨hx, hb, hr, hml, hown, hts, hX, hbl, hlocks, hgv⟩ := C0
  have hown : s.vm.findClass "ZoneGuardLaw" = some m.cls := hown
  have ht := wbL hts
  have hA : ∀ q : Nat, s.heap.size ≤ q → (fun q : Nat => s.heap.size ≤ q) q := fun _ h => h
  have hbA : ¬ (fun q : Nat => s.heap.size ≤ q) b := Nat.not_le.mpr hbl
  have h1 : vp_in (nI i + 1) L := by
    rw [show nI i + 1 = nI (i + 1) from nI_add i 1]
    exact vp_in_nI (by omega) (by omega)
  obtain ⟨r, w1, w2, s1, s2, s3, s4, ⟨⟨i1, fs1, s5⟩, -⟩, ⟨-, i2, fs2, s6⟩, s7⟩ := S_told l D hI (xs (Int32.toNatClampNeg (nI i + 1)))
  refine lv_aload_n hx hb dL_law_908 rfl (lv_at hl 1 rfl) ?_
  refine lv_aload_n hx hb dL_law_909 rfl (lv_at hl 0 rfl) ?_
  refine lv_iload_n hx hb dL_law_910 rfl (lv_at hl 3 rfl) ?_
  refine lv_iconst (v := 1) hx hb dL_law_911 (by decide) ?_
  refine lv_iadd hx hb dL_law_912 ?_
  refine va_sld hx hb hX hbl hbA hS h1 dL_law_913 ?_
  refine ziW (zrVE (pre := []) (wc := ws) (C := RX5) (T := TX5) (N := 8) (b := xq) (As := [.int (xs (Int32.toNatClampNeg (nI i + 1)))]) (rest := []) ⟨hx, hb, hml, hown, ht⟩ (s1 _) (cwV 1 ht (gdV wb742 wb743 wb744 wb72 wb745) rfl rfl rfl (by decide +kernel) ⟨Nat.le_of_ble_eq_true rfl, Nat.le_of_ble_eq_true rfl⟩) hK hP hD hS hA hm i1 5 rfl s5 rfl hl.1 rfl (Nat.le_of_ble_eq_true rfl) dL_law_914 ⟨Nat.le_of_ble_eq_true rfl, Nat.le_of_ble_eq_true rfl⟩) hD hS hA s3 (fun H locs hP hD hS => ?_)
  refine lv_aload_n hx hb dL_law_917 rfl (lv_at hl 2 rfl) ?_
  refine lv_aload_n hx hb dL_law_918 rfl (lv_at hl 0 rfl) ?_
  refine lv_iload_n hx hb dL_law_919 rfl (lv_at hl 3 rfl) ?_
  refine lv_iconst (v := 1) hx hb dL_law_920 (by decide) ?_
  refine lv_iadd hx hb dL_law_921 ?_
  refine va_sld hx hb hX hbl hbA hS h1 dL_law_922 ?_
  refine ziW (zrVE (pre := []) (wc := w1) (C := RX6) (T := TX6) (N := 14) (b := oq) (As := [.int (xs (Int32.toNatClampNeg (nI i + 1)))]) (rest := [.int r]) ⟨hx, hb, hml, hown, ht⟩ (s2 _) (cwV 1 ht (gdV wb1122 wb1123 wb1124 wb80 wb1125) rfl rfl rfl (by decide +kernel) ⟨Nat.le_of_ble_eq_true rfl, Nat.le_of_ble_eq_true rfl⟩) hK hP hD hS hA hm i2 6 rfl s6 rfl hl.1 rfl (Nat.le_of_ble_eq_true rfl) dL_law_923 ⟨Nat.le_of_ble_eq_true rfl, Nat.le_of_ble_eq_true rfl⟩) hD hS hA s4 (fun H locs hP hD hS => ?_)
  exact lv_icmp_eq (tgt := 945) hx hb dL_law_926 (by decide) (fun _ => kk w2 H locs s7 hP hD hS) (fun c9 => absurd rfl c9)
theorem B_digest (C0 : lw_At p s m meth c b L xs) (hK : va_K D vwCl (tyA k) s) (hm : amb k (fun q : Nat => s.heap.size ≤ q) s s.heap) (hL : L ≤ 3072) (hi : i + 6 ≤ L) (hI : INV k xq oq ws) (hP : va_P D vwCl ws H) (hD : va_D (fun q : Nat => s.heap.size ≤ q) ws) (hS : va_S (fun q : Nat => s.heap.size ≤ q) s.heap H locs) (hl : lv_has ls 4 [(0, .ref b), (1, .ref xq), (2, .ref oq), (3, .int (nI i))]) (kk : ∀ (ws' : va_W) (H' : Heap) (locs' : List Loc), INV k xq oq ws' → va_P D vwCl ws' H' → va_D (fun q : Nat => s.heap.size ≤ q) ws' → va_S (fun q : Nat => s.heap.size ≤ q) s.heap H' locs' → W p l e room_1 s m #[Value.ref b] below meth c H' locs' 97 5834 Q (F0 m 945 ls [])) : W p l e room_1 s m #[Value.ref b] below meth c H locs 97 5834 Q (F0 m 931 ls []) := by
  obtain ⟨hx, hb, hr, hml, hown, hts, hX, hbl, hlocks, hgv⟩ := C0
  have hown : s.vm.findClass "ZoneGuardLaw" = some m.cls := hown
  have ht := wbL hts
  have hA : ∀ q : Nat, s.heap.size ≤ q → (fun q : Nat => s.heap.size ≤ q) q := fun _ h => h
  have hbA : ¬ (fun q : Nat => s.heap.size ≤ q) b := Nat.not_le.mpr hbl
  obtain ⟨r, w1, w2, s1, s2, s3, s4, ⟨⟨i1, fs1, s5⟩, -⟩, ⟨-, i2, fs2, s6⟩, s7⟩ := S_digest l D hI 
  refine lv_aload_n hx hb dL_law_931 rfl (lv_at hl 1 rfl) ?_
  refine zlW (zrVE (pre := []) (wc := ws) (C := RX5) (T := TX5) (N := 8) (b := xq) (As := []) (rest := []) ⟨hx, hb, hml, hown, ht⟩ (s1 _) (cwV 0 ht (gdV wb746 wb747 wb748 wb72 wb749) rfl rfl rfl (by decide +kernel) ⟨Nat.le_of_ble_eq_true rfl, Nat.le_of_ble_eq_true rfl⟩) hK hP hD hS hA hm i1 5 rfl s5 rfl hl.1 rfl (Nat.le_of_ble_eq_true rfl) dL_law_932 ⟨Nat.le_of_ble_eq_true rfl, Nat.le_of_ble_eq_true rfl⟩) hD hS hA s3 (fun H locs hP hD hS => ?_)
  refine lv_aload_n hx hb dL_law_935 rfl (lv_at hl 2 rfl) ?_
  refine zlW (zrVE (pre := []) (wc := w1) (C := RX6) (T := TX6) (N := 14) (b := oq) (As := []) (rest := [.long r]) ⟨hx, hb, hml, hown, ht⟩ (s2 _) (cwV 0 ht (gdV wb1130 wb1131 wb1132 wb80 wb1133) rfl rfl rfl (by decide +kernel) ⟨Nat.le_of_ble_eq_true rfl, Nat.le_of_ble_eq_true rfl⟩) hK hP hD hS hA hm i2 6 rfl s6 rfl hl.1 rfl (Nat.le_of_ble_eq_true rfl) dL_law_936 ⟨Nat.le_of_ble_eq_true rfl, Nat.le_of_ble_eq_true rfl⟩) hD hS hA s4 (fun H locs hP hD hS => ?_)
  refine W.lcmp hx hb dL_law_939 ?_
  exact lv_if_eq (tgt := 945) hx hb dL_law_940 (by decide) (fun _ => kk w2 H locs s7 hP hD hS) (fun c9 => absurd ((lg_cmp_eq r r).mpr rfl) c9)
end BR
