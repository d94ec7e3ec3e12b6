/-! the ambient of every contract: the nest's links, static tables that nobody writes, String constants -/
def zNs : List Cond := [.fieldLinkNest "ZoneGuard$State" 39 "ZoneGuard" "FIRST_SPANS" "[I" "ZoneGuard", .fieldLinkNest "ZoneGuard" 52 "ZoneGuard$State" "zones" "[I" "ZoneGuard", .fieldLinkNest "ZoneGuard" 56 "ZoneGuard$State" "rules" "LZoneGuard$Table;" "ZoneGuard", .fieldLinkNest "ZoneGuard" 97 "ZoneGuard$State" "kept" "LZoneGuard$Table;" "ZoneGuard", .fieldLinkNest "ZoneGuard" 151 "ZoneGuard$State" "flows" "LZoneGuard$Table;" "ZoneGuard", .fieldLinkNest "ZoneGuard" 154 "ZoneGuard$State" "announcements" "LZoneGuard$Table;" "ZoneGuard", .fieldLinkNest "ZoneGuard" 169 "ZoneGuard$State" "spans" "[I" "ZoneGuard", .fieldLinkNest "ZoneGuard" 175 "ZoneGuard$State" "tallies" "[I" "ZoneGuard", .fieldLinkNest "ZoneGuard" 161 "ZoneGuard$State" "time" "I" "ZoneGuard", .fieldLinkNest "ZoneGuard" 190 "ZoneGuard$Text" "found" "LZoneGuard$Table;" "ZoneGuard", .methodLinkNest "ZoneGuard" 25 yX4_init "ZoneGuard", .methodLinkNest "ZoneGuard" 32 yX1_init "ZoneGuard", .methodLinkNest "ZoneGuard$History" 39 yX5_within "ZoneGuard", .methodLinkNest "ZoneGuard$State" 80 yX5_within "ZoneGuard", .methodLinkNest "ZoneGuard$State" 64 yX5_fitsEnd "ZoneGuard", .methodLinkNest "ZoneGuard$State" 68 yX5_fitsService "ZoneGuard", .methodLinkNest "ZoneGuard$Picture" 66 yX5_fitsEnd "ZoneGuard", .methodLinkNest "ZoneGuard$Picture" 70 yX5_fitsService "ZoneGuard", .methodLinkNest "ZoneGuard$Picture" 53 yX5_within "ZoneGuard", .methodLinkNest "ZoneGuard$Text" 28 yX5_within "ZoneGuard", .methodLinkNest "ZoneGuard$Text" 54 yX5_insertAnyRule "ZoneGuard", .methodLinkNest "ZoneGuard$Text" 82 yX5_greatestNumber "ZoneGuard"]
def zNS (U : State) : Prop := ∀ w ∈ zNs, va_Nw w U
theorem zNs_cases {P : Cond → Prop} (hF : ∀ a i b n d h, P (.fieldLinkNest a i b n d h)) (hM : ∀ a i x h, P (.methodLinkNest a i x h)) : ∀ w ∈ zNs, P w := by
  intro w hw
  unfold zNs at hw
  repeat (first | (rcases List.mem_cons.mp hw with rfl | hw; first | exact hF _ _ _ _ _ _ | exact hM _ _ _ _) | exact absurd hw List.not_mem_nil)
theorem zNS.warm {s U : State} (hW : s.WarmedH U.vm) (h : zNS s) : zNS U := fun w hw => zNs_cases (P := fun w => va_Nw w s → va_Nw w U) (fun _ _ _ _ _ _ h => va_Nw.warmF hW h) (fun _ _ _ _ h => va_Nw.warmM hW h) w hw (h w hw)
theorem zNS.same {u U : State} (hv : u.vm = U.vm) (h : zNS u) : zNS U := fun w hw => zNs_cases (P := fun w => va_Nw w u → va_Nw w U) (fun _ _ _ _ _ _ h => va_Nw.same rfl hv h) (fun _ _ _ _ h => va_Nw.same rfl hv h) w hw (h w hw)
def sAny (j : Nat) : Int32 := ([6, 6, 0, 31, 0, 31, 0, 15, 2, 0, 0] : List Int32).getD j 0
def sGre (j : Nat) : Int32 := ([6, 6, 31, 31, 31, 31, 15, 15, 2, 2] : List Int32).getD j 0
def sSpa (j : Nat) : Int32 := ([5, 5, 40, 10, 3, 8, 20] : List Int32).getD j 0
def zSi (i : Nat) : Nat := ([111, 113, 115, 117, 119, 121, 123, 125, 127, 129] : List Nat).getD i 0
def zSt (i : Nat) : String := (["deny", "allow", "reject", "from", "to", "src", "dst", "port", "stream", "single"] : List String).getD i ""
def zSl : List Nat := [4, 5, 6, 4, 2, 3, 3, 4, 6, 6]
def zSb : List (List Int32) := [[100, 101, 110, 121], [97, 108, 108, 111, 119], [114, 101, 106, 101, 99, 116], [102, 114, 111, 109], [116, 111], [115, 114, 99], [100, 115, 116], [112, 111, 114, 116], [115, 116, 114, 101, 97, 109], [115, 105, 110, 103, 108, 101]]
def zSF : String := "Ljava/util/function/BiFunction;"
/-- k 0: int rows; k 1: rows of states; k 2, k 3, k 4: the static tables; k 10 ..: the String constants; k 20 ..: their bytes -/
def amb (k : Nat → Nat) (A : Nat → Prop) (U : State) (H : Heap) : Prop :=
  zNS U ∧ (va_Z "ZoneGuard" "ANY_RULE" "[I" (.ref (k 2)) A U H ∧ va_T .int (k 2) 11 (fun j => .int (sAny j)) A U H) ∧ (va_Z "ZoneGuard" "GREATEST_NUMBER" "[I" (.ref (k 3)) A U H ∧ va_T .int (k 3) 10 (fun j => .int (sGre j)) A U H) ∧ (va_Z "ZoneGuard" "FIRST_SPANS" "[I" (.ref (k 4)) A U H ∧ va_T .int (k 4) 7 (fun j => .int (sSpa j)) A U H) ∧ va_Z "java/lang/String" "COMPACT_STRINGS" "Z" (.int 1) A U H ∧ va_Zq "jdk/internal/util/Preconditions" "SIOOBE_FORMATTER" zSF A U H ∧ (∀ i, i < 10 → vk_R "ZoneGuard$Text" (zSi i) (zSt i) (k (10 + i)) U) ∧ vk_S 10 zSl zSb (fun i => k (10 + i)) (fun i => k (20 + i)) A U H ∧ va_AO "ZoneGuard$State" U
theorem amb.warm {k : Nat → Nat} {A : Nat → Prop} {s U : State} {H : Heap} (hW : s.WarmedH U.vm) (h : amb k A s H) : amb k A U H := by
  obtain ⟨h1, ⟨a1, a2⟩, ⟨b1, b2⟩, ⟨c1, c2⟩, h5, h6, h7, h8, h9⟩ := h
  exact ⟨h1.warm hW, ⟨a1.moved hW.alike, a2.moved hW.alike⟩, ⟨b1.moved hW.alike, b2.moved hW.alike⟩, ⟨c1.moved hW.alike, c2.moved hW.alike⟩, h5.moved hW.alike, h6.moved hW.alike, fun i hi => (h7 i hi).warm hW, h8.moved hW.alike, h9.moved hW.alike⟩
theorem amb.same {k : Nat → Nat} {A : Nat → Prop} {s U : State} {H : Heap} (hv : s.vm = U.vm) (h : amb k A s H) : amb k A U H := by
  obtain ⟨h1, ⟨a1, a2⟩, ⟨b1, b2⟩, ⟨c1, c2⟩, h5, h6, h7, h8, h9⟩ := h
  have hq : s.vm.Alike U.vm := by rw [hv]; exact Vm.Alike.refl _
  exact ⟨h1.same hv, ⟨a1.moved hq, a2.moved hq⟩, ⟨b1.moved hq, b2.moved hq⟩, ⟨c1.moved hq, c2.moved hq⟩, h5.moved hq, h6.moved hq, fun i hi => (h7 i hi).same hv.symm, h8.moved hq, h9.moved hq⟩
theorem amb.kept {k : Nat → Nat} {A : Nat → Prop} {U : State} {H H1 : Heap} (h : amb k A U H) (hq : ∀ a : Nat, a < H.size → ¬ A a → H1[a]? = H[a]?) : amb k A U H1 := by
  obtain ⟨h1, ⟨a1, a2⟩, ⟨b1, b2⟩, ⟨c1, c2⟩, h5, h6, h7, h8, h9⟩ := h
  exact ⟨h1, ⟨a1.kept hq, a2.kept hq⟩, ⟨b1.kept hq, b2.kept hq⟩, ⟨c1.kept hq, c2.kept hq⟩, h5.kept hq, h6.kept hq, h7, h8.kept hq, h9⟩
theorem amb.narrow {k : Nat → Nat} {A B : Nat → Prop} {U : State} {H : Heap} (h : amb k A U H) (hAB : ∀ q, B q → A q) : amb k B U H := by
  obtain ⟨h1, ⟨a1, a2⟩, ⟨b1, b2⟩, ⟨c1, c2⟩, h5, h6, h7, h8, h9⟩ := h
  exact ⟨h1, ⟨a1.narrow hAB, a2.narrow hAB⟩, ⟨b1.narrow hAB, b2.narrow hAB⟩, ⟨c1.narrow hAB, c2.narrow hAB⟩, h5.narrow hAB, h6.narrow hAB, h7, h8.narrow hAB, h9⟩
def tyA (k : Nat → Nat) : List (ClassId × FieldType) := [(k 0, .int), (k 1, .object "ZoneGuard$State")]
/-- what holds where a method begins: its world, the tables, the ambient -/
def cP (D : va_G) (k : Nat → Nat) (ws : va_W) (sz : Nat) (U : State) : Prop := U.heap.size = sz ∧ va_P D vwCl ws U.heap ∧ va_K D vwCl (tyA k) U ∧ va_D (fun _ => True) ws ∧ amb k (va_A ws sz) U U.heap
theorem cP.blind {D : va_G} {k : Nat → Nat} {ws : va_W} {sz : Nat} {av : List Value} : FrameBlind (va_Pc av (cP D k ws sz)) := by
  intro a U g mk q
  obtain ⟨q0, q1, qP, qK, qD, qm⟩ := q
  exact ⟨q0, q1, qP, va_K.moved (u := U) (U := U.calling g mk a) (Vm.Alike.refl U.vm) qK, qD, amb.same (s := U) (U := U.calling g mk a) rfl qm⟩
/-- contracts of methods that make no cells: their answer and their world behind them -/
def Ci (l : Launch) (y : MethodName) (wy : List Cond) (rm : Room) (D : va_G) (k : Nat → Nat) (av : List Value) (ws ws' : va_W) (r : Int32) : Prop := ∀ sz : Nat, Met l y wy rm (va_Pc av (cP D k ws sz)) (va_Qi (fun x (_ : Unit) => x = r) (fun _ t => va_P D vwCl ws' t.heap) (va_A ws sz)) 0 0 (va_A ws sz)
def Cl (l : Launch) (y : MethodName) (wy : List Cond) (rm : Room) (D : va_G) (k : Nat → Nat) (av : List Value) (ws ws' : va_W) (r : Int64) : Prop := ∀ sz : Nat, Met l y wy rm (va_Pc av (cP D k ws sz)) (va_Ql (fun x (_ : Unit) => x = r) (fun _ t => va_P D vwCl ws' t.heap) (va_A ws sz)) 0 0 (va_A ws sz)
def Cv (l : Launch) (y : MethodName) (wy : List Cond) (rm : Room) (D : va_G) (k : Nat → Nat) (av : List Value) (ws ws' : va_W) : Prop := ∀ sz : Nat, Met l y wy rm (va_Pc av (cP D k ws sz)) (va_Qv (fun (_ : Unit) => True) (fun _ t => va_P D vwCl ws' t.heap) (va_A ws sz)) 0 0 (va_A ws sz)
def Cr (l : Launch) (y : MethodName) (wy : List Cond) (rm : Room) (D : va_G) (k : Nat → Nat) (av : List Value) (ws ws' : va_W) (r : Nat) : Prop := ∀ sz : Nat, Met l y wy rm (va_Pc av (cP D k ws sz)) (va_Qr (fun (_ : Unit) => True) (fun _ a t => a = r ∧ va_P D vwCl ws' t.heap) (va_A ws sz)) 0 0 (va_A ws sz)
/-- cells of a world replaced at their places -/
def zUp (ws : va_W) : List Nat → va_W → va_W
  | i :: is, c :: cs => zUp (ws.set i c) is cs
  | _, _ => ws
theorem zUp_get : ∀ (is : List Nat) (cs ws : va_W) (k : Nat) (q : Nat × va_E), is.length = cs.length → (zUp ws is cs)[k]? = some q → q ∈ cs ∨ (ws[k]? = some q ∧ k ∉ is)
  | [], [], ws, k, q, _, h => Or.inr ⟨h, List.not_mem_nil⟩
  | [], _ :: _, _, _, _, hl, _ => by simp at hl
  | _ :: _, [], _, _, _, hl, _ => by simp at hl
  | i :: is, c :: cs, ws, k, q, hl, h => by
    rcases zUp_get is cs (ws.set i c) k q (by simpa using hl) h with h1 | ⟨h1, h2⟩
    · exact Or.inl (List.mem_cons_of_mem _ h1)
    · by_cases hk : i = k
      · subst hk
        rw [List.getElem?_set_self'] at h1
        cases hw : ws[i]? with
        | none => rw [hw] at h1; simp at h1
        | some x => rw [hw] at h1; simp at h1; exact Or.inl (by rw [← h1]; exact List.mem_cons_self)
      · rw [List.getElem?_set_ne hk] at h1
        exact Or.inr ⟨h1, fun hm => (List.mem_cons.mp hm).elim (fun e => hk e.symm) h2⟩
theorem zUp_old : ∀ (is : List Nat) (cs ws : va_W), is.length = cs.length → (∀ (n i : Nat) (c : Nat × va_E), is[n]? = some i → cs[n]? = some c → ∃ q0, ws[i]? = some q0 ∧ q0.1 = c.1) → ∀ (k : Nat) (q : Nat × va_E), (zUp ws is cs)[k]? = some q → ∃ q0, ws[k]? = some q0 ∧ q0.1 = q.1
  | [], [], ws, _, _, k, q, h => ⟨q, h, rfl⟩
  | [], _ :: _, _, hl, _, _, _, _ => by simp at hl
  | _ :: _, [], _, hl, _, _, _, _ => by simp at hl
  | i :: is, c :: cs, ws, hl, hw, k, q, h => by
    obtain ⟨p0, hp0, hp1⟩ := hw 0 i c rfl rfl
    have key : ∀ (j : Nat) (q1 : Nat × va_E), (ws.set i c)[j]? = some q1 → ∃ q0, ws[j]? = some q0 ∧ q0.1 = q1.1 := by
      intro j q1 hj
      by_cases hji : i = j
      · subst hji
        rw [List.getElem?_set_self'] at hj
        rw [hp0] at hj
        simp at hj
        exact ⟨p0, hp0, by rw [hp1, hj]⟩
      · rw [List.getElem?_set_ne hji] at hj
        exact ⟨q1, hj, rfl⟩
    have key2 : ∀ (j : Nat) (q1 : Nat × va_E), ws[j]? = some q1 → ∃ q0, (ws.set i c)[j]? = some q0 ∧ q0.1 = q1.1 := by
      intro j q1 hj
      by_cases hji : i = j
      · subst hji
        rw [hp0] at hj
        cases hj
        exact ⟨c, by rw [List.getElem?_set_self', hp0]; rfl, hp1.symm⟩
      · exact ⟨q1, by rw [List.getElem?_set_ne hji]; exact hj, rfl⟩
    obtain ⟨q0, h1, h2⟩ := zUp_old is cs (ws.set i c) (by simpa using hl) (fun n i' c' h1 h2 => by
      obtain ⟨q2, h3, h4⟩ := hw (n + 1) i' c' (by simpa using h1) (by simpa using h2)
      obtain ⟨q3, h5, h6⟩ := key2 i' q2 h3
      exact ⟨q3, h5, h6.trans h4⟩) k q h
    obtain ⟨q4, h7, h8⟩ := key k q0 h1
    exact ⟨q4, h7, h8.trans h2⟩
theorem zD_of {A : Nat → Prop} {ws ws' : va_W} (hD : va_D A ws) (h : ∀ (k : Nat) (q : Nat × va_E), ws'[k]? = some q → ∃ q0, ws[k]? = some q0 ∧ q0.1 = q.1) : va_D A ws' := by
  refine ⟨fun i j x y hi hj hxy => ?_, fun k q hk => ?_⟩
  · obtain ⟨x0, a1, a2⟩ := h i x hi
    obtain ⟨y0, b1, b2⟩ := h j y hj
    exact hD.1 i j x0 y0 a1 b1 (a2.trans (hxy.trans b2.symm))
  · obtain ⟨q0, a1, a2⟩ := h k q hk
    rw [← a2]
    exact hD.2 k q0 a1
theorem zMapAt {ws wc : va_W} {is : List Nat} (hs : is.map (fun i => ws[i]?) = wc.map some) {k : Nat} {q : Nat × va_E} (hq : wc[k]? = some q) : ∃ i, is[k]? = some i ∧ ws[i]? = some q := by
  have h1 : (is.map (fun i => ws[i]?))[k]? = some (some q) := by rw [hs, List.getElem?_map, hq]; rfl
  rw [List.getElem?_map] at h1
  cases hi : is[k]? with
  | none => rw [hi] at h1; cases h1
  | some i => rw [hi] at h1; exact ⟨i, rfl, Option.some.inj h1⟩
theorem zFstAt {w w' : va_W} (h : w'.map Prod.fst = w.map Prod.fst) {k : Nat} {q : Nat × va_E} (hq : w'[k]? = some q) : ∃ q0, w[k]? = some q0 ∧ q0.1 = q.1 := by
  have h1 : (w'.map Prod.fst)[k]? = some q.1 := by rw [List.getElem?_map, hq]; rfl
  rw [h, List.getElem?_map] at h1
  cases hi : w[k]? with
  | none => rw [hi] at h1; cases h1
  | some i => rw [hi] at h1; exact ⟨i, rfl, Option.some.inj h1⟩
/-- behind a call that makes no cells: the callee's cells as it leaves them, at their places; the rest as it was -/
theorem zJoin {A0 : Nat → Prop} {D : va_G} {cl : List vw_C} {ws wc wc' : va_W} {H H1 : Heap} (hP : va_P D cl ws H) (hD : va_D A0 ws) (isC : List Nat) (hC : isC.map (fun i => ws[i]?) = wc.map some) (hf : wc'.map Prod.fst = wc.map Prod.fst)
    (hk : ∀ q : Nat, q < H.size → ¬ va_A wc H.size q → H1[q]? = H[q]?) (hP1 : va_P D cl wc' H1) : va_P D cl (zUp ws isC wc') H1 ∧ va_D A0 (zUp ws isC wc') := by
  have hl1 : isC.length = wc.length := by have := congrArg List.length hC; simpa using this
  have hl2 : wc'.length = wc.length := by have := congrArg List.length hf; simpa using this
  have hl : isC.length = wc'.length := hl1.trans hl2.symm
  refine ⟨fun k q hq => ?_, zD_of hD (zUp_old isC wc' ws hl (fun n i c h1 h2 => ?_))⟩
  · rcases zUp_get isC wc' ws k q hl hq with h | ⟨h, hn⟩
    · obtain ⟨i, hi⟩ := List.getElem?_of_mem h
      exact hP1 i q hi
    · refine (hP k q h).kept (hk q.1 (hP k q h).lt (fun hA => ?_))
      rcases hA with ⟨k2, e, h2⟩ | h2
      · obtain ⟨j, h3, h4⟩ := zMapAt hC h2
        have hkj := hD.1 k j q (q.1, e) h h4 rfl
        subst hkj
        exact hn (List.mem_of_getElem? h3)
      · exact absurd (hP k q h).lt (by omega)
  · obtain ⟨q0, a1, a2⟩ := zFstAt hf h2
    obtain ⟨j, b1, b2⟩ := zMapAt hC a1
    rw [h1] at b1
    cases b1
    exact ⟨q0, b2, a2⟩
theorem zPc {D : va_G} {cl : List vw_C} {ws wc : va_W} {H : Heap} (hP : va_P D cl ws H) {isC : List Nat} (hC : isC.map (fun i => ws[i]?) = wc.map some) : va_P D cl wc H := fun k q hq => by
  obtain ⟨i, -, h⟩ := zMapAt hC hq
  exact hP i q h
/-- a callee's start, out of the caller's world -/
theorem zPre {D : va_G} {k : Nat → Nat} {A : Nat → Prop} {ws wc : va_W} {s U : State} {H : Heap} {locs : List Loc} (hP : va_P D vwCl ws H) (hD : va_D A ws) (hK : va_K D vwCl (tyA k) s) (hS : va_S A s.heap H locs) (hA : ∀ q, s.heap.size ≤ q → A q) (hm : amb k A s s.heap) (isC : List Nat) (hn : va_nd isC = true) (hC : isC.map (fun i => ws[i]?) = wc.map some) (hU : U.heap = H) (hW : s.WarmedH U.vm) : cP D k wc H.size U := by
  have hF := va_free hD hS hA isC hC
  refine ⟨by rw [hU], by rw [hU]; exact zPc hP hC, va_K.moved hW.alike hK, (hD.sub isC hn hC).weaken (fun _ _ _ _ => trivial), ?_⟩
  rw [hU]
  exact ((hm.kept hS.2.1).narrow hF).warm hW
section ZC
variable {p : Program} {l : Launch} {e : Env} {R : Room} {s : State} {m : MethodId} {args : Array Value} {below : List Frame} {meth : Method} {c : Code} {H : Heap} {locs : List Loc} {cells slots : Nat} {Q : State → Prop}
variable {y : MethodName} {bytes cc : ByteArray} {maxL nL n index : Nat} {ret : Option FieldType} {wy Ts : List Cond} {rm : Room} {own C host : String} {b : Nat} {As rest st0 : List Value} {pc : Nat} {ls : Array Slot}
variable {D : va_G} {k : Nat → Nat} {A : Nat → Prop} {ws wc wc' : va_W}
/-- behind any such call, by its answer's kind -/
theorem zi {r : Int32} {a : Array Value} {H0 : Heap} (hr : va_Run p l e R s m args below meth c H locs cells slots 0 0 (F0 m pc ls st0) rest (va_Qi (fun x (_ : Unit) => x = r) (fun _ t => va_P D vwCl wc' t.heap) (va_A wc H.size) a) (va_A wc H.size)) (hP : va_P D vwCl ws H) (hD : va_D A ws) (hS : va_S A H0 H locs) (hA : ∀ q, H0.size ≤ q → A q) (isC : List Nat) (hC : isC.map (fun i => ws[i]?) = wc.map some) (hf : wc'.map Prod.fst = wc.map Prod.fst)
    (kk : ∀ (H1 : Heap) (locs1 : List Loc), va_P D vwCl (zUp ws isC wc') H1 → va_D A (zUp ws isC wc') → va_S A H0 H1 locs1 → W p l e R s m args below meth c H1 locs1 cells slots Q (F0 m (pc + 3) ls (.int r :: rest))) : W p l e R s m args below meth c H locs cells slots Q (F0 m pc ls st0) := by
  have hF := va_free hD hS hA isC hC
  refine va_calli hr hS (fun q _ h => hF q h) hF (fun x u t H1 locs1 ht hvm hx hB hz hk hS1 => ?_)
  rw [ht] at hB
  obtain ⟨g1, g2⟩ := zJoin hP hD isC hC hf hk hB
  subst hx
  exact kk H1 locs1 g1 g2 hS1
theorem zl {r : Int64} {a : Array Value} {H0 : Heap} (hr : va_Run p l e R s m args below meth c H locs cells slots 0 0 (F0 m pc ls st0) rest (va_Ql (fun x (_ : Unit) => x = r) (fun _ t => va_P D vwCl wc' t.heap) (va_A wc H.size) a) (va_A wc H.size)) (hP : va_P D vwCl ws H) (hD : va_D A ws) (hS : va_S A H0 H locs) (hA : ∀ q, H0.size ≤ q → A q) (isC : List Nat) (hC : isC.map (fun i => ws[i]?) = wc.map some) (hf : wc'.map Prod.fst = wc.map Prod.fst)
    (kk : ∀ (H1 : Heap) (locs1 : List Loc), va_P D vwCl (zUp ws isC wc') H1 → va_D A (zUp ws isC wc') → va_S A H0 H1 locs1 → W p l e R s m args below meth c H1 locs1 cells slots Q (F0 m (pc + 3) ls (.long r :: rest))) : W p l e R s m args below meth c H locs cells slots Q (F0 m pc ls st0) := by
  have hF := va_free hD hS hA isC hC
  refine va_calll hr hS (fun q _ h => hF q h) hF (fun x u t H1 locs1 ht hvm hx hB hz hk hS1 => ?_)
  rw [ht] at hB
  obtain ⟨g1, g2⟩ := zJoin hP hD isC hC hf hk hB
  subst hx
  exact kk H1 locs1 g1 g2 hS1
theorem zv {a : Array Value} {H0 : Heap} (hr : va_Run p l e R s m args below meth c H locs cells slots 0 0 (F0 m pc ls st0) rest (va_Qv (fun (_ : Unit) => True) (fun _ t => va_P D vwCl wc' t.heap) (va_A wc H.size) a) (va_A wc H.size)) (hP : va_P D vwCl ws H) (hD : va_D A ws) (hS : va_S A H0 H locs) (hA : ∀ q, H0.size ≤ q → A q) (isC : List Nat) (hC : isC.map (fun i => ws[i]?) = wc.map some) (hf : wc'.map Prod.fst = wc.map Prod.fst)
    (kk : ∀ (H1 : Heap) (locs1 : List Loc), va_P D vwCl (zUp ws isC wc') H1 → va_D A (zUp ws isC wc') → va_S A H0 H1 locs1 → W p l e R s m args below meth c H1 locs1 cells slots Q (F0 m (pc + 3) ls rest)) : W p l e R s m args below meth c H locs cells slots Q (F0 m pc ls st0) := by
  have hF := va_free hD hS hA isC hC
  refine va_callv hr hS (fun q _ h => hF q h) hF (fun u t H1 locs1 ht hvm hx hB hz hk hS1 => ?_)
  rw [ht] at hB
  obtain ⟨g1, g2⟩ := zJoin hP hD isC hC hf hk hB
  exact kk H1 locs1 g1 g2 hS1
theorem zr {r : Nat} {a : Array Value} {H0 : Heap} (hr : va_Run p l e R s m args below meth c H locs cells slots 0 0 (F0 m pc ls st0) rest (va_Qr (fun (_ : Unit) => True) (fun _ x t => x = r ∧ va_P D vwCl wc' t.heap) (va_A wc H.size) a) (va_A wc H.size)) (hP : va_P D vwCl ws H) (hD : va_D A ws) (hS : va_S A H0 H locs) (hA : ∀ q, H0.size ≤ q → A q) (isC : List Nat) (hC : isC.map (fun i => ws[i]?) = wc.map some) (hf : wc'.map Prod.fst = wc.map Prod.fst)
    (kk : ∀ (H1 : Heap) (locs1 : List Loc), va_P D vwCl (zUp ws isC wc') H1 → va_D A (zUp ws isC wc') → va_S A H0 H1 locs1 → W p l e R s m args below meth c H1 locs1 cells slots Q (F0 m (pc + 3) ls (.ref r :: rest))) : W p l e R s m args below meth c H locs cells slots Q (F0 m pc ls st0) := by
  have hF := va_free hD hS hA isC hC
  refine va_callr hr hS (fun q _ h => hF q h) hF (fun u ra t H1 locs1 ht hvm hx hB hz hk hS1 => ?_)
  obtain ⟨rfl, hB⟩ := hB
  rw [ht] at hB
  obtain ⟨g1, g2⟩ := zJoin hP hD isC hC hf hk hB
  exact kk H1 locs1 g1 g2 hS1
variable {Qc : Array Value → State → Outcome → State → Prop}
/-- the four kinds of calls, each to its run -/
theorem zrV (S : CallFix p m c cc nL s args Ts own) (hM : Met l y wy rm (va_Pc (.ref b :: As) (cP D k wc H.size)) Qc 0 0 (va_A wc H.size)) (cw : CallW R s args own C index y bytes maxL ret wy rm 0 0 n) (hK : va_K D vwCl (tyA k) s) (hP : va_P D vwCl ws H) (hD : va_D A ws) (hS : va_S A s.heap H locs) (hA : ∀ q, s.heap.size ≤ q → A q) (hm : amb k A s s.heap) (isC : List Nat) (hnd : va_nd isC = true) (hC : isC.map (fun i => ws[i]?) = wc.map some)
    (q0 ci : Nat) {T : u_T} {N : Nat} {fs : List Value} (hc : vwCl[ci]? = some (C, T, N)) (he : ws[q0]? = some (b, .inr (ci, fs))) (hn : As.length = n) (hsize : ls.size = nL) (hstack : st0 = As.reverse ++ .ref b :: rest) (hW : (rest.map fun v => v.category).sum ≤ 8) (hdg : decode cc pc = .ok (.invokevirtual index, 3)) (hcs : cells ≤ R.cells ∧ slots ≤ R.slots) :
    va_Run p l e R s m args below meth c H locs cells slots 0 0 (F0 m pc ls st0) rest (Qc (Value.ref b :: As).toArray) (va_A wc H.size) :=
  va_runV (As := As) (rest := rest) (g := F0 m pc ls st0) S hM cw ⟨cP.blind, va_recv hK hP hc he, fun U hU hWm => ⟨rfl, zPre hP hD hK hS hA hm isC hnd hC hU hWm⟩⟩ rfl hn hsize hstack (lv_room (rest := st0) hW) hdg hcs
theorem zrS (S : CallFix p m c cc nL s args Ts own) (hM : Met l y wy rm (va_Pc As (cP D k wc H.size)) Qc 0 0 (va_A wc H.size)) (cw : CallB R s args own index y bytes maxL ret wy rm 0 0 n ∧ (Cond.static y).before args s = true) (hK : va_K D vwCl (tyA k) s) (hP : va_P D vwCl ws H) (hD : va_D A ws) (hS : va_S A s.heap H locs) (hA : ∀ q, s.heap.size ≤ q → A q) (hm : amb k A s s.heap) (isC : List Nat) (hnd : va_nd isC = true) (hC : isC.map (fun i => ws[i]?) = wc.map some)
    (hn : As.length = n) (hsize : ls.size = nL) (hstack : st0 = As.reverse ++ rest) (hW : (rest.map fun v => v.category).sum ≤ 8) (hdg : decode cc pc = .ok (.invokestatic index, 3)) (hcs : cells ≤ R.cells ∧ slots ≤ R.slots) :
    va_Run p l e R s m args below meth c H locs cells slots 0 0 (F0 m pc ls st0) rest (Qc As.toArray) (va_A wc H.size) :=
  va_runS (As := As) (rest := rest) (g := F0 m pc ls st0) S hM cw ⟨cP.blind, fun U hU hWm => ⟨rfl, zPre hP hD hK hS hA hm isC hnd hC hU hWm⟩⟩ rfl hn hsize hstack (lv_room (rest := st0) hW) hdg hcs
theorem zrN (S : CallFix p m c cc nL s args Ts own) (hM : Met l y wy rm (va_Pc As (cP D k wc H.size)) Qc 0 0 (va_A wc H.size)) (cw : va_CN R s args own index y host bytes maxL ret wy rm 0 0 n ∧ (Cond.static y).before args s = true ∧ True) (hK : va_K D vwCl (tyA k) s) (hP : va_P D vwCl ws H) (hD : va_D A ws) (hS : va_S A s.heap H locs) (hA : ∀ q, s.heap.size ≤ q → A q) (hm : amb k A s s.heap) (isC : List Nat) (hnd : va_nd isC = true) (hC : isC.map (fun i => ws[i]?) = wc.map some)
    (hn : As.length = n) (hsize : ls.size = nL) (hstack : st0 = As.reverse ++ rest) (hW : (rest.map fun v => v.category).sum ≤ 8) (hdg : decode cc pc = .ok (.invokestatic index, 3)) (hcs : cells ≤ R.cells ∧ slots ≤ R.slots) :
    va_Run p l e R s m args below meth c H locs cells slots 0 0 (F0 m pc ls st0) rest (Qc As.toArray) (va_A wc H.size) :=
  va_runSN (As := As) (rest := rest) (g := F0 m pc ls st0) S hM cw ⟨cP.blind, fun U hU hWm => ⟨rfl, zPre hP hD hK hS hA hm isC hnd hC hU hWm⟩⟩ rfl hn hsize hstack (lv_room (rest := st0) hW) hdg hcs
end ZC
/-- a step of a program that may fail, in a hypothesis -/
theorem zb {α β : Type} {o : Option α} {f : α → Option β} {b : β} (h : o.bind f = some b) : ∃ a, o = some a ∧ f a = some b := by
  cases o with
  | none => cases h
  | some a => exact ⟨a, rfl, h⟩
/-- an index that is looked at -/
def zok (i : Int32) (n : Nat) : Bool := !decide (i < 0 ∨ n ≤ i.toNatClampNeg)
theorem zok_in {i : Int32} {n : Nat} (h : zok i n = true) : vp_in i n := by
  unfold zok at h
  unfold vp_in
  simpa using h
theorem zg {β : Type} {i : Int32} {n : Nat} {x : Option β} {b : β} (h : (if zok i n then x else none) = some b) : vp_in i n ∧ x = some b := by
  by_cases hz : zok i n = true
  · rw [if_pos hz] at h; exact ⟨zok_in hz, h⟩
  · rw [if_neg hz] at h; cases h
theorem zt {β : Type} {c : Prop} [Decidable c] {x y z : β} (h : (if c then x else y) = z) (hc : c) : x = z := by rw [if_pos hc] at h; exact h
theorem zf {β : Type} {c : Prop} [Decidable c] {x y z : β} (h : (if c then x else y) = z) (hc : ¬ c) : y = z := by rw [if_neg hc] at h; exact h
theorem zd {β : Type} {c : Prop} [Decidable c] {x : Option β} {b : β} (h : (if c then none else x) = some b) : ¬ c ∧ x = some b := by
  by_cases hz : c
  · rw [if_pos hz] at h; cases h
  · rw [if_neg hz] at h; exact ⟨hz, h⟩
