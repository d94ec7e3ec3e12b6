theorem law_loop {p : Program} {l : Launch} {e : Env} {s : State} {m : MethodId} {below : List Frame} {meth : Method} {c : Code} {b L : Nat} {xs : Nat → Int32} {D : va_G} {k : Nat → Nat} {xq oq : Nat} (hL : L ≤ 3072) (C0 : lw_At p s m meth c b L xs) (hK : va_K D vwCl (tyA k) s) (hm : amb k (fun q : Nat => s.heap.size ≤ q) s s.heap) :
    ∀ (n i : Nat), i ≤ L → L + 1 ≤ i + n → ∀ (ws : va_W) (H : Heap) (locs : List Loc) (ls : Array Slot), INV k xq oq ws → va_P D vwCl ws H → va_D (fun q : Nat => s.heap.size ≤ q) ws → va_S (fun q : Nat => s.heap.size ≤ q) s.heap H locs → lv_has ls 4 [(0, .ref b), (1, .ref xq), (2, .ref oq), (3, .int (nI i))] → W p l e room_1 s m #[Value.ref b] below meth c H locs 97 5834 (lw_Z below #[Value.ref b] s) (F0 m 18 ls []) := by
  obtain ⟨hx, hb, hr, hml, hown, hts, hX, hbl, hlocks, hgv⟩ := id C0
  have hA : ∀ q : Nat, s.heap.size ≤ q → (fun q : Nat => s.heap.size ≤ q) q := fun _ h => h
  have hbA : ¬ (fun q : Nat => s.heap.size ≤ q) b := Nat.not_le.mpr hbl
  intro n
  induction n with
  | zero =>
    intro i h1 h2
    exact absurd h2 (by omega)
  | succ n ih =>
    intro i hi hin ws H locs ls hI hP hD hS hl
    refine lv_iload_n hx hb dL_law_18 rfl (lv_at hl 3 rfl) ?_
    refine lv_aload_n hx hb dL_law_19 rfl (lv_at hl 0 rfl) ?_
    refine va_slen hx hb hX hbl hbA hS dL_law_20 ?_
    refine lv_bipush (v := 6) hx hb dL_law_21 (by decide) ?_
    refine lv_isub hx hb dL_law_23 ?_
    refine lv_icmp_gt (tgt := 951) hx hb dL_law_24 (by decide) (fun c9 => ?_) (fun c9 => ?_)
    · refine lv_iconst (v := 1) hx hb dL_law_951 (by decide) ?_
      refine va_forget (fun q hq => hS.2.2 q hq) ?_
      refine W.widen (k := 600000) (n := 7302249) (Nat.le_of_ble_eq_true rfl) (Nat.le_of_ble_eq_true rfl) ?_
      exact lw_ret hx hb hr hlocks dL_law_952
    · have hi6 : i + 6 ≤ L := by
        have h := c9
        rw [Int32.lt_iff_toInt_lt, show Int32.ofNat L - 6 = nI L - nI 6 from rfl, pk_sub_toInt (by omega) (by omega), nI_toInt (by omega)] at h
        omega
      have hvi : vp_in (nI i) L := vp_in_nI (by omega) (by omega)
      have tail : ∀ (ws' : va_W) (H' : Heap) (locs' : List Loc), INV k xq oq ws' → va_P D vwCl ws' H' → va_D (fun q : Nat => s.heap.size ≤ q) ws' → va_S (fun q : Nat => s.heap.size ≤ q) s.heap H' locs' → W p l e room_1 s m #[Value.ref b] below meth c H' locs' 97 5834 (lw_Z below #[Value.ref b] s) (F0 m 945 ls []) := by
        intro ws' H' locs' hI hP hD hS
        refine lv_iinc (v := nI (i + 6)) (lv' := [(3, .int (nI (i + 6))), (0, .ref b), (1, .ref xq), (2, .ref oq)]) hx hb dL_law_945 hl (k := 3) rfl (show nI i + nI 6 = nI (i + 6) from nI_add i 6) (by decide) rfl (fun ls hl => ?_)
        refine lv_goto (tgt := 18) hx hb dL_law_948 (by decide) ?_
        exact ih (i + 6) (by omega) (by omega) ws' H' locs' ls hI hP hD hS (lv_sub hl [1, 2, 3, 0] rfl)
      refine lv_aload_n hx hb dL_law_27 rfl (lv_at hl 0 rfl) ?_
      refine lv_iload_n hx hb dL_law_28 rfl (lv_at hl 3 rfl) ?_
      refine va_sld hx hb hX hbl hbA hS hvi dL_law_29 ?_
      refine lv_bipush (v := 31) hx hb dL_law_30 (by decide) ?_
      refine lv_iand hx hb dL_law_32 ?_
      have hv := pk_and (m := 31) (xs (Int32.toNatClampNeg (nI i))) 5 (by decide)
      have ht32 : (xs (Int32.toNatClampNeg (nI i))).toBitVec.toNat % 2 ^ 5 < 32 := Nat.mod_lt _ (by decide)
      generalize (xs (Int32.toNatClampNeg (nI i))).toBitVec.toNat % 2 ^ 5 = t at hv ht32
      by_cases h0 : t = 0
      · subst h0
        refine lv_tableIn (off := 127) (tgt := 160) hx hb dL_law_33 (by rw [hv]; decide) (by rw [hv]; decide) (by rw [hv]; rfl) (by decide) ?_
        exact B_zone C0 hK hm hL hi6 hI hP hD hS hl tail
      by_cases h1 : t = 1
      · subst h1
        refine lv_tableIn (off := 170) (tgt := 203) hx hb dL_law_33 (by rw [hv]; decide) (by rw [hv]; decide) (by rw [hv]; rfl) (by decide) ?_
        exact B_zoneOf C0 hK hm hL hi6 hI hP hD hS hl tail
      by_cases h2 : t = 2
      · subst h2
        refine lv_tableIn (off := 193) (tgt := 226) hx hb dL_law_33 (by rw [hv]; decide) (by rw [hv]; decide) (by rw [hv]; rfl) (by decide) ?_
        exact B_rule C0 hK hm hL hi6 hI hP hD hS hl tail
      by_cases h3 : t = 3
      · subst h3
        refine lv_tableIn (off := 226) (tgt := 259) hx hb dL_law_33 (by rw [hv]; decide) (by rw [hv]; decide) (by rw [hv]; rfl) (by decide) ?_
        exact B_sets C0 hK hm hL hi6 hI hP hD hS hl tail
      by_cases h4 : t = 4
      · subst h4
        refine lv_tableIn (off := 269) (tgt := 302) hx hb dL_law_33 (by rw [hv]; decide) (by rw [hv]; decide) (by rw [hv]; rfl) (by decide) ?_
        exact B_drops C0 hK hm hL hi6 hI hP hD hS hl tail
      by_cases h5 : t = 5
      · subst h5
        refine lv_tableIn (off := 292) (tgt := 325) hx hb dL_law_33 (by rw [hv]; decide) (by rw [hv]; decide) (by rw [hv]; rfl) (by decide) ?_
        exact B_moves C0 hK hm hL hi6 hI hP hD hS hl tail
      by_cases h6 : t = 6
      · subst h6
        refine lv_tableIn (off := 325) (tgt := 358) hx hb dL_law_33 (by rw [hv]; decide) (by rw [hv]; decide) (by rw [hv]; rfl) (by decide) ?_
        exact B_of C0 hK hm hL hi6 hI hP hD hS hl tail
      by_cases h7 : t = 7
      · subst h7
        refine lv_tableIn (off := 358) (tgt := 391) hx hb dL_law_33 (by rw [hv]; decide) (by rw [hv]; decide) (by rw [hv]; rfl) (by decide) ?_
        exact B_keeps C0 hK hm hL hi6 hI hP hD hS hl tail
      by_cases h8 : t = 8
      · subst h8
        refine lv_tableIn (off := 371) (tgt := 404) hx hb dL_law_33 (by rw [hv]; decide) (by rw [hv]; decide) (by rw [hv]; rfl) (by decide) ?_
        exact B_takes C0 hK hm hL hi6 hI hP hD hS hl tail
      by_cases h9 : t = 9
      · subst h9
        refine lv_tableIn (off := 384) (tgt := 417) hx hb dL_law_33 (by rw [hv]; decide) (by rw [hv]; decide) (by rw [hv]; rfl) (by decide) ?_
        exact B_decides C0 hK hm hL hi6 hI hP hD hS hl tail
      by_cases h10 : t = 10
      · subst h10
        refine lv_tableIn (off := 437) (tgt := 470) hx hb dL_law_33 (by rw [hv]; decide) (by rw [hv]; decide) (by rw [hv]; rfl) (by decide) ?_
        exact B_cases C0 hK hm hL hi6 hI hP hD hS hl tail
      by_cases h11 : t = 11
      · subst h11
        refine lv_tableIn (off := 470) (tgt := 503) hx hb dL_law_33 (by rw [hv]; decide) (by rw [hv]; decide) (by rw [hv]; rfl) (by decide) ?_
        exact B_idle C0 hK hm hL hi6 hI hP hD hS hl tail
      by_cases h12 : t = 12
      · subst h12
        refine lv_tableIn (off := 503) (tgt := 536) hx hb dL_law_33 (by rw [hv]; decide) (by rw [hv]; decide) (by rw [hv]; rfl) (by decide) ?_
        exact B_contradicts C0 hK hm hL hi6 hI hP hD hS hl tail
      by_cases h13 : t = 13
      · subst h13
        refine lv_tableIn (off := 536) (tgt := 569) hx hb dL_law_33 (by rw [hv]; decide) (by rw [hv]; decide) (by rw [hv]; rfl) (by decide) ?_
        exact B_change C0 hK hm hL hi6 hI hP hD hS hl tail
      by_cases h14 : t = 14
      · subst h14
        refine lv_tableIn (off := 559) (tgt := 592) hx hb dL_law_33 (by rw [hv]; decide) (by rw [hv]; decide) (by rw [hv]; rfl) (by decide) ?_
        exact B_all C0 hK hm hL hi6 hI hP hD hS hl tail
      by_cases h15 : t = 15
      · subst h15
        refine lv_tableIn (off := 582) (tgt := 615) hx hb dL_law_33 (by rw [hv]; decide) (by rw [hv]; decide) (by rw [hv]; rfl) (by decide) ?_
        exact B_letter C0 hK hm hL hi6 hI hP hD hS hl tail
      by_cases h16 : t = 16
      · subst h16
        refine lv_tableIn (off := 645) (tgt := 678) hx hb dL_law_33 (by rw [hv]; decide) (by rw [hv]; decide) (by rw [hv]; rfl) (by decide) ?_
        exact B_announces C0 hK hm hL hi6 hI hP hD hS hl tail
      by_cases h17 : t = 17
      · subst h17
        refine lv_tableIn (off := 688) (tgt := 721) hx hb dL_law_33 (by rw [hv]; decide) (by rw [hv]; decide) (by rw [hv]; rfl) (by decide) ?_
        exact B_ticks C0 hK hm hL hi6 hI hP hD hS hl tail
      by_cases h18 : t = 18
      · subst h18
        refine lv_tableIn (off := 711) (tgt := 744) hx hb dL_law_33 (by rw [hv]; decide) (by rw [hv]; decide) (by rw [hv]; rfl) (by decide) ?_
        exact B_span C0 hK hm hL hi6 hI hP hD hS hl tail
      by_cases h19 : t = 19
      · subst h19
        refine lv_tableIn (off := 744) (tgt := 777) hx hb dL_law_33 (by rw [hv]; decide) (by rw [hv]; decide) (by rw [hv]; rfl) (by decide) ?_
        exact B_cuts C0 hK hm hL hi6 hI hP hD hS hl tail
      by_cases h20 : t = 20
      · subst h20
        refine lv_tableIn (off := 757) (tgt := 790) hx hb dL_law_33 (by rw [hv]; decide) (by rw [hv]; decide) (by rw [hv]; rfl) (by decide) ?_
        exact B_flow C0 hK hm hL hi6 hI hP hD hS hl tail
      by_cases h21 : t = 21
      · subst h21
        refine lv_tableIn (off := 790) (tgt := 823) hx hb dL_law_33 (by rw [hv]; decide) (by rw [hv]; decide) (by rw [hv]; rfl) (by decide) ?_
        exact B_count C0 hK hm hL hi6 hI hP hD hS hl tail
      by_cases h22 : t = 22
      · subst h22
        refine lv_tableIn (off := 813) (tgt := 846) hx hb dL_law_33 (by rw [hv]; decide) (by rw [hv]; decide) (by rw [hv]; rfl) (by decide) ?_
        exact B_type C0 hK hm hL hi6 hI hP hD hS hl tail
      by_cases h23 : t = 23
      · subst h23
        refine lv_tableIn (off := 836) (tgt := 869) hx hb dL_law_33 (by rw [hv]; decide) (by rw [hv]; decide) (by rw [hv]; rfl) (by decide) ?_
        exact B_clear C0 hK hm hL hi6 hI hP hD hS hl tail
      by_cases h24 : t = 24
      · subst h24
        refine lv_tableIn (off := 849) (tgt := 882) hx hb dL_law_33 (by rw [hv]; decide) (by rw [hv]; decide) (by rw [hv]; rfl) (by decide) ?_
        exact B_reads C0 hK hm hL hi6 hI hP hD hS hl tail
      by_cases h25 : t = 25
      · subst h25
        refine lv_tableIn (off := 862) (tgt := 895) hx hb dL_law_33 (by rw [hv]; decide) (by rw [hv]; decide) (by rw [hv]; rfl) (by decide) ?_
        exact B_back C0 hK hm hL hi6 hI hP hD hS hl tail
      by_cases h26 : t = 26
      · subst h26
        refine lv_tableIn (off := 875) (tgt := 908) hx hb dL_law_33 (by rw [hv]; decide) (by rw [hv]; decide) (by rw [hv]; rfl) (by decide) ?_
        exact B_told C0 hK hm hL hi6 hI hP hD hS hl tail
      by_cases h27 : t = 27
      · subst h27
        refine lv_tableIn (off := 898) (tgt := 931) hx hb dL_law_33 (by rw [hv]; decide) (by rw [hv]; decide) (by rw [hv]; rfl) (by decide) ?_
        exact B_digest C0 hK hm hL hi6 hI hP hD hS hl tail
      refine lv_tableOut (tgt := 945) hx hb dL_law_33 (Or.inr (by rw [hv, nI_toInt (by omega)]; omega)) (by decide) ?_
      exact tail ws H locs hI hP hD hS
