theorem shX_cong {G : gG} {ad1 ad2 : Nat → Nat} (h : ∀ k, k < 55 → ad1 k = ad2 k) : ∀ k, k < 55 → ∀ f, shEq G.1 (shX G ad1 k f) (shX G ad2 k f) := by
  have cl : ∀ o, (o = 0 ∨ o = 12 ∨ o = 24) → ∀ i, i < 12 → ∀ f, shEq G.1 (shX G ad1 (o + i) f) (shX G ad2 (o + i) f) := by
    intro o ho i hi f
    rw [shX_o ho i hi, shX_o ho i hi]
    exact shC_cong (fun k hk => h (o + k) (by omega)) hi f
  intro k hk f
  by_cases h1 : k < 12
  · have := cl 0 (by decide) k h1 f
    rw [Nat.zero_add] at this
    exact this
  by_cases h2 : k < 24
  · have := cl 12 (by decide) (k - 12) (by omega) f
    rw [show 12 + (k - 12) = k from by omega] at this
    exact this
  by_cases h3 : k < 36
  · have := cl 24 (by decide) (k - 24) (by omega) f
    rw [show 24 + (k - 24) = k from by omega] at this
    exact this
  obtain rfl | rfl | rfl | rfl | rfl | rfl | rfl | rfl | rfl | rfl | rfl | rfl | rfl | rfl | rfl | rfl | rfl | rfl | rfl : k = 36 ∨ k = 37 ∨ k = 38 ∨ k = 39 ∨ k = 40 ∨ k = 41 ∨ k = 42 ∨ k = 43 ∨ k = 44 ∨ k = 45 ∨ k = 46 ∨ k = 47 ∨ k = 48 ∨ k = 49 ∨ k = 50 ∨ k = 51 ∨ k = 52 ∨ k = 53 ∨ k = 54 := by omega
  · have e : shX G ad1 36 f = shX G ad2 36 f := by
      show (.inr (4, [.ref (ad1 37), .int (f 0), .int (f 1)]) : va_E) = .inr (4, [.ref (ad2 37), .int (f 0), .int (f 1)])
      rw [h 37 (by decide)]
    rw [e]
    exact shEq.rf
  · have e : shX G ad1 37 f = shX G ad2 37 f := by
      show (.inr (5, [.ref (ad1 38), .ref (ad1 39), .ref (ad1 40), .ref (ad1 41), .int (f 0)]) : va_E) = .inr (5, [.ref (ad2 38), .ref (ad2 39), .ref (ad2 40), .ref (ad2 41), .int (f 0)])
      rw [h 38 (by decide), h 39 (by decide), h 40 (by decide), h 41 (by decide)]
    rw [e]
    exact shEq.rf
  · exact shEq.rf
  · exact shEq.rf
  · exact shEq.rf
  · exact shEq.rf
  · have e : shX G ad1 42 f = shX G ad2 42 f := by
      show (.inr (3, [.ref (ad1 43), .int (f 0)]) : va_E) = .inr (3, [.ref (ad2 43), .int (f 0)])
      rw [h 43 (by decide)]
    rw [e]
    exact shEq.rf
  · exact shEq.rf
  · have e : shX G ad1 44 f = shX G ad2 44 f := by
      show (.inr (6, [.ref (ad1 8), .ref (ad1 20), .ref (ad1 32), .int (f 0), .ref (ad1 42), .ref (ad1 36), .ref (ad1 46), .ref (ad1 45)]) : va_E) = .inr (6, [.ref (ad2 8), .ref (ad2 20), .ref (ad2 32), .int (f 0), .ref (ad2 42), .ref (ad2 36), .ref (ad2 46), .ref (ad2 45)])
      rw [h 8 (by decide), h 20 (by decide), h 32 (by decide), h 42 (by decide), h 36 (by decide), h 46 (by decide), h 45 (by decide)]
    rw [e]
    exact shEq.rf
  · exact shEq.rf
  · exact eF_cong (fun j hj => h (47 + 2 * j) (by omega))
  · have e : shX G ad1 47 f = shX G ad2 47 f := by
      show (.inr (2, [.ref (ad1 48), .int (f 0), .int (f 1)]) : va_E) = .inr (2, [.ref (ad2 48), .int (f 0), .int (f 1)])
      rw [h 48 (by decide)]
    rw [e]
    exact shEq.rf
  · exact shEq.rf
  · have e : shX G ad1 49 f = shX G ad2 49 f := by
      show (.inr (2, [.ref (ad1 50), .int (f 0), .int (f 1)]) : va_E) = .inr (2, [.ref (ad2 50), .int (f 0), .int (f 1)])
      rw [h 50 (by decide)]
    rw [e]
    exact shEq.rf
  · exact shEq.rf
  · have e : shX G ad1 51 f = shX G ad2 51 f := by
      show (.inr (2, [.ref (ad1 52), .int (f 0), .int (f 1)]) : va_E) = .inr (2, [.ref (ad2 52), .int (f 0), .int (f 1)])
      rw [h 52 (by decide)]
    rw [e]
    exact shEq.rf
  · exact shEq.rf
  · have e : shX G ad1 53 f = shX G ad2 53 f := by
      show (.inr (2, [.ref (ad1 54), .int (f 0), .int (f 1)]) : va_E) = .inr (2, [.ref (ad2 54), .int (f 0), .int (f 1)])
      rw [h 54 (by decide)]
    rw [e]
    exact shEq.rf
  · exact shEq.rf
theorem shM_cong {G : gG} {ad1 ad2 : Nat → Nat} (h : ∀ k, k < 11 → ad1 k = ad2 k) : ∀ k, k < 11 → ∀ f, shM G ad1 k f = shM G ad2 k f := by
  intro k hk f
  unfold shM
  by_cases h0 : k = 0
  · rw [if_pos h0, if_pos h0, h 1 (by decide), h 2 (by decide), h 3 (by decide), h 4 (by decide), h 5 (by decide), h 6 (by decide), h 7 (by decide), h 8 (by decide), h 9 (by decide), h 10 (by decide)]
  · rw [if_neg h0, if_neg h0]
theorem sub6 {i L : Nat} (hL : L ≤ 3072) (hi : i ≤ L) (h : ¬ Int32.ofNat L - 6 < nI i) : i + 6 ≤ L := by
  refine Nat.not_lt.mp (fun q => h ?_)
  apply Int32.lt_iff_toInt_lt.mpr
  have e := pk_sub_toInt (a := L) (b := 6) (by omega) (by decide)
  have e2 : (Int32.ofNat L - 6).toInt = (L : Int) - 6 := e
  rw [e2, nI_toInt (by omega)]
  omega
set_option maxHeartbeats 4000000 in
set_option maxRecDepth 100000 in
theorem law_loop {p : Program} {l : Launch} {e : Env} {s : State} {m : MethodId} {below : List Frame} {meth : Method} {c : Code} {G : gG} {ad : Nat → Nat} {b L : Nat} {xs : Nat → Int32} (hL : L ≤ 3072) (C0 : lw_At p s m meth c b L xs) (hX : gX G s) (hb0 : G.2.2.1 = s.heap.size) (hI : gI G.2.2.1 66 ad) : ∀ (n i : Nat) (σ : gM) (H : Heap) (locs : List Loc) (ls : Array Slot), i ≤ L → L + 1 ≤ i + n → RL2 σ → gP G.1 66 ad (gE (shL G ad) σ) H → va_S (gA 66 ad) s.heap H locs → lv_has ls 4 [(0, .ref b), (1, .ref (ad 44)), (2, .ref (ad 55)), (3, .int (nI i))] → W p l e room_1 s m #[Value.ref b] below meth c H locs 600000 7302250 (lw_Z below #[Value.ref b] s) (F0 m 18 ls []) := by
  obtain ⟨hx, hb, hr, hml, hown, hts, hX2, hbl, hlocks, hgv⟩ := id C0
  have hbA : ¬ gA 66 ad b := fun q => by have := gA.b0 hI q; omega
  intro n
  induction n with
  | zero => intro i σ H locs ls h1 h2; exact absurd h2 (by omega)
  | succ n ih =>
    intro i σ H locs ls h1 h2 hR hP hS hl
    refine lv_iload_n hx hb dL_law_18 rfl (lv_at hl 3 rfl) ?_
    refine lv_aload_n hx hb dL_law_19 rfl (lv_at hl 0 rfl) ?_
    refine va_slen hx hb hX2 hbl hbA hS dL_law_20 ?_
    refine lv_bipush (v := 6) hx hb dL_law_21 (by decide) ?_
    refine lv_isub hx hb dL_law_23 ?_
    refine lv_icmp_gt (tgt := 1405) hx hb dL_law_24 (by decide) (fun c_ => ?_) (fun c_ => ?_)
    · refine lv_iconst (v := 1) hx hb dL_law_1405 (by decide) ?_
      refine va_forget (fun q hq => ?_) ?_
      · have := gA.b0 hI (hS.2.2 q hq)
        omega
      exact lw_ret hx hb hr hlocks dL_law_1406
    have hi : i + 6 ≤ L := sub6 hL h1 c_
    have next : ∀ (σ : gM) (H : Heap) (locs : List Loc), RL2 σ → gP G.1 66 ad (gE (shL G ad) σ) H → va_S (gA 66 ad) s.heap H locs → W p l e room_1 s m #[Value.ref b] below meth c H locs 600000 7302250 (lw_Z below #[Value.ref b] s) (F0 m 1399 ls []) := fun σ H locs hR hP hS => by
      refine lv_iinc (v := nI (i + 6)) (lv' := [(3, .int (nI (i + 6))), (0, .ref b), (1, .ref (ad 44)), (2, .ref (ad 55))]) hx hb dL_law_1399 hl (k := 3) rfl (by exact nI_add i 6) (by decide) rfl (fun ls hl => ?_)
      refine lv_goto (tgt := 18) hx hb dL_law_1402 (by decide) ?_
      exact ih (i + 6) σ H locs ls hi (by omega) hR hP hS (lv_sub hl [1, 2, 3, 0] rfl)
    refine lv_aload_n hx hb dL_law_27 rfl (lv_at hl 0 rfl) ?_
    refine lv_iload_n hx hb dL_law_28 rfl (lv_at hl 3 rfl) ?_
    refine va_sld hx hb hX2 hbl hbA hS (vp_in_nI (show i < L by omega) (by omega)) dL_law_29 ?_
    refine lv_bipush (v := 63) hx hb dL_law_30 (by decide) ?_
    refine lv_iand hx hb dL_law_32 ?_
    generalize xs (nI i).toNatClampNeg &&& 63 = v
    by_cases c0 : v = 0
    · refine lv_as (y := 0) c0 ?_
      refine lv_tableIn (tgt := 208) (off := 175) hx hb dL_law_33 (by decide) (by decide) (by decide) (by decide) ?_
      exact law_c0 hL C0 hX hb0 hI i hi σ hR H locs ls hP hS hl next
    by_cases c1 : v = 1
    · refine lv_as (y := 1) c1 ?_
      refine lv_tableIn (tgt := 241) (off := 208) hx hb dL_law_33 (by decide) (by decide) (by decide) (by decide) ?_
      exact law_c1 hL C0 hX hb0 hI i hi σ hR H locs ls hP hS hl next
    by_cases c2 : v = 2
    · refine lv_as (y := 2) c2 ?_
      refine lv_tableIn (tgt := 264) (off := 231) hx hb dL_law_33 (by decide) (by decide) (by decide) (by decide) ?_
      exact law_c2 hL C0 hX hb0 hI i hi σ hR H locs ls hP hS hl next
    by_cases c3 : v = 3
    · refine lv_as (y := 3) c3 ?_
      refine lv_tableIn (tgt := 297) (off := 264) hx hb dL_law_33 (by decide) (by decide) (by decide) (by decide) ?_
      exact law_c3 hL C0 hX hb0 hI i hi σ hR H locs ls hP hS hl next
    by_cases c4 : v = 4
    · refine lv_as (y := 4) c4 ?_
      refine lv_tableIn (tgt := 330) (off := 297) hx hb dL_law_33 (by decide) (by decide) (by decide) (by decide) ?_
      exact law_c4 hL C0 hX hb0 hI i hi σ hR H locs ls hP hS hl next
    by_cases c5 : v = 5
    · refine lv_as (y := 5) c5 ?_
      refine lv_tableIn (tgt := 363) (off := 330) hx hb dL_law_33 (by decide) (by decide) (by decide) (by decide) ?_
      exact law_c5 hL C0 hX hb0 hI i hi σ hR H locs ls hP hS hl next
    by_cases c6 : v = 6
    · refine lv_as (y := 6) c6 ?_
      refine lv_tableIn (tgt := 406) (off := 373) hx hb dL_law_33 (by decide) (by decide) (by decide) (by decide) ?_
      exact law_c6 hL C0 hX hb0 hI i hi σ hR H locs ls hP hS hl next
    by_cases c7 : v = 7
    · refine lv_as (y := 7) c7 ?_
      refine lv_tableIn (tgt := 429) (off := 396) hx hb dL_law_33 (by decide) (by decide) (by decide) (by decide) ?_
      exact law_c7 hL C0 hX hb0 hI i hi σ hR H locs ls hP hS hl next
    by_cases c8 : v = 8
    · refine lv_as (y := 8) c8 ?_
      refine lv_tableIn (tgt := 462) (off := 429) hx hb dL_law_33 (by decide) (by decide) (by decide) (by decide) ?_
      exact law_c8 hL C0 hX hb0 hI i hi σ hR H locs ls hP hS hl next
    by_cases c9 : v = 9
    · refine lv_as (y := 9) c9 ?_
      refine lv_tableIn (tgt := 485) (off := 452) hx hb dL_law_33 (by decide) (by decide) (by decide) (by decide) ?_
      exact law_c9 hL C0 hX hb0 hI i hi σ hR H locs ls hP hS hl next
    by_cases c10 : v = 10
    · refine lv_as (y := 10) c10 ?_
      refine lv_tableIn (tgt := 508) (off := 475) hx hb dL_law_33 (by decide) (by decide) (by decide) (by decide) ?_
      exact law_c10 hL C0 hX hb0 hI i hi σ hR H locs ls hP hS hl next
    by_cases c11 : v = 11
    · refine lv_as (y := 11) c11 ?_
      refine lv_tableIn (tgt := 551) (off := 518) hx hb dL_law_33 (by decide) (by decide) (by decide) (by decide) ?_
      exact law_c11 hL C0 hX hb0 hI i hi σ hR H locs ls hP hS hl next
    by_cases c12 : v = 12
    · refine lv_as (y := 12) c12 ?_
      refine lv_tableIn (tgt := 584) (off := 551) hx hb dL_law_33 (by decide) (by decide) (by decide) (by decide) ?_
      exact law_c12 hL C0 hX hb0 hI i hi σ hR H locs ls hP hS hl next
    by_cases c13 : v = 13
    · refine lv_as (y := 13) c13 ?_
      refine lv_tableIn (tgt := 617) (off := 584) hx hb dL_law_33 (by decide) (by decide) (by decide) (by decide) ?_
      exact law_c13 hL C0 hX hb0 hI i hi σ hR H locs ls hP hS hl next
    by_cases c14 : v = 14
    · refine lv_as (y := 14) c14 ?_
      refine lv_tableIn (tgt := 640) (off := 607) hx hb dL_law_33 (by decide) (by decide) (by decide) (by decide) ?_
      exact law_c14 hL C0 hX hb0 hI i hi σ hR H locs ls hP hS hl next
    by_cases c15 : v = 15
    · refine lv_as (y := 15) c15 ?_
      refine lv_tableIn (tgt := 673) (off := 640) hx hb dL_law_33 (by decide) (by decide) (by decide) (by decide) ?_
      exact law_c15 hL C0 hX hb0 hI i hi σ hR H locs ls hP hS hl next
    by_cases c16 : v = 16
    · refine lv_as (y := 16) c16 ?_
      refine lv_tableIn (tgt := 716) (off := 683) hx hb dL_law_33 (by decide) (by decide) (by decide) (by decide) ?_
      exact law_c16 hL C0 hX hb0 hI i hi σ hR H locs ls hP hS hl next
    by_cases c17 : v = 17
    · refine lv_as (y := 17) c17 ?_
      refine lv_tableIn (tgt := 749) (off := 716) hx hb dL_law_33 (by decide) (by decide) (by decide) (by decide) ?_
      exact law_c17 hL C0 hX hb0 hI i hi σ hR H locs ls hP hS hl next
    by_cases c18 : v = 18
    · refine lv_as (y := 18) c18 ?_
      refine lv_tableIn (tgt := 772) (off := 739) hx hb dL_law_33 (by decide) (by decide) (by decide) (by decide) ?_
      exact law_c18 hL C0 hX hb0 hI i hi σ hR H locs ls hP hS hl next
    by_cases c19 : v = 19
    · refine lv_as (y := 19) c19 ?_
      refine lv_tableIn (tgt := 795) (off := 762) hx hb dL_law_33 (by decide) (by decide) (by decide) (by decide) ?_
      exact law_c19 hL C0 hX hb0 hI i hi σ hR H locs ls hP hS hl next
    by_cases c20 : v = 20
    · refine lv_as (y := 20) c20 ?_
      refine lv_tableIn (tgt := 838) (off := 805) hx hb dL_law_33 (by decide) (by decide) (by decide) (by decide) ?_
      exact law_c20 hL C0 hX hb0 hI i hi σ hR H locs ls hP hS hl next
    by_cases c21 : v = 21
    · refine lv_as (y := 21) c21 ?_
      refine lv_tableIn (tgt := 871) (off := 838) hx hb dL_law_33 (by decide) (by decide) (by decide) (by decide) ?_
      exact law_c21 hL C0 hX hb0 hI i hi σ hR H locs ls hP hS hl next
    by_cases c22 : v = 22
    · refine lv_as (y := 22) c22 ?_
      refine lv_tableIn (tgt := 904) (off := 871) hx hb dL_law_33 (by decide) (by decide) (by decide) (by decide) ?_
      exact law_c22 hL C0 hX hb0 hI i hi σ hR H locs ls hP hS hl next
    by_cases c23 : v = 23
    · refine lv_as (y := 23) c23 ?_
      refine lv_tableIn (tgt := 927) (off := 894) hx hb dL_law_33 (by decide) (by decide) (by decide) (by decide) ?_
      exact law_c23 hL C0 hX hb0 hI i hi σ hR H locs ls hP hS hl next
    by_cases c24 : v = 24
    · refine lv_as (y := 24) c24 ?_
      refine lv_tableIn (tgt := 971) (off := 938) hx hb dL_law_33 (by decide) (by decide) (by decide) (by decide) ?_
      exact law_c24 hL C0 hX hb0 hI i hi σ hR H locs ls hP hS hl next
    by_cases c25 : v = 25
    · refine lv_as (y := 25) c25 ?_
      refine lv_tableIn (tgt := 994) (off := 961) hx hb dL_law_33 (by decide) (by decide) (by decide) (by decide) ?_
      exact law_c25 hL C0 hX hb0 hI i hi σ hR H locs ls hP hS hl next
    by_cases c26 : v = 26
    · refine lv_as (y := 26) c26 ?_
      refine lv_tableIn (tgt := 1027) (off := 994) hx hb dL_law_33 (by decide) (by decide) (by decide) (by decide) ?_
      exact law_c26 hL C0 hX hb0 hI i hi σ hR H locs ls hP hS hl next
    by_cases c27 : v = 27
    · refine lv_as (y := 27) c27 ?_
      refine lv_tableIn (tgt := 1040) (off := 1007) hx hb dL_law_33 (by decide) (by decide) (by decide) (by decide) ?_
      exact law_c27 hL C0 hX hb0 hI i hi σ hR H locs ls hP hS hl next
    by_cases c28 : v = 28
    · refine lv_as (y := 28) c28 ?_
      refine lv_tableIn (tgt := 1053) (off := 1020) hx hb dL_law_33 (by decide) (by decide) (by decide) (by decide) ?_
      exact law_c28 hL C0 hX hb0 hI i hi σ hR H locs ls hP hS hl next
    by_cases c29 : v = 29
    · refine lv_as (y := 29) c29 ?_
      refine lv_tableIn (tgt := 1086) (off := 1053) hx hb dL_law_33 (by decide) (by decide) (by decide) (by decide) ?_
      exact law_c29 hL C0 hX hb0 hI i hi σ hR H locs ls hP hS hl next
    by_cases c30 : v = 30
    · refine lv_as (y := 30) c30 ?_
      refine lv_tableIn (tgt := 1119) (off := 1086) hx hb dL_law_33 (by decide) (by decide) (by decide) (by decide) ?_
      exact law_c30 hL C0 hX hb0 hI i hi σ hR H locs ls hP hS hl next
    by_cases c31 : v = 31
    · refine lv_as (y := 31) c31 ?_
      refine lv_tableIn (tgt := 1162) (off := 1129) hx hb dL_law_33 (by decide) (by decide) (by decide) (by decide) ?_
      exact law_c31 hL C0 hX hb0 hI i hi σ hR H locs ls hP hS hl next
    by_cases c32 : v = 32
    · refine lv_as (y := 32) c32 ?_
      refine lv_tableIn (tgt := 1205) (off := 1172) hx hb dL_law_33 (by decide) (by decide) (by decide) (by decide) ?_
      exact law_c32 hL C0 hX hb0 hI i hi σ hR H locs ls hP hS hl next
    by_cases c33 : v = 33
    · refine lv_as (y := 33) c33 ?_
      refine lv_tableIn (tgt := 1268) (off := 1235) hx hb dL_law_33 (by decide) (by decide) (by decide) (by decide) ?_
      exact law_c33 hL C0 hX hb0 hI i hi σ hR H locs ls hP hS hl next
    by_cases c34 : v = 34
    · refine lv_as (y := 34) c34 ?_
      refine lv_tableIn (tgt := 1291) (off := 1258) hx hb dL_law_33 (by decide) (by decide) (by decide) (by decide) ?_
      exact law_c34 hL C0 hX hb0 hI i hi σ hR H locs ls hP hS hl next
    by_cases c35 : v = 35
    · refine lv_as (y := 35) c35 ?_
      refine lv_tableIn (tgt := 1314) (off := 1281) hx hb dL_law_33 (by decide) (by decide) (by decide) (by decide) ?_
      exact law_c35 hL C0 hX hb0 hI i hi σ hR H locs ls hP hS hl next
    by_cases c36 : v = 36
    · refine lv_as (y := 36) c36 ?_
      refine lv_tableIn (tgt := 1327) (off := 1294) hx hb dL_law_33 (by decide) (by decide) (by decide) (by decide) ?_
      exact law_c36 hL C0 hX hb0 hI i hi σ hR H locs ls hP hS hl next
    by_cases c37 : v = 37
    · refine lv_as (y := 37) c37 ?_
      refine lv_tableIn (tgt := 1340) (off := 1307) hx hb dL_law_33 (by decide) (by decide) (by decide) (by decide) ?_
      exact law_c37 hL C0 hX hb0 hI i hi σ hR H locs ls hP hS hl next
    by_cases c38 : v = 38
    · refine lv_as (y := 38) c38 ?_
      refine lv_tableIn (tgt := 1353) (off := 1320) hx hb dL_law_33 (by decide) (by decide) (by decide) (by decide) ?_
      exact law_c38 hL C0 hX hb0 hI i hi σ hR H locs ls hP hS hl next
    by_cases c39 : v = 39
    · refine lv_as (y := 39) c39 ?_
      refine lv_tableIn (tgt := 1376) (off := 1343) hx hb dL_law_33 (by decide) (by decide) (by decide) (by decide) ?_
      exact law_c39 hL C0 hX hb0 hI i hi σ hR H locs ls hP hS hl next
    have n0 := lv_neT (a := 0) c0 (by decide)
    have n1 := lv_neT (a := 1) c1 (by decide)
    have n2 := lv_neT (a := 2) c2 (by decide)
    have n3 := lv_neT (a := 3) c3 (by decide)
    have n4 := lv_neT (a := 4) c4 (by decide)
    have n5 := lv_neT (a := 5) c5 (by decide)
    have n6 := lv_neT (a := 6) c6 (by decide)
    have n7 := lv_neT (a := 7) c7 (by decide)
    have n8 := lv_neT (a := 8) c8 (by decide)
    have n9 := lv_neT (a := 9) c9 (by decide)
    have n10 := lv_neT (a := 10) c10 (by decide)
    have n11 := lv_neT (a := 11) c11 (by decide)
    have n12 := lv_neT (a := 12) c12 (by decide)
    have n13 := lv_neT (a := 13) c13 (by decide)
    have n14 := lv_neT (a := 14) c14 (by decide)
    have n15 := lv_neT (a := 15) c15 (by decide)
    have n16 := lv_neT (a := 16) c16 (by decide)
    have n17 := lv_neT (a := 17) c17 (by decide)
    have n18 := lv_neT (a := 18) c18 (by decide)
    have n19 := lv_neT (a := 19) c19 (by decide)
    have n20 := lv_neT (a := 20) c20 (by decide)
    have n21 := lv_neT (a := 21) c21 (by decide)
    have n22 := lv_neT (a := 22) c22 (by decide)
    have n23 := lv_neT (a := 23) c23 (by decide)
    have n24 := lv_neT (a := 24) c24 (by decide)
    have n25 := lv_neT (a := 25) c25 (by decide)
    have n26 := lv_neT (a := 26) c26 (by decide)
    have n27 := lv_neT (a := 27) c27 (by decide)
    have n28 := lv_neT (a := 28) c28 (by decide)
    have n29 := lv_neT (a := 29) c29 (by decide)
    have n30 := lv_neT (a := 30) c30 (by decide)
    have n31 := lv_neT (a := 31) c31 (by decide)
    have n32 := lv_neT (a := 32) c32 (by decide)
    have n33 := lv_neT (a := 33) c33 (by decide)
    have n34 := lv_neT (a := 34) c34 (by decide)
    have n35 := lv_neT (a := 35) c35 (by decide)
    have n36 := lv_neT (a := 36) c36 (by decide)
    have n37 := lv_neT (a := 37) c37 (by decide)
    have n38 := lv_neT (a := 38) c38 (by decide)
    have n39 := lv_neT (a := 39) c39 (by decide)
    refine lv_tableOut (tgt := 1399) hx hb dL_law_33 (by omega) (by decide) ?_
    exact next σ H locs hR hP hS
theorem gl_len (n : Nat) (ad : Nat → Nat) (E : Nat → va_E) : (gl n ad E).length = n := by simp [gl]
set_option maxHeartbeats 4000000 in
set_option maxRecDepth 100000 in
theorem whole_start {p : Program} {e : Env} {s : State} {m : MethodId} {below : List Frame} {meth : Method} {c : Code} (l : Launch) (hflags : l.flags = flags0) {b L : Nat} {xs : Nat → Int32} (hL : L ≤ 3072) (C0 : lw_At p s m meth c b L xs) : W p l e room_1 s m #[Value.ref b] below meth c s.heap [] 0 0 (lw_Z below #[Value.ref b] s) (entryFrame m ([Value.ref b] : List Value).toArray 4) := by
  obtain ⟨hx, hb, hr, hml, hown, hts, hX2, hbl, hlocks, hgv⟩ := id C0
  obtain ⟨G, hY, hb0⟩ := xx_start hts hgv
  have C : CallFix p m c code 4 s #[Value.ref b] Tb RL := ⟨hx, hb, hml, hown, fun w hw => hts w (List.mem_filter.mp hw).1⟩
  have hA : ∀ z : Nat, s.heap.size ≤ z → (fun q : Nat => s.heap.size ≤ q) z := fun _ h => h
  have hAb : ∀ z : Nat, (fun q : Nat => s.heap.size ≤ q) z → G.2.2.1 ≤ z := fun z h => by rw [hb0]; exact h
  have hS : va_S (fun q : Nat => s.heap.size ≤ q) s.heap s.heap [] := va_S.rf
  have hW : wW G.1 (fun q : Nat => s.heap.size ≤ q) [] s.heap := ⟨fun q h => absurd h List.not_mem_nil, List.nodup_nil, fun q h => absurd h List.not_mem_nil⟩
  have hl := lv_entry ([Value.ref b] : List Value) (n := 4) (Nat.le_of_ble_eq_true rfl)
  rw [lg_entry_eq]
  generalize (lg_sl ([Value.ref b] : List Value) ++ List.replicate (4 - (lg_sl ([Value.ref b] : List Value)).length) Slot.unset).toArray = ls at hl ⊢
  have hl : lv_has ls 4 [(0, .ref b)] := hl
  refine n_new (ci := 6) (fs := [.null, .null, .null, .int 0, .null, .null, .null, .null]) C hY hW hS hA inT6 tyX6 tyX6_ok kl_RL_7 kn_RX6 ki_RX6 rfl (lt_cases (lt_cases (lt_cases (lt_cases (lt_cases (lt_cases (lt_cases (lt_cases lt_none rfl) rfl) rfl) rfl) rfl) rfl) rfl) rfl) (Nat.le_of_ble_eq_true rfl) (Nat.le_of_ble_eq_true rfl) dL_law_0 0 (fun q1 H hW hS => ?_)
  refine lv_dup hx hb dL_law_3 rfl ?_
  refine n_after hW hS hA 0 rfl (n_runI (rest := [.ref q1]) kcode_yX6_init ki_RX6 kinst_yX6_init kyd_yX6_init rfl lk_RL_9 C hY hW hS hAb 0 rfl (c_yX6_init l G q1 H.size) ⟨rfl, rfl, by decide, by decide⟩ hl.1 (Nat.le_of_ble_eq_true rfl) ⟨Nat.le_of_ble_eq_true rfl, Nat.le_of_ble_eq_true rfl⟩ dL_law_4) (fun c1 H locs hc_ hW hS => ?_)
  subst hc_
  refine lv_astore_n (lv' := [(1, .ref (c1 44)), (0, .ref b)]) hx hb dL_law_7 rfl hl (by decide) rfl (fun ls hl => ?_)
  refine n_new (ci := 7) (fs := [.null, .null, .null, .null, .int 0, .null, .null, .int 0, .int 0, .int 0, .int 0, .int 0, .long 0, .int 0, .null, .null, .null, .null]) C hY hW hS hA inT7 tyX7 tyX7_ok kl_RL_10 kn_RX7 ki_RX7 rfl (lt_cases (lt_cases (lt_cases (lt_cases (lt_cases (lt_cases (lt_cases (lt_cases (lt_cases (lt_cases (lt_cases (lt_cases (lt_cases (lt_cases (lt_cases (lt_cases (lt_cases (lt_cases lt_none rfl) rfl) rfl) rfl) rfl) rfl) rfl) rfl) rfl) rfl) rfl) rfl) rfl) rfl) rfl) rfl) rfl) rfl) (Nat.le_of_ble_eq_true rfl) (Nat.le_of_ble_eq_true rfl) dL_law_8 0 (fun q2 H hW hS => ?_)
  refine lv_dup hx hb dL_law_11 rfl ?_
  refine n_after hW hS hA 0 rfl (n_runI (rest := [.ref q2]) kcode_yX7_init ki_RX7 kinst_yX7_init kyd_yX7_init rfl lk_RL_12 C hY hW hS hAb 0 rfl (c_yX7_init l G q2 H.size) ⟨rfl, rfl, by decide, by decide⟩ hl.1 (Nat.le_of_ble_eq_true rfl) ⟨Nat.le_of_ble_eq_true rfl, Nat.le_of_ble_eq_true rfl⟩ dL_law_12) (fun c2 H locs hc_ hW hS => ?_)
  subst hc_
  have hW : wW G.1 (fun q : Nat => s.heap.size ≤ q) (gl 11 c2 (FX7 G c2) ++ (gl 55 c1 (FX6 G c1) ++ [])) H := hW
  refine lv_astore_n (lv' := [(2, .ref (c2 0)), (1, .ref (c1 44)), (0, .ref b)]) hx hb dL_law_15 rfl hl (by decide) rfl (fun ls hl => ?_)
  refine lv_iconst (v := 0) hx hb dL_law_16 (by decide) ?_
  refine lv_istore_n (lv' := [(3, .int (nI 0)), (2, .ref (c2 0)), (1, .ref (c1 44)), (0, .ref b)]) hx hb dL_law_17 rfl hl (by decide) rfl (fun ls hl => ?_)
  refine va_forget (fun q hq => hS.2.2 q hq) ?_
  refine W.widen (k := 600000) (n := 7302250) (Nat.le_of_ble_eq_true rfl) (Nat.le_of_ble_eq_true rfl) ?_
  obtain ⟨ad, had⟩ : ∃ ad : Nat → Nat, ad = fun k => if k < 55 then c1 k else c2 (k - 55) := ⟨_, rfl⟩
  have adX : ∀ k, k < 55 → ad k = c1 k := fun k hk => by rw [had]; exact if_pos hk
  have adM : ∀ k, ad (55 + k) = c2 k := fun k => by rw [had]; show (if 55 + k < 55 then _ else _) = _; rw [if_neg (by omega), Nat.add_sub_cancel_left]
  have hlk : ∀ k, k < 66 → ∃ e1, (gl 11 c2 (FX7 G c2) ++ (gl 55 c1 (FX6 G c1) ++ []))[if k < 55 then 11 + k else k - 55]? = some (ad k, e1) ∧ shEq G.1 e1 (shL G ad k (if k < 55 then sX0 k else sM0 (k - 55))) := by
    intro k hk
    by_cases h : k < 55
    · rw [if_pos h, if_pos h, List.getElem?_append_right (by rw [gl_len]; omega), gl_len, Nat.add_sub_cancel_left, List.append_nil, gl_at h, adX k h]
      refine ⟨_, rfl, ?_⟩
      unfold shL
      rw [if_pos h]
      exact shX_cong (fun j hj => (adX j hj).symm) k h _
    · obtain ⟨j, rfl⟩ : ∃ j, k = 55 + j := ⟨k - 55, by omega⟩
      rw [if_neg h, if_neg h, Nat.add_sub_cancel_left, List.getElem?_append_left (by rw [gl_len]; omega), gl_at (by omega), adM]
      refine ⟨_, rfl, ?_⟩
      unfold shL
      rw [if_neg h, Nat.add_sub_cancel_left]
      show shEq G.1 (shM G c2 j (sM0 j)) _
      rw [shM_cong (ad1 := c2) (ad2 := fun i => ad (55 + i)) (fun q _ => (adM q).symm) j (by omega)]
      exact shEq.rf
  have hI : gI G.2.2.1 66 ad := by
    refine ⟨fun i j hi hj he => ?_, fun k hk => ?_⟩
    · obtain ⟨e1, a1, -⟩ := hlk i hi
      obtain ⟨e2, a2, -⟩ := hlk j hj
      have := hW.ix _ _ _ _ a1 a2 he
      split at this <;> split at this <;> omega
    · obtain ⟨e1, a1, -⟩ := hlk k hk
      exact hAb _ (hW.2.2 _ (List.mem_of_getElem? a1))
  have hP : gP G.1 66 ad (gE (shL G ad) (fun k => if k < 55 then sX0 k else sM0 (k - 55))) H := fun k hk => by
    obtain ⟨e1, a1, a2⟩ := hlk k hk
    exact (a2 _ _).mp (hW.1 _ (List.mem_of_getElem? a1))
  have hS1 : va_S (gA 66 ad) s.heap H [] := ⟨hS.1, fun q h1 _ => hS.2.1 q h1 (Nat.not_le.mpr h1), fun q hq => by cases hq⟩
  have hR : RL2 (fun k => if k < 55 then sX0 k else sM0 (k - 55)) := by
    refine R_cong (fun k hk => ?_) (fun k hk => ?_) R_start
    · show sX0 k = if 0 + k < 55 then sX0 (0 + k) else _
      rw [Nat.zero_add, if_pos hk]
    · show sM0 k = if 55 + k < 55 then _ else sM0 (55 + k - 55)
      rw [if_neg (by omega), Nat.add_sub_cancel_left]
  have hl2 : lv_has ls 4 [(0, .ref b), (1, .ref (ad 44)), (2, .ref (ad 55)), (3, .int (nI 0))] := by
    rw [adX 44 (by decide), show ad 55 = c2 0 from adM 0]
    exact lv_sub hl [3, 2, 1, 0] rfl
  exact law_loop hL C0 hY.1 hb0 hI (L + 1) 0 _ H [] ls (Nat.zero_le _) (by omega) hR hP hS1 hl2
