theorem ln_RX0_17 : Cond.methodLinkNest RX0 17 yX1_init "LeftGloves" ∈ gNest := List.mem_of_getElem? (i := 0) rfl
theorem ln_RX0_22 : Cond.methodLinkNest RX0 22 yX6_sayingOf "LeftGloves" ∈ gNest := List.mem_of_getElem? (i := 1) rfl
theorem ln_RX0_60 : Cond.methodLinkNest RX0 60 yX6_isIn "LeftGloves" ∈ gNest := List.mem_of_getElem? (i := 2) rfl
theorem ln_RX0_89 : Cond.methodLinkNest RX0 89 yX6_roomOf "LeftGloves" ∈ gNest := List.mem_of_getElem? (i := 3) rfl
theorem ln_RX0_92 : Cond.methodLinkNest RX0 92 yX6_topicOf "LeftGloves" ∈ gNest := List.mem_of_getElem? (i := 4) rfl
theorem ln_RX0_49 : Cond.methodLinkNest RX0 49 yX6_isWithin "LeftGloves" ∈ gNest := List.mem_of_getElem? (i := 5) rfl
theorem ln_RX1_11 : Cond.methodLinkNest RX1 11 yX6_isWithin "LeftGloves" ∈ gNest := List.mem_of_getElem? (i := 6) rfl
theorem ln_RX0_114 : Cond.methodLinkNest RX0 114 yX6_loudOf "LeftGloves" ∈ gNest := List.mem_of_getElem? (i := 7) rfl
theorem ln_RX3_19 : Cond.methodLinkNest RX3 19 yX6_isWithin "LeftGloves" ∈ gNest := List.mem_of_getElem? (i := 8) rfl
theorem ln_RX5_51 : Cond.methodLinkNest RX5 51 yX6_isWithin "LeftGloves" ∈ gNest := List.mem_of_getElem? (i := 9) rfl
theorem ln_RX4_63 : Cond.methodLinkNest RX4 63 yX6_sayingOf "LeftGloves" ∈ gNest := List.mem_of_getElem? (i := 10) rfl
theorem ln_RX4_80 : Cond.methodLinkNest RX4 80 yX6_isWithin "LeftGloves" ∈ gNest := List.mem_of_getElem? (i := 11) rfl
theorem ln_RX2_22 : Cond.methodLinkNest RX2 22 yX6_isWithin "LeftGloves" ∈ gNest := List.mem_of_getElem? (i := 12) rfl
def j_max (a : Int32) (b : Int32) : Int32 := if a < b then b else a
def rm_yJ9_max_7cf53 : Room := { frames := 0, cells := 0, slots := 0, locals := 0 }
set_option maxHeartbeats 4000000 in
set_option maxRecDepth 100000 in
theorem c_yJ9_max_7cf53 (l : Launch) (a : Int32) (b : Int32) : gPure l yJ9_max_7cf53 cJ9_max_7cf53 2 (some .int) rm_yJ9_max_7cf53 [.int a, .int b] (j_max a b) := by
  refine g_start [.int a, .int b] (by decide +kernel) (Nat.le_of_ble_eq_true rfl) ?_
  intro p e s m below meth c ls B Z hl
  obtain ⟨C, hr, hlk⟩ := B
  have hx := C.1
  have hb := C.2.1
  have hl : lv_has ls 2 [(0, .int a), (1, .int b)] := hl
  refine lv_iload_n hx hb dJ9_max_7cf53_0 rfl (lv_at hl 0 rfl) ?_
  refine lv_iload_n hx hb dJ9_max_7cf53_1 rfl (lv_at hl 1 rfl) ?_
  refine lv_icmp_lt (tgt := 9) hx hb dJ9_max_7cf53_2 (by decide) (fun c1 => ?_) (fun c1 => ?_)
  · refine lv_iload_n hx hb dJ9_max_7cf53_9 rfl (lv_at hl 1 rfl) ?_
    exact g_iret C hr hlk rfl (by rw [j_max, if_pos c1]) rfl rfl dJ9_max_7cf53_10
  · refine lv_iload_n hx hb dJ9_max_7cf53_5 rfl (lv_at hl 0 rfl) ?_
    refine lv_goto (tgt := 10) hx hb dJ9_max_7cf53_6 (by decide) ?_
    exact g_iret C hr hlk rfl (by rw [j_max, if_neg c1]) rfl rfl dJ9_max_7cf53_10

def j_min (a : Int32) (b : Int32) : Int32 := if b < a then b else a
def rm_yJ9_min_7cf53 : Room := { frames := 0, cells := 0, slots := 0, locals := 0 }
set_option maxHeartbeats 4000000 in
set_option maxRecDepth 100000 in
theorem c_yJ9_min_7cf53 (l : Launch) (a : Int32) (b : Int32) : gPure l yJ9_min_7cf53 cJ9_min_7cf53 2 (some .int) rm_yJ9_min_7cf53 [.int a, .int b] (j_min a b) := by
  refine g_start [.int a, .int b] (by decide +kernel) (Nat.le_of_ble_eq_true rfl) ?_
  intro p e s m below meth c ls B Z hl
  obtain ⟨C, hr, hlk⟩ := B
  have hx := C.1
  have hb := C.2.1
  have hl : lv_has ls 2 [(0, .int a), (1, .int b)] := hl
  refine lv_iload_n hx hb dJ9_min_7cf53_0 rfl (lv_at hl 0 rfl) ?_
  refine lv_iload_n hx hb dJ9_min_7cf53_1 rfl (lv_at hl 1 rfl) ?_
  refine lv_icmp_gt (tgt := 9) hx hb dJ9_min_7cf53_2 (by decide) (fun c1 => ?_) (fun c1 => ?_)
  · refine lv_iload_n hx hb dJ9_min_7cf53_9 rfl (lv_at hl 1 rfl) ?_
    exact g_iret C hr hlk rfl (by rw [j_min, if_pos c1]) rfl rfl dJ9_min_7cf53_10
  · refine lv_iload_n hx hb dJ9_min_7cf53_5 rfl (lv_at hl 0 rfl) ?_
    refine lv_goto (tgt := 10) hx hb dJ9_min_7cf53_6 (by decide) ?_
    exact g_iret C hr hlk rfl (by rw [j_min, if_neg c1]) rfl rfl dJ9_min_7cf53_10

def j_floorMod (a : Int32) (b : Int32) : Int32 := if 0 ≤ (a ^^^ b) then (jrem a b) else (if (jrem a b) = 0 then (jrem a b) else ((jrem a b) + b))
def rm_yJ9_floorMod_7cf53 : Room := { frames := 0, cells := 0, slots := 0, locals := 0 }
set_option maxHeartbeats 4000000 in
set_option maxRecDepth 100000 in
theorem c_yJ9_floorMod_7cf53 (l : Launch) (a : Int32) (b : Int32) (hb0 : ¬ b = 0) : gPure l yJ9_floorMod_7cf53 cJ9_floorMod_7cf53 3 (some .int) rm_yJ9_floorMod_7cf53 [.int a, .int b] (j_floorMod a b) := by
  refine g_start [.int a, .int b] (by decide +kernel) (Nat.le_of_ble_eq_true rfl) ?_
  intro p e s m below meth c ls B Z hl
  obtain ⟨C, hr, hlk⟩ := B
  have hx := C.1
  have hb := C.2.1
  have hl : lv_has ls 3 [(0, .int a), (1, .int b)] := hl
  refine lv_iload_n hx hb dJ9_floorMod_7cf53_0 rfl (lv_at hl 0 rfl) ?_
  refine lv_iload_n hx hb dJ9_floorMod_7cf53_1 rfl (lv_at hl 1 rfl) ?_
  refine g_irem hx hb dJ9_floorMod_7cf53_2 hb0 ?_
  refine lv_istore_n (lv' := [(2, .int (jrem a b)), (0, .int a), (1, .int b)]) hx hb dJ9_floorMod_7cf53_3 rfl hl (by decide) rfl (fun ls hl => ?_)
  refine lv_iload_n hx hb dJ9_floorMod_7cf53_4 rfl (lv_at hl 1 rfl) ?_
  refine lv_iload_n hx hb dJ9_floorMod_7cf53_5 rfl (lv_at hl 2 rfl) ?_
  refine lv_ixor hx hb dJ9_floorMod_7cf53_6 ?_
  refine lv_if_ge (tgt := 18) hx hb dJ9_floorMod_7cf53_7 (by decide) (fun c1 => ?_) (fun c1 => ?_)
  · refine lv_iload_n hx hb dJ9_floorMod_7cf53_18 rfl (lv_at hl 0 rfl) ?_
    exact g_iret C hr hlk rfl (by rw [j_floorMod, if_pos c1]) rfl rfl dJ9_floorMod_7cf53_19
  · refine lv_iload_n hx hb dJ9_floorMod_7cf53_10 rfl (lv_at hl 0 rfl) ?_
    refine lv_if_eq (tgt := 18) hx hb dJ9_floorMod_7cf53_11 (by decide) (fun c2 => ?_) (fun c2 => ?_)
    · refine lv_iload_n hx hb dJ9_floorMod_7cf53_18 rfl (lv_at hl 0 rfl) ?_
      exact g_iret C hr hlk rfl (by rw [j_floorMod, if_neg c1, if_pos c2]) rfl rfl dJ9_floorMod_7cf53_19
    · refine lv_iload_n hx hb dJ9_floorMod_7cf53_14 rfl (lv_at hl 0 rfl) ?_
      refine lv_iload_n hx hb dJ9_floorMod_7cf53_15 rfl (lv_at hl 2 rfl) ?_
      refine lv_iadd hx hb dJ9_floorMod_7cf53_16 ?_
      exact g_iret C hr hlk rfl (by rw [j_floorMod, if_neg c1, if_neg c2]) rfl rfl dJ9_floorMod_7cf53_17

def j_bitCount (a : Int32) : Int32 := ((((((((a - ((jushr a 1) &&& 1431655765)) &&& 858993459) + ((jushr (a - ((jushr a 1) &&& 1431655765)) 2) &&& 858993459)) + (jushr (((a - ((jushr a 1) &&& 1431655765)) &&& 858993459) + ((jushr (a - ((jushr a 1) &&& 1431655765)) 2) &&& 858993459)) 4)) &&& 252645135) + (jushr (((((a - ((jushr a 1) &&& 1431655765)) &&& 858993459) + ((jushr (a - ((jushr a 1) &&& 1431655765)) 2) &&& 858993459)) + (jushr (((a - ((jushr a 1) &&& 1431655765)) &&& 858993459) + ((jushr (a - ((jushr a 1) &&& 1431655765)) 2) &&& 858993459)) 4)) &&& 252645135) 8)) + (jushr ((((((a - ((jushr a 1) &&& 1431655765)) &&& 858993459) + ((jushr (a - ((jushr a 1) &&& 1431655765)) 2) &&& 858993459)) + (jushr (((a - ((jushr a 1) &&& 1431655765)) &&& 858993459) + ((jushr (a - ((jushr a 1) &&& 1431655765)) 2) &&& 858993459)) 4)) &&& 252645135) + (jushr (((((a - ((jushr a 1) &&& 1431655765)) &&& 858993459) + ((jushr (a - ((jushr a 1) &&& 1431655765)) 2) &&& 858993459)) + (jushr (((a - ((jushr a 1) &&& 1431655765)) &&& 858993459) + ((jushr (a - ((jushr a 1) &&& 1431655765)) 2) &&& 858993459)) 4)) &&& 252645135) 8)) 16)) &&& 63)
def rm_yJ6_bitCount_0f7a4 : Room := { frames := 0, cells := 0, slots := 0, locals := 0 }
set_option maxHeartbeats 4000000 in
set_option maxRecDepth 100000 in
theorem c_yJ6_bitCount_0f7a4 (l : Launch) (a : Int32) : gPure l yJ6_bitCount_0f7a4 cJ6_bitCount_0f7a4 1 (some .int) rm_yJ6_bitCount_0f7a4 [.int a] (j_bitCount a) := by
  refine g_start [.int a] (by decide +kernel) (Nat.le_of_ble_eq_true rfl) ?_
  intro p e s m below meth c ls B Z hl
  obtain ⟨C, hr, hlk⟩ := B
  have hx := C.1
  have hb := C.2.1
  have hl : lv_has ls 1 [(0, .int a)] := hl
  refine lv_iload_n hx hb dJ6_bitCount_0f7a4_0 rfl (lv_at hl 0 rfl) ?_
  refine lv_iload_n hx hb dJ6_bitCount_0f7a4_1 rfl (lv_at hl 0 rfl) ?_
  refine lv_iconst (v := 1) hx hb dJ6_bitCount_0f7a4_2 (by decide) ?_
  refine g_iushr hx hb dJ6_bitCount_0f7a4_3 ?_
  refine lv_ldcw hx hb C.2.2.2.1 (C.2.2.2.2 _ kc_RJ6_265) dJ6_bitCount_0f7a4_4 ?_
  refine lv_iand hx hb dJ6_bitCount_0f7a4_7 ?_
  refine lv_isub hx hb dJ6_bitCount_0f7a4_8 ?_
  refine lv_istore_n (lv' := [(0, .int (a - ((jushr a 1) &&& 1431655765)))]) hx hb dJ6_bitCount_0f7a4_9 rfl hl (by decide) rfl (fun ls hl => ?_)
  refine lv_iload_n hx hb dJ6_bitCount_0f7a4_10 rfl (lv_at hl 0 rfl) ?_
  refine lv_ldcw hx hb C.2.2.2.1 (C.2.2.2.2 _ kc_RJ6_266) dJ6_bitCount_0f7a4_11 ?_
  refine lv_iand hx hb dJ6_bitCount_0f7a4_14 ?_
  refine lv_iload_n hx hb dJ6_bitCount_0f7a4_15 rfl (lv_at hl 0 rfl) ?_
  refine lv_iconst (v := 2) hx hb dJ6_bitCount_0f7a4_16 (by decide) ?_
  refine g_iushr hx hb dJ6_bitCount_0f7a4_17 ?_
  refine lv_ldcw hx hb C.2.2.2.1 (C.2.2.2.2 _ kc_RJ6_266) dJ6_bitCount_0f7a4_18 ?_
  refine lv_iand hx hb dJ6_bitCount_0f7a4_21 ?_
  refine lv_iadd hx hb dJ6_bitCount_0f7a4_22 ?_
  refine lv_istore_n (lv' := [(0, .int (((a - ((jushr a 1) &&& 1431655765)) &&& 858993459) + ((jushr (a - ((jushr a 1) &&& 1431655765)) 2) &&& 858993459)))]) hx hb dJ6_bitCount_0f7a4_23 rfl hl (by decide) rfl (fun ls hl => ?_)
  refine lv_iload_n hx hb dJ6_bitCount_0f7a4_24 rfl (lv_at hl 0 rfl) ?_
  refine lv_iload_n hx hb dJ6_bitCount_0f7a4_25 rfl (lv_at hl 0 rfl) ?_
  refine lv_iconst (v := 4) hx hb dJ6_bitCount_0f7a4_26 (by decide) ?_
  refine g_iushr hx hb dJ6_bitCount_0f7a4_27 ?_
  refine lv_iadd hx hb dJ6_bitCount_0f7a4_28 ?_
  refine lv_ldcw hx hb C.2.2.2.1 (C.2.2.2.2 _ kc_RJ6_267) dJ6_bitCount_0f7a4_29 ?_
  refine lv_iand hx hb dJ6_bitCount_0f7a4_32 ?_
  refine lv_istore_n (lv' := [(0, .int (((((a - ((jushr a 1) &&& 1431655765)) &&& 858993459) + ((jushr (a - ((jushr a 1) &&& 1431655765)) 2) &&& 858993459)) + (jushr (((a - ((jushr a 1) &&& 1431655765)) &&& 858993459) + ((jushr (a - ((jushr a 1) &&& 1431655765)) 2) &&& 858993459)) 4)) &&& 252645135))]) hx hb dJ6_bitCount_0f7a4_33 rfl hl (by decide) rfl (fun ls hl => ?_)
  refine lv_iload_n hx hb dJ6_bitCount_0f7a4_34 rfl (lv_at hl 0 rfl) ?_
  refine lv_iload_n hx hb dJ6_bitCount_0f7a4_35 rfl (lv_at hl 0 rfl) ?_
  refine lv_bipush (v := 8) hx hb dJ6_bitCount_0f7a4_36 (by decide) ?_
  refine g_iushr hx hb dJ6_bitCount_0f7a4_38 ?_
  refine lv_iadd hx hb dJ6_bitCount_0f7a4_39 ?_
  refine lv_istore_n (lv' := [(0, .int ((((((a - ((jushr a 1) &&& 1431655765)) &&& 858993459) + ((jushr (a - ((jushr a 1) &&& 1431655765)) 2) &&& 858993459)) + (jushr (((a - ((jushr a 1) &&& 1431655765)) &&& 858993459) + ((jushr (a - ((jushr a 1) &&& 1431655765)) 2) &&& 858993459)) 4)) &&& 252645135) + (jushr (((((a - ((jushr a 1) &&& 1431655765)) &&& 858993459) + ((jushr (a - ((jushr a 1) &&& 1431655765)) 2) &&& 858993459)) + (jushr (((a - ((jushr a 1) &&& 1431655765)) &&& 858993459) + ((jushr (a - ((jushr a 1) &&& 1431655765)) 2) &&& 858993459)) 4)) &&& 252645135) 8)))]) hx hb dJ6_bitCount_0f7a4_40 rfl hl (by decide) rfl (fun ls hl => ?_)
  refine lv_iload_n hx hb dJ6_bitCount_0f7a4_41 rfl (lv_at hl 0 rfl) ?_
  refine lv_iload_n hx hb dJ6_bitCount_0f7a4_42 rfl (lv_at hl 0 rfl) ?_
  refine lv_bipush (v := 16) hx hb dJ6_bitCount_0f7a4_43 (by decide) ?_
  refine g_iushr hx hb dJ6_bitCount_0f7a4_45 ?_
  refine lv_iadd hx hb dJ6_bitCount_0f7a4_46 ?_
  refine lv_istore_n (lv' := [(0, .int (((((((a - ((jushr a 1) &&& 1431655765)) &&& 858993459) + ((jushr (a - ((jushr a 1) &&& 1431655765)) 2) &&& 858993459)) + (jushr (((a - ((jushr a 1) &&& 1431655765)) &&& 858993459) + ((jushr (a - ((jushr a 1) &&& 1431655765)) 2) &&& 858993459)) 4)) &&& 252645135) + (jushr (((((a - ((jushr a 1) &&& 1431655765)) &&& 858993459) + ((jushr (a - ((jushr a 1) &&& 1431655765)) 2) &&& 858993459)) + (jushr (((a - ((jushr a 1) &&& 1431655765)) &&& 858993459) + ((jushr (a - ((jushr a 1) &&& 1431655765)) 2) &&& 858993459)) 4)) &&& 252645135) 8)) + (jushr ((((((a - ((jushr a 1) &&& 1431655765)) &&& 858993459) + ((jushr (a - ((jushr a 1) &&& 1431655765)) 2) &&& 858993459)) + (jushr (((a - ((jushr a 1) &&& 1431655765)) &&& 858993459) + ((jushr (a - ((jushr a 1) &&& 1431655765)) 2) &&& 858993459)) 4)) &&& 252645135) + (jushr (((((a - ((jushr a 1) &&& 1431655765)) &&& 858993459) + ((jushr (a - ((jushr a 1) &&& 1431655765)) 2) &&& 858993459)) + (jushr (((a - ((jushr a 1) &&& 1431655765)) &&& 858993459) + ((jushr (a - ((jushr a 1) &&& 1431655765)) 2) &&& 858993459)) 4)) &&& 252645135) 8)) 16)))]) hx hb dJ6_bitCount_0f7a4_47 rfl hl (by decide) rfl (fun ls hl => ?_)
  refine lv_iload_n hx hb dJ6_bitCount_0f7a4_48 rfl (lv_at hl 0 rfl) ?_
  refine lv_bipush (v := 63) hx hb dJ6_bitCount_0f7a4_49 (by decide) ?_
  refine lv_iand hx hb dJ6_bitCount_0f7a4_51 ?_
  exact g_iret C hr hlk rfl (by rw [j_bitCount]) rfl rfl dJ6_bitCount_0f7a4_52

def x_isWithin (v : Int32) (most : Int32) : Int32 := if v < 0 then 0 else (if most < v then 0 else 1)
def rm_yX6_isWithin : Room := { frames := 0, cells := 0, slots := 0, locals := 0 }
set_option maxHeartbeats 4000000 in
set_option maxRecDepth 100000 in
theorem c_yX6_isWithin (l : Launch) (v : Int32) (most : Int32) : gPure l yX6_isWithin cX6_isWithin 2 (some .boolean) rm_yX6_isWithin [.int v, .int most] (x_isWithin v most) := by
  refine g_start [.int v, .int most] (by decide +kernel) (Nat.le_of_ble_eq_true rfl) ?_
  intro p e s m below meth c ls B Z hl
  obtain ⟨C, hr, hlk⟩ := B
  have hx := C.1
  have hb := C.2.1
  have hl : lv_has ls 2 [(0, .int v), (1, .int most)] := hl
  refine lv_iload_n hx hb dX6_isWithin_0 rfl (lv_at hl 0 rfl) ?_
  refine lv_if_lt (tgt := 13) hx hb dX6_isWithin_1 (by decide) (fun c1 => ?_) (fun c1 => ?_)
  · refine lv_iconst (v := 0) hx hb dX6_isWithin_13 (by decide) ?_
    exact g_iret C hr hlk rfl (by rw [x_isWithin, if_pos c1]) rfl rfl dX6_isWithin_14
  · refine lv_iload_n hx hb dX6_isWithin_4 rfl (lv_at hl 0 rfl) ?_
    refine lv_iload_n hx hb dX6_isWithin_5 rfl (lv_at hl 1 rfl) ?_
    refine lv_icmp_gt (tgt := 13) hx hb dX6_isWithin_6 (by decide) (fun c2 => ?_) (fun c2 => ?_)
    · refine lv_iconst (v := 0) hx hb dX6_isWithin_13 (by decide) ?_
      exact g_iret C hr hlk rfl (by rw [x_isWithin, if_neg c1, if_pos c2]) rfl rfl dX6_isWithin_14
    · refine lv_iconst (v := 1) hx hb dX6_isWithin_9 (by decide) ?_
      refine lv_goto (tgt := 14) hx hb dX6_isWithin_10 (by decide) ?_
      exact g_iret C hr hlk rfl (by rw [x_isWithin, if_neg c1, if_neg c2]) rfl rfl dX6_isWithin_14

def x_isIn (member : Int32) (set : Int32) : Int32 := if ((jshr set member) &&& 1) = 1 then 1 else 0
def rm_yX6_isIn : Room := { frames := 0, cells := 0, slots := 0, locals := 0 }
set_option maxHeartbeats 4000000 in
set_option maxRecDepth 100000 in
theorem c_yX6_isIn (l : Launch) (member : Int32) (set : Int32) : gPure l yX6_isIn cX6_isIn 2 (some .boolean) rm_yX6_isIn [.int member, .int set] (x_isIn member set) := by
  refine g_start [.int member, .int set] (by decide +kernel) (Nat.le_of_ble_eq_true rfl) ?_
  intro p e s m below meth c ls B Z hl
  obtain ⟨C, hr, hlk⟩ := B
  have hx := C.1
  have hb := C.2.1
  have hl : lv_has ls 2 [(0, .int member), (1, .int set)] := hl
  refine lv_iload_n hx hb dX6_isIn_0 rfl (lv_at hl 1 rfl) ?_
  refine lv_iload_n hx hb dX6_isIn_1 rfl (lv_at hl 0 rfl) ?_
  refine g_ishr hx hb dX6_isIn_2 ?_
  refine lv_iconst (v := 1) hx hb dX6_isIn_3 (by decide) ?_
  refine lv_iand hx hb dX6_isIn_4 ?_
  refine lv_iconst (v := 1) hx hb dX6_isIn_5 (by decide) ?_
  refine lv_icmp_ne (tgt := 13) hx hb dX6_isIn_6 (by decide) (fun c1 => ?_) (fun c1 => ?_)
  · refine lv_iconst (v := 0) hx hb dX6_isIn_13 (by decide) ?_
    exact g_iret C hr hlk rfl (by rw [x_isIn, if_neg c1]) rfl rfl dX6_isIn_14
  · refine lv_iconst (v := 1) hx hb dX6_isIn_9 (by decide) ?_
    refine lv_goto (tgt := 14) hx hb dX6_isIn_10 (by decide) ?_
    exact g_iret C hr hlk rfl (by rw [x_isIn, if_pos c1]) rfl rfl dX6_isIn_14

def x_roomOf (saying : Int32) : Int32 := (saying / 1000)
def rm_yX6_roomOf : Room := { frames := 0, cells := 0, slots := 0, locals := 0 }
set_option maxHeartbeats 4000000 in
set_option maxRecDepth 100000 in
theorem c_yX6_roomOf (l : Launch) (saying : Int32) : gPure l yX6_roomOf cX6_roomOf 1 (some .int) rm_yX6_roomOf [.int saying] (x_roomOf saying) := by
  refine g_start [.int saying] (by decide +kernel) (Nat.le_of_ble_eq_true rfl) ?_
  intro p e s m below meth c ls B Z hl
  obtain ⟨C, hr, hlk⟩ := B
  have hx := C.1
  have hb := C.2.1
  have hl : lv_has ls 1 [(0, .int saying)] := hl
  refine lv_iload_n hx hb dX6_roomOf_0 rfl (lv_at hl 0 rfl) ?_
  refine lv_sipush (v := 1000) hx hb dX6_roomOf_1 (by decide) ?_
  refine lv_idiv hx hb dX6_roomOf_4 (by decide) ?_
  exact g_iret C hr hlk rfl (by rw [x_roomOf]) rfl rfl dX6_roomOf_5

def x_topicOf (saying : Int32) : Int32 := ((jrem saying 1000) / 10)
def rm_yX6_topicOf : Room := { frames := 0, cells := 0, slots := 0, locals := 0 }
set_option maxHeartbeats 4000000 in
set_option maxRecDepth 100000 in
theorem c_yX6_topicOf (l : Launch) (saying : Int32) : gPure l yX6_topicOf cX6_topicOf 1 (some .int) rm_yX6_topicOf [.int saying] (x_topicOf saying) := by
  refine g_start [.int saying] (by decide +kernel) (Nat.le_of_ble_eq_true rfl) ?_
  intro p e s m below meth c ls B Z hl
  obtain ⟨C, hr, hlk⟩ := B
  have hx := C.1
  have hb := C.2.1
  have hl : lv_has ls 1 [(0, .int saying)] := hl
  refine lv_iload_n hx hb dX6_topicOf_0 rfl (lv_at hl 0 rfl) ?_
  refine lv_sipush (v := 1000) hx hb dX6_topicOf_1 (by decide) ?_
  refine g_irem hx hb dX6_topicOf_4 (by decide) ?_
  refine lv_bipush (v := 10) hx hb dX6_topicOf_5 (by decide) ?_
  refine lv_idiv hx hb dX6_topicOf_7 (by decide) ?_
  exact g_iret C hr hlk rfl (by rw [x_topicOf]) rfl rfl dX6_topicOf_8

def x_loudOf (saying : Int32) : Int32 := (jrem saying 10)
def rm_yX6_loudOf : Room := { frames := 0, cells := 0, slots := 0, locals := 0 }
set_option maxHeartbeats 4000000 in
set_option maxRecDepth 100000 in
theorem c_yX6_loudOf (l : Launch) (saying : Int32) : gPure l yX6_loudOf cX6_loudOf 1 (some .int) rm_yX6_loudOf [.int saying] (x_loudOf saying) := by
  refine g_start [.int saying] (by decide +kernel) (Nat.le_of_ble_eq_true rfl) ?_
  intro p e s m below meth c ls B Z hl
  obtain ⟨C, hr, hlk⟩ := B
  have hx := C.1
  have hb := C.2.1
  have hl : lv_has ls 1 [(0, .int saying)] := hl
  refine lv_iload_n hx hb dX6_loudOf_0 rfl (lv_at hl 0 rfl) ?_
  refine lv_bipush (v := 10) hx hb dX6_loudOf_1 (by decide) ?_
  refine g_irem hx hb dX6_loudOf_3 (by decide) ?_
  exact g_iret C hr hlk rfl (by rw [x_loudOf]) rfl rfl dX6_loudOf_4

def x_sayingOf (room : Int32) (topic : Int32) (loud : Int32) : Int32 := (((1000 * room) + (10 * topic)) + loud)
def rm_yX6_sayingOf : Room := { frames := 0, cells := 0, slots := 0, locals := 0 }
set_option maxHeartbeats 4000000 in
set_option maxRecDepth 100000 in
theorem c_yX6_sayingOf (l : Launch) (room : Int32) (topic : Int32) (loud : Int32) : gPure l yX6_sayingOf cX6_sayingOf 3 (some .int) rm_yX6_sayingOf [.int room, .int topic, .int loud] (x_sayingOf room topic loud) := by
  refine g_start [.int room, .int topic, .int loud] (by decide +kernel) (Nat.le_of_ble_eq_true rfl) ?_
  intro p e s m below meth c ls B Z hl
  obtain ⟨C, hr, hlk⟩ := B
  have hx := C.1
  have hb := C.2.1
  have hl : lv_has ls 3 [(0, .int room), (1, .int topic), (2, .int loud)] := hl
  refine lv_sipush (v := 1000) hx hb dX6_sayingOf_0 (by decide) ?_
  refine lv_iload_n hx hb dX6_sayingOf_3 rfl (lv_at hl 0 rfl) ?_
  refine lv_imul hx hb dX6_sayingOf_4 ?_
  refine lv_bipush (v := 10) hx hb dX6_sayingOf_5 (by decide) ?_
  refine lv_iload_n hx hb dX6_sayingOf_7 rfl (lv_at hl 1 rfl) ?_
  refine lv_imul hx hb dX6_sayingOf_8 ?_
  refine lv_iadd hx hb dX6_sayingOf_9 ?_
  refine lv_iload_n hx hb dX6_sayingOf_10 rfl (lv_at hl 2 rfl) ?_
  refine lv_iadd hx hb dX6_sayingOf_11 ?_
  exact g_iret C hr hlk rfl (by rw [x_sayingOf]) rfl rfl dX6_sayingOf_12

def x_isSaying (number : Int32) : Int32 := if (x_isWithin (x_roomOf number) 5) = 0 then 0 else (if (x_isWithin (jrem number 1000) 159) = 0 then 0 else 1)
def rm_yX6_isSaying : Room := { frames := 1, cells := 0, slots := 0, locals := 21 }
set_option maxHeartbeats 4000000 in
set_option maxRecDepth 100000 in
theorem c_yX6_isSaying (l : Launch) (number : Int32) : gPure l yX6_isSaying cX6_isSaying 1 (some .boolean) rm_yX6_isSaying [.int number] (x_isSaying number) := by
  refine g_start [.int number] (by decide +kernel) (Nat.le_of_ble_eq_true rfl) ?_
  intro p e s m below meth c ls B Z hl
  obtain ⟨C, hr, hlk⟩ := B
  have hx := C.1
  have hb := C.2.1
  have hl : lv_has ls 1 [(0, .int number)] := hl
  refine lv_iload_n hx hb dX6_isSaying_0 rfl (lv_at hl 0 rfl) ?_
  refine g_rd (g_runS (As := [.int number]) (rest := []) ky_yX6_roomOf lk_RX6_281 C (c_yX6_roomOf l number) ⟨rfl, rfl, by decide, by decide⟩ rfl hl.1 rfl (Nat.le_of_ble_eq_true rfl) ⟨Nat.zero_le _, Nat.zero_le _⟩ dX6_isSaying_1) ?_
  refine lv_iconst (v := 5) hx hb dX6_isSaying_4 (by decide) ?_
  refine g_rd (g_runS (As := [.int (x_roomOf number), .int 5]) (rest := []) ky_yX6_isWithin lk_RX6_51 C (c_yX6_isWithin l (x_roomOf number) 5) ⟨rfl, rfl, by decide, by decide⟩ rfl hl.1 rfl (Nat.le_of_ble_eq_true rfl) ⟨Nat.zero_le _, Nat.zero_le _⟩ dX6_isSaying_5) ?_
  refine lv_if_eq (tgt := 29) hx hb dX6_isSaying_8 (by decide) (fun c1 => ?_) (fun c1 => ?_)
  · refine lv_iconst (v := 0) hx hb dX6_isSaying_29 (by decide) ?_
    exact g_iret C hr hlk rfl (by rw [x_isSaying, if_pos c1]) rfl rfl dX6_isSaying_30
  · refine lv_iload_n hx hb dX6_isSaying_11 rfl (lv_at hl 0 rfl) ?_
    refine lv_sipush (v := 1000) hx hb dX6_isSaying_12 (by decide) ?_
    refine g_irem hx hb dX6_isSaying_15 (by decide) ?_
    refine lv_sipush (v := 159) hx hb dX6_isSaying_16 (by decide) ?_
    refine g_rd (g_runS (As := [.int (jrem number 1000), .int 159]) (rest := []) ky_yX6_isWithin lk_RX6_51 C (c_yX6_isWithin l (jrem number 1000) 159) ⟨rfl, rfl, by decide, by decide⟩ rfl hl.1 rfl (Nat.le_of_ble_eq_true rfl) ⟨Nat.zero_le _, Nat.zero_le _⟩ dX6_isSaying_19) ?_
    refine lv_if_eq (tgt := 29) hx hb dX6_isSaying_22 (by decide) (fun c2 => ?_) (fun c2 => ?_)
    · refine lv_iconst (v := 0) hx hb dX6_isSaying_29 (by decide) ?_
      exact g_iret C hr hlk rfl (by rw [x_isSaying, if_neg c1, if_pos c2]) rfl rfl dX6_isSaying_30
    · refine lv_iconst (v := 1) hx hb dX6_isSaying_25 (by decide) ?_
      refine lv_goto (tgt := 30) hx hb dX6_isSaying_26 (by decide) ?_
      exact g_iret C hr hlk rfl (by rw [x_isSaying, if_neg c1, if_neg c2]) rfl rfl dX6_isSaying_30
theorem nb_of {x : Int32} (h : x = 0 ∨ x = 1) : narrow .boolean (.int x) = .int x := by
  rcases h with rfl | rfl <;> rfl
theorem xb_isWithin (v m : Int32) : x_isWithin v m = 0 ∨ x_isWithin v m = 1 := by
  unfold x_isWithin
  split
  · exact Or.inl rfl
  · split
    · exact Or.inl rfl
    · exact Or.inr rfl
def x_isSheet (sn : Int32) : Int32 := (x_isWithin sn 3)
def rm_yX6_isSheet : Room := { frames := 1, cells := 0, slots := 0, locals := 21 }
set_option maxHeartbeats 4000000 in
set_option maxRecDepth 100000 in
theorem c_yX6_isSheet (l : Launch) (sn : Int32) : gPure l yX6_isSheet cX6_isSheet 1 (some .boolean) rm_yX6_isSheet [.int sn] (x_isSheet sn) := by
  refine g_start [.int sn] (by decide +kernel) (Nat.le_of_ble_eq_true rfl) ?_
  intro p e s m below meth c ls B Z hl
  obtain ⟨C, hr, hlk⟩ := B
  have hx := C.1
  have hb := C.2.1
  have hl : lv_has ls 1 [(0, .int sn)] := hl
  refine lv_iload_n hx hb dX6_isSheet_0 rfl (lv_at hl 0 rfl) ?_
  refine lv_iconst (v := 3) hx hb dX6_isSheet_1 (by decide) ?_
  refine g_rd (g_runS (As := [.int sn, .int 3]) (rest := []) ky_yX6_isWithin lk_RX6_51 C (c_yX6_isWithin l sn 3) ⟨rfl, rfl, by decide, by decide⟩ rfl hl.1 rfl (Nat.le_of_ble_eq_true rfl) ⟨Nat.zero_le _, Nat.zero_le _⟩ dX6_isSheet_2) ?_
  exact g_iret C hr hlk (nb_of (xb_isWithin _ _)) (by rw [x_isSheet]) rfl rfl dX6_isSheet_5

def x_canBeAskedAhead (what : Int32) : Int32 := if what = 1 then 1 else (if (x_isWithin what 6) = 0 then 0 else (if what < 3 then 0 else 1))
def rm_yX6_canBeAskedAhead : Room := { frames := 1, cells := 0, slots := 0, locals := 21 }
set_option maxHeartbeats 4000000 in
set_option maxRecDepth 100000 in
theorem c_yX6_canBeAskedAhead (l : Launch) (what : Int32) : gPure l yX6_canBeAskedAhead cX6_canBeAskedAhead 1 (some .boolean) rm_yX6_canBeAskedAhead [.int what] (x_canBeAskedAhead what) := by
  refine g_start [.int what] (by decide +kernel) (Nat.le_of_ble_eq_true rfl) ?_
  intro p e s m below meth c ls B Z hl
  obtain ⟨C, hr, hlk⟩ := B
  have hx := C.1
  have hb := C.2.1
  have hl : lv_has ls 1 [(0, .int what)] := hl
  refine lv_iload_n hx hb dX6_canBeAskedAhead_0 rfl (lv_at hl 0 rfl) ?_
  refine lv_iconst (v := 1) hx hb dX6_canBeAskedAhead_1 (by decide) ?_
  refine lv_icmp_eq (tgt := 19) hx hb dX6_canBeAskedAhead_2 (by decide) (fun c1 => ?_) (fun c1 => ?_)
  · refine lv_iconst (v := 1) hx hb dX6_canBeAskedAhead_19 (by decide) ?_
    refine lv_goto (tgt := 24) hx hb dX6_canBeAskedAhead_20 (by decide) ?_
    exact g_iret C hr hlk rfl (by rw [x_canBeAskedAhead, if_pos c1]) rfl rfl dX6_canBeAskedAhead_24
  · refine lv_iload_n hx hb dX6_canBeAskedAhead_5 rfl (lv_at hl 0 rfl) ?_
    refine lv_bipush (v := 6) hx hb dX6_canBeAskedAhead_6 (by decide) ?_
    refine g_rd (g_runS (As := [.int what, .int 6]) (rest := []) ky_yX6_isWithin lk_RX6_51 C (c_yX6_isWithin l what 6) ⟨rfl, rfl, by decide, by decide⟩ rfl hl.1 rfl (Nat.le_of_ble_eq_true rfl) ⟨Nat.zero_le _, Nat.zero_le _⟩ dX6_canBeAskedAhead_8) ?_
    refine lv_if_eq (tgt := 23) hx hb dX6_canBeAskedAhead_11 (by decide) (fun c2 => ?_) (fun c2 => ?_)
    · refine lv_iconst (v := 0) hx hb dX6_canBeAskedAhead_23 (by decide) ?_
      exact g_iret C hr hlk rfl (by rw [x_canBeAskedAhead, if_neg c1, if_pos c2]) rfl rfl dX6_canBeAskedAhead_24
    · refine lv_iload_n hx hb dX6_canBeAskedAhead_14 rfl (lv_at hl 0 rfl) ?_
      refine lv_iconst (v := 3) hx hb dX6_canBeAskedAhead_15 (by decide) ?_
      refine lv_icmp_lt (tgt := 23) hx hb dX6_canBeAskedAhead_16 (by decide) (fun c3 => ?_) (fun c3 => ?_)
      · refine lv_iconst (v := 0) hx hb dX6_canBeAskedAhead_23 (by decide) ?_
        exact g_iret C hr hlk rfl (by rw [x_canBeAskedAhead, if_neg c1, if_neg c2, if_pos c3]) rfl rfl dX6_canBeAskedAhead_24
      · refine lv_iconst (v := 1) hx hb dX6_canBeAskedAhead_19 (by decide) ?_
        refine lv_goto (tgt := 24) hx hb dX6_canBeAskedAhead_20 (by decide) ?_
        exact g_iret C hr hlk rfl (by rw [x_canBeAskedAhead, if_neg c1, if_neg c2, if_neg c3]) rfl rfl dX6_canBeAskedAhead_24

def x_isFewer (set : Int32) (best : Int32) : Int32 := if best = (-1) then 1 else (if (j_bitCount best) ≤ (j_bitCount set) then 0 else 1)
def rm_yX6_isFewer : Room := { frames := 1, cells := 0, slots := 0, locals := 20 }
set_option maxHeartbeats 4000000 in
set_option maxRecDepth 100000 in
theorem c_yX6_isFewer (l : Launch) (set : Int32) (best : Int32) : gPure l yX6_isFewer cX6_isFewer 2 (some .boolean) rm_yX6_isFewer [.int set, .int best] (x_isFewer set best) := by
  refine g_start [.int set, .int best] (by decide +kernel) (Nat.le_of_ble_eq_true rfl) ?_
  intro p e s m below meth c ls B Z hl
  obtain ⟨C, hr, hlk⟩ := B
  have hx := C.1
  have hb := C.2.1
  have hl : lv_has ls 2 [(0, .int set), (1, .int best)] := hl
  refine lv_iload_n hx hb dX6_isFewer_0 rfl (lv_at hl 1 rfl) ?_
  refine lv_iconst (v := (-1)) hx hb dX6_isFewer_1 (by decide) ?_
  refine lv_icmp_eq (tgt := 16) hx hb dX6_isFewer_2 (by decide) (fun c1 => ?_) (fun c1 => ?_)
  · refine lv_iconst (v := 1) hx hb dX6_isFewer_16 (by decide) ?_
    refine lv_goto (tgt := 21) hx hb dX6_isFewer_17 (by decide) ?_
    exact g_iret C hr hlk rfl (by rw [x_isFewer, if_pos c1]) rfl rfl dX6_isFewer_21
  · refine lv_iload_n hx hb dX6_isFewer_5 rfl (lv_at hl 0 rfl) ?_
    refine g_rd (g_runS (As := [.int set]) (rest := []) ky_yJ6_bitCount_0f7a4 lk_RX6_204 C (c_yJ6_bitCount_0f7a4 l set) ⟨rfl, rfl, by decide, by decide⟩ rfl hl.1 rfl (Nat.le_of_ble_eq_true rfl) ⟨Nat.zero_le _, Nat.zero_le _⟩ dX6_isFewer_6) ?_
    refine lv_iload_n hx hb dX6_isFewer_9 rfl (lv_at hl 1 rfl) ?_
    refine g_rd (g_runS (As := [.int best]) (rest := [.int (j_bitCount set)]) ky_yJ6_bitCount_0f7a4 lk_RX6_204 C (c_yJ6_bitCount_0f7a4 l best) ⟨rfl, rfl, by decide, by decide⟩ rfl hl.1 rfl (Nat.le_of_ble_eq_true rfl) ⟨Nat.zero_le _, Nat.zero_le _⟩ dX6_isFewer_10) ?_
    refine lv_icmp_ge (tgt := 20) hx hb dX6_isFewer_13 (by decide) (fun c2 => ?_) (fun c2 => ?_)
    · refine lv_iconst (v := 0) hx hb dX6_isFewer_20 (by decide) ?_
      exact g_iret C hr hlk rfl (by rw [x_isFewer, if_neg c1, if_pos c2]) rfl rfl dX6_isFewer_21
    · refine lv_iconst (v := 1) hx hb dX6_isFewer_16 (by decide) ?_
      refine lv_goto (tgt := 21) hx hb dX6_isFewer_17 (by decide) ?_
      exact g_iret C hr hlk rfl (by rw [x_isFewer, if_neg c1, if_neg c2]) rfl rfl dX6_isFewer_21
