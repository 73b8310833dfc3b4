theorem ix_of {x y : Int32} {L : Nat} (hL : L < 2 ^ 31) (hy : y = nI L) (h0 : ¬ x < 0) (h : ¬ y ≤ x) : x = nI (nN x) ∧ nN x < L := by
  obtain ⟨j, hj, rfl⟩ := nI_of h0
  rw [nN_nI hj]
  exact ⟨rfl, Nat.not_le.mp (fun q => h (by rw [hy]; exact nI_le q hj))⟩
theorem isW_k {v : Int32} {L : Nat} (hL : L < 2 ^ 30) (h : ¬ x_isWithin v (nI L) = 0) : v = nI (nN v) ∧ nN v < L + 1 := by
  have h2 := isW_of (M := L) (by omega) h
  exact ⟨h2.1, by omega⟩

def x_sortAt5 (σ : gM) (k : Int32) : Int32 := if k < 0 then 17 else (if (σ 0 0) ≤ k then 17 else (σ 1 (nN k)))
def rm_yX5_sortAt : Room := { frames := 0, cells := 0, slots := 0, locals := 0 }
set_option maxHeartbeats 4000000 in
set_option maxRecDepth 100000 in
theorem c_yX5_sortAt (l : Launch) (G : gG) (ad : Nat → Nat) (hI : gI G.2.2.1 7 ad) (σ : gM) (k : Int32) (L : Nat) (hL : L ≤ 121) (hlen : σ 0 0 = nI L) : gRead l yX5_sortAt cX5_sortAt 2 (some .int) rm_yX5_sortAt G [.ref (ad 0), .int k] 7 ad (gE (shK G ad) σ) (x_sortAt5 σ k) := by
  refine g_start [.ref (ad 0), .int k] (by decide +kernel) (Nat.le_of_ble_eq_true rfl) ?_
  intro p e s m below meth c ls B Z hl
  obtain ⟨C, hr, hlk⟩ := B
  have hx := C.1
  have hb := C.2.1
  obtain ⟨hX, hP⟩ := Z
  have hS : va_S (gA 7 ad) s.heap s.heap [] := va_S.rf
  have hl : lv_has ls 2 [(0, .ref (ad 0)), (1, .int k)] := hl
  refine lv_iload_n hx hb dX5_sortAt_0 rfl (lv_at hl 1 rfl) ?_
  refine lv_if_lt (tgt := 21) hx hb dX5_sortAt_1 (by decide) (fun c1 => ?_) (fun c1 => ?_)
  · refine lv_bipush (v := 17) hx hb dX5_sortAt_21 (by decide) ?_
    exact g_iret C hr hlk rfl (by rw [x_sortAt5, if_pos c1]) rfl rfl dX5_sortAt_23
  · refine lv_iload_n hx hb dX5_sortAt_4 rfl (lv_at hl 1 rfl) ?_
    refine lv_aload_n hx hb dX5_sortAt_5 rfl (lv_at hl 0 rfl) ?_
    refine g_get fd_RX5_24 C hX hP 0 (by decide) (shK_0 G ad _) (v := .int (σ 0 0)) rfl dX5_sortAt_6 ?_
    refine lv_icmp_ge (tgt := 21) hx hb dX5_sortAt_9 (by decide) (fun c2 => ?_) (fun c2 => ?_)
    · refine lv_bipush (v := 17) hx hb dX5_sortAt_21 (by decide) ?_
      exact g_iret C hr hlk rfl (by rw [x_sortAt5, if_neg c1, if_pos c2]) rfl rfl dX5_sortAt_23
    · obtain ⟨hk1, hk2⟩ := ix_of (by omega) hlen c1 c2
      refine lv_aload_n hx hb dX5_sortAt_12 rfl (lv_at hl 0 rfl) ?_
      refine g_get fd_RX5_11 C hX hP 0 (by decide) (shK_0 G ad _) (v := .ref (ad 1)) rfl dX5_sortAt_13 ?_
      refine lv_iload_n hx hb dX5_sortAt_16 rfl (lv_at hl 1 rfl) ?_
      refine lv_as (y := (nI (nN k))) hk1 ?_
      refine g_iald C hX hP 1 (by decide) (shK_1 G ad _) (nN k) (by omega) (by decide) dX5_sortAt_17 ?_
      refine lv_goto (tgt := 23) hx hb dX5_sortAt_18 (by decide) ?_
      exact g_iret C hr hlk rfl (by rw [x_sortAt5, if_neg c1, if_neg c2]) rfl rfl dX5_sortAt_23

def x_startAt5 (σ : gM) (k : Int32) : Int32 := if k < 0 then 0 else (if (σ 0 0) ≤ k then 0 else (σ 2 (nN k)))
def rm_yX5_startAt : Room := { frames := 0, cells := 0, slots := 0, locals := 0 }
set_option maxHeartbeats 4000000 in
set_option maxRecDepth 100000 in
theorem c_yX5_startAt (l : Launch) (G : gG) (ad : Nat → Nat) (hI : gI G.2.2.1 7 ad) (σ : gM) (k : Int32) (L : Nat) (hL : L ≤ 121) (hlen : σ 0 0 = nI L) : gRead l yX5_startAt cX5_startAt 2 (some .int) rm_yX5_startAt G [.ref (ad 0), .int k] 7 ad (gE (shK G ad) σ) (x_startAt5 σ k) := by
  refine g_start [.ref (ad 0), .int k] (by decide +kernel) (Nat.le_of_ble_eq_true rfl) ?_
  intro p e s m below meth c ls B Z hl
  obtain ⟨C, hr, hlk⟩ := B
  have hx := C.1
  have hb := C.2.1
  obtain ⟨hX, hP⟩ := Z
  have hS : va_S (gA 7 ad) s.heap s.heap [] := va_S.rf
  have hl : lv_has ls 2 [(0, .ref (ad 0)), (1, .int k)] := hl
  refine lv_iload_n hx hb dX5_startAt_0 rfl (lv_at hl 1 rfl) ?_
  refine lv_if_lt (tgt := 21) hx hb dX5_startAt_1 (by decide) (fun c1 => ?_) (fun c1 => ?_)
  · refine lv_iconst (v := 0) hx hb dX5_startAt_21 (by decide) ?_
    exact g_iret C hr hlk rfl (by rw [x_startAt5, if_pos c1]) rfl rfl dX5_startAt_22
  · refine lv_iload_n hx hb dX5_startAt_4 rfl (lv_at hl 1 rfl) ?_
    refine lv_aload_n hx hb dX5_startAt_5 rfl (lv_at hl 0 rfl) ?_
    refine g_get fd_RX5_24 C hX hP 0 (by decide) (shK_0 G ad _) (v := .int (σ 0 0)) rfl dX5_startAt_6 ?_
    refine lv_icmp_ge (tgt := 21) hx hb dX5_startAt_9 (by decide) (fun c2 => ?_) (fun c2 => ?_)
    · refine lv_iconst (v := 0) hx hb dX5_startAt_21 (by decide) ?_
      exact g_iret C hr hlk rfl (by rw [x_startAt5, if_neg c1, if_pos c2]) rfl rfl dX5_startAt_22
    · obtain ⟨hk1, hk2⟩ := ix_of (by omega) hlen c1 c2
      refine lv_aload_n hx hb dX5_startAt_12 rfl (lv_at hl 0 rfl) ?_
      refine g_get fd_RX5_15 C hX hP 0 (by decide) (shK_0 G ad _) (v := .ref (ad 2)) rfl dX5_startAt_13 ?_
      refine lv_iload_n hx hb dX5_startAt_16 rfl (lv_at hl 1 rfl) ?_
      refine lv_as (y := (nI (nN k))) hk1 ?_
      refine g_iald C hX hP 2 (by decide) (shK_2 G ad _) (nN k) (by omega) (by decide) dX5_startAt_17 ?_
      refine lv_goto (tgt := 22) hx hb dX5_startAt_18 (by decide) ?_
      exact g_iret C hr hlk rfl (by rw [x_startAt5, if_neg c1, if_neg c2]) rfl rfl dX5_startAt_22

def x_numberAt5 (σ : gM) (k : Int32) : Int32 := if k < 0 then 0 else (if (σ 0 0) ≤ k then 0 else (σ 4 (nN k)))
def rm_yX5_numberAt : Room := { frames := 0, cells := 0, slots := 0, locals := 0 }
set_option maxHeartbeats 4000000 in
set_option maxRecDepth 100000 in
theorem c_yX5_numberAt (l : Launch) (G : gG) (ad : Nat → Nat) (hI : gI G.2.2.1 7 ad) (σ : gM) (k : Int32) (L : Nat) (hL : L ≤ 121) (hlen : σ 0 0 = nI L) : gRead l yX5_numberAt cX5_numberAt 2 (some .int) rm_yX5_numberAt G [.ref (ad 0), .int k] 7 ad (gE (shK G ad) σ) (x_numberAt5 σ k) := by
  refine g_start [.ref (ad 0), .int k] (by decide +kernel) (Nat.le_of_ble_eq_true rfl) ?_
  intro p e s m below meth c ls B Z hl
  obtain ⟨C, hr, hlk⟩ := B
  have hx := C.1
  have hb := C.2.1
  obtain ⟨hX, hP⟩ := Z
  have hS : va_S (gA 7 ad) s.heap s.heap [] := va_S.rf
  have hl : lv_has ls 2 [(0, .ref (ad 0)), (1, .int k)] := hl
  refine lv_iload_n hx hb dX5_numberAt_0 rfl (lv_at hl 1 rfl) ?_
  refine lv_if_lt (tgt := 21) hx hb dX5_numberAt_1 (by decide) (fun c1 => ?_) (fun c1 => ?_)
  · refine lv_iconst (v := 0) hx hb dX5_numberAt_21 (by decide) ?_
    exact g_iret C hr hlk rfl (by rw [x_numberAt5, if_pos c1]) rfl rfl dX5_numberAt_22
  · refine lv_iload_n hx hb dX5_numberAt_4 rfl (lv_at hl 1 rfl) ?_
    refine lv_aload_n hx hb dX5_numberAt_5 rfl (lv_at hl 0 rfl) ?_
    refine g_get fd_RX5_24 C hX hP 0 (by decide) (shK_0 G ad _) (v := .int (σ 0 0)) rfl dX5_numberAt_6 ?_
    refine lv_icmp_ge (tgt := 21) hx hb dX5_numberAt_9 (by decide) (fun c2 => ?_) (fun c2 => ?_)
    · refine lv_iconst (v := 0) hx hb dX5_numberAt_21 (by decide) ?_
      exact g_iret C hr hlk rfl (by rw [x_numberAt5, if_neg c1, if_pos c2]) rfl rfl dX5_numberAt_22
    · obtain ⟨hk1, hk2⟩ := ix_of (by omega) hlen c1 c2
      refine lv_aload_n hx hb dX5_numberAt_12 rfl (lv_at hl 0 rfl) ?_
      refine g_get fd_RX5_21 C hX hP 0 (by decide) (shK_0 G ad _) (v := .ref (ad 4)) rfl dX5_numberAt_13 ?_
      refine lv_iload_n hx hb dX5_numberAt_16 rfl (lv_at hl 1 rfl) ?_
      refine lv_as (y := (nI (nN k))) hk1 ?_
      refine g_iald C hX hP 4 (by decide) (shK_4 G ad _) (nN k) (by omega) (by decide) dX5_numberAt_17 ?_
      refine lv_goto (tgt := 22) hx hb dX5_numberAt_18 (by decide) ?_
      exact g_iret C hr hlk rfl (by rw [x_numberAt5, if_neg c1, if_neg c2]) rfl rfl dX5_numberAt_22

def x_sortOf5 (b : Int32) : Int32 := if b < 97 then (if b < 48 then (if b = 59 then 15 else (if b = 32 then 18 else 16)) else (if 57 < b then (if b = 59 then 15 else (if b = 32 then 18 else 16)) else 14)) else (if 122 < b then (if b < 48 then (if b = 59 then 15 else (if b = 32 then 18 else 16)) else (if 57 < b then (if b = 59 then 15 else (if b = 32 then 18 else 16)) else 14)) else 13)
def rm_yX5_sortOf : Room := { frames := 0, cells := 0, slots := 0, locals := 0 }
set_option maxHeartbeats 4000000 in
set_option maxRecDepth 100000 in
theorem c_yX5_sortOf (l : Launch) (b : Int32) : gPure l yX5_sortOf cX5_sortOf 1 (some .int) rm_yX5_sortOf [.int b] (x_sortOf5 b) := by
  refine g_start [.int b] (by decide +kernel) (Nat.le_of_ble_eq_true rfl) ?_
  intro p e s m below meth c ls B Z hl
  obtain ⟨C, hr, hlk⟩ := B
  have hx := C.1
  have hb := C.2.1
  have hl : lv_has ls 1 [(0, .int b)] := hl
  refine lv_iload_n hx hb dX5_sortOf_0 rfl (lv_at hl 0 rfl) ?_
  refine lv_bipush (v := 97) hx hb dX5_sortOf_1 (by decide) ?_
  refine lv_icmp_lt (tgt := 15) hx hb dX5_sortOf_3 (by decide) (fun c1 => ?_) (fun c1 => ?_)
  · refine lv_iload_n hx hb dX5_sortOf_15 rfl (lv_at hl 0 rfl) ?_
    refine lv_bipush (v := 48) hx hb dX5_sortOf_16 (by decide) ?_
    refine lv_icmp_lt (tgt := 30) hx hb dX5_sortOf_18 (by decide) (fun c2 => ?_) (fun c2 => ?_)
    · refine lv_iload_n hx hb dX5_sortOf_30 rfl (lv_at hl 0 rfl) ?_
      refine lv_bipush (v := 59) hx hb dX5_sortOf_31 (by decide) ?_
      refine lv_icmp_ne (tgt := 39) hx hb dX5_sortOf_33 (by decide) (fun c3 => ?_) (fun c3 => ?_)
      · refine lv_iload_n hx hb dX5_sortOf_39 rfl (lv_at hl 0 rfl) ?_
        refine lv_bipush (v := 32) hx hb dX5_sortOf_40 (by decide) ?_
        refine lv_icmp_ne (tgt := 50) hx hb dX5_sortOf_42 (by decide) (fun c4 => ?_) (fun c4 => ?_)
        · refine lv_bipush (v := 16) hx hb dX5_sortOf_50 (by decide) ?_
          exact g_iret C hr hlk rfl (by rw [x_sortOf5, if_pos c1, if_pos c2, if_neg c3, if_neg c4]) rfl rfl dX5_sortOf_52
        · refine lv_bipush (v := 18) hx hb dX5_sortOf_45 (by decide) ?_
          refine lv_goto (tgt := 52) hx hb dX5_sortOf_47 (by decide) ?_
          exact g_iret C hr hlk rfl (by rw [x_sortOf5, if_pos c1, if_pos c2, if_neg c3, if_pos c4]) rfl rfl dX5_sortOf_52
      · refine lv_bipush (v := 15) hx hb dX5_sortOf_36 (by decide) ?_
        exact g_iret C hr hlk rfl (by rw [x_sortOf5, if_pos c1, if_pos c2, if_pos c3]) rfl rfl dX5_sortOf_38
    · refine lv_iload_n hx hb dX5_sortOf_21 rfl (lv_at hl 0 rfl) ?_
      refine lv_bipush (v := 57) hx hb dX5_sortOf_22 (by decide) ?_
      refine lv_icmp_gt (tgt := 30) hx hb dX5_sortOf_24 (by decide) (fun c5 => ?_) (fun c5 => ?_)
      · refine lv_iload_n hx hb dX5_sortOf_30 rfl (lv_at hl 0 rfl) ?_
        refine lv_bipush (v := 59) hx hb dX5_sortOf_31 (by decide) ?_
        refine lv_icmp_ne (tgt := 39) hx hb dX5_sortOf_33 (by decide) (fun c6 => ?_) (fun c6 => ?_)
        · refine lv_iload_n hx hb dX5_sortOf_39 rfl (lv_at hl 0 rfl) ?_
          refine lv_bipush (v := 32) hx hb dX5_sortOf_40 (by decide) ?_
          refine lv_icmp_ne (tgt := 50) hx hb dX5_sortOf_42 (by decide) (fun c7 => ?_) (fun c7 => ?_)
          · refine lv_bipush (v := 16) hx hb dX5_sortOf_50 (by decide) ?_
            exact g_iret C hr hlk rfl (by rw [x_sortOf5, if_pos c1, if_neg c2, if_pos c5, if_neg c6, if_neg c7]) rfl rfl dX5_sortOf_52
          · refine lv_bipush (v := 18) hx hb dX5_sortOf_45 (by decide) ?_
            refine lv_goto (tgt := 52) hx hb dX5_sortOf_47 (by decide) ?_
            exact g_iret C hr hlk rfl (by rw [x_sortOf5, if_pos c1, if_neg c2, if_pos c5, if_neg c6, if_pos c7]) rfl rfl dX5_sortOf_52
        · refine lv_bipush (v := 15) hx hb dX5_sortOf_36 (by decide) ?_
          exact g_iret C hr hlk rfl (by rw [x_sortOf5, if_pos c1, if_neg c2, if_pos c5, if_pos c6]) rfl rfl dX5_sortOf_38
      · refine lv_bipush (v := 14) hx hb dX5_sortOf_27 (by decide) ?_
        exact g_iret C hr hlk rfl (by rw [x_sortOf5, if_pos c1, if_neg c2, if_neg c5]) rfl rfl dX5_sortOf_29
  · refine lv_iload_n hx hb dX5_sortOf_6 rfl (lv_at hl 0 rfl) ?_
    refine lv_bipush (v := 122) hx hb dX5_sortOf_7 (by decide) ?_
    refine lv_icmp_gt (tgt := 15) hx hb dX5_sortOf_9 (by decide) (fun c8 => ?_) (fun c8 => ?_)
    · refine lv_iload_n hx hb dX5_sortOf_15 rfl (lv_at hl 0 rfl) ?_
      refine lv_bipush (v := 48) hx hb dX5_sortOf_16 (by decide) ?_
      refine lv_icmp_lt (tgt := 30) hx hb dX5_sortOf_18 (by decide) (fun c9 => ?_) (fun c9 => ?_)
      · refine lv_iload_n hx hb dX5_sortOf_30 rfl (lv_at hl 0 rfl) ?_
        refine lv_bipush (v := 59) hx hb dX5_sortOf_31 (by decide) ?_
        refine lv_icmp_ne (tgt := 39) hx hb dX5_sortOf_33 (by decide) (fun c10 => ?_) (fun c10 => ?_)
        · refine lv_iload_n hx hb dX5_sortOf_39 rfl (lv_at hl 0 rfl) ?_
          refine lv_bipush (v := 32) hx hb dX5_sortOf_40 (by decide) ?_
          refine lv_icmp_ne (tgt := 50) hx hb dX5_sortOf_42 (by decide) (fun c11 => ?_) (fun c11 => ?_)
          · refine lv_bipush (v := 16) hx hb dX5_sortOf_50 (by decide) ?_
            exact g_iret C hr hlk rfl (by rw [x_sortOf5, if_neg c1, if_pos c8, if_pos c9, if_neg c10, if_neg c11]) rfl rfl dX5_sortOf_52
          · refine lv_bipush (v := 18) hx hb dX5_sortOf_45 (by decide) ?_
            refine lv_goto (tgt := 52) hx hb dX5_sortOf_47 (by decide) ?_
            exact g_iret C hr hlk rfl (by rw [x_sortOf5, if_neg c1, if_pos c8, if_pos c9, if_neg c10, if_pos c11]) rfl rfl dX5_sortOf_52
        · refine lv_bipush (v := 15) hx hb dX5_sortOf_36 (by decide) ?_
          exact g_iret C hr hlk rfl (by rw [x_sortOf5, if_neg c1, if_pos c8, if_pos c9, if_pos c10]) rfl rfl dX5_sortOf_38
      · refine lv_iload_n hx hb dX5_sortOf_21 rfl (lv_at hl 0 rfl) ?_
        refine lv_bipush (v := 57) hx hb dX5_sortOf_22 (by decide) ?_
        refine lv_icmp_gt (tgt := 30) hx hb dX5_sortOf_24 (by decide) (fun c12 => ?_) (fun c12 => ?_)
        · refine lv_iload_n hx hb dX5_sortOf_30 rfl (lv_at hl 0 rfl) ?_
          refine lv_bipush (v := 59) hx hb dX5_sortOf_31 (by decide) ?_
          refine lv_icmp_ne (tgt := 39) hx hb dX5_sortOf_33 (by decide) (fun c13 => ?_) (fun c13 => ?_)
          · refine lv_iload_n hx hb dX5_sortOf_39 rfl (lv_at hl 0 rfl) ?_
            refine lv_bipush (v := 32) hx hb dX5_sortOf_40 (by decide) ?_
            refine lv_icmp_ne (tgt := 50) hx hb dX5_sortOf_42 (by decide) (fun c14 => ?_) (fun c14 => ?_)
            · refine lv_bipush (v := 16) hx hb dX5_sortOf_50 (by decide) ?_
              exact g_iret C hr hlk rfl (by rw [x_sortOf5, if_neg c1, if_pos c8, if_neg c9, if_pos c12, if_neg c13, if_neg c14]) rfl rfl dX5_sortOf_52
            · refine lv_bipush (v := 18) hx hb dX5_sortOf_45 (by decide) ?_
              refine lv_goto (tgt := 52) hx hb dX5_sortOf_47 (by decide) ?_
              exact g_iret C hr hlk rfl (by rw [x_sortOf5, if_neg c1, if_pos c8, if_neg c9, if_pos c12, if_neg c13, if_pos c14]) rfl rfl dX5_sortOf_52
          · refine lv_bipush (v := 15) hx hb dX5_sortOf_36 (by decide) ?_
            exact g_iret C hr hlk rfl (by rw [x_sortOf5, if_neg c1, if_pos c8, if_neg c9, if_pos c12, if_pos c13]) rfl rfl dX5_sortOf_38
        · refine lv_bipush (v := 14) hx hb dX5_sortOf_27 (by decide) ?_
          exact g_iret C hr hlk rfl (by rw [x_sortOf5, if_neg c1, if_pos c8, if_neg c9, if_neg c12]) rfl rfl dX5_sortOf_29
    · refine lv_bipush (v := 13) hx hb dX5_sortOf_12 (by decide) ?_
      exact g_iret C hr hlk rfl (by rw [x_sortOf5, if_neg c1, if_neg c8]) rfl rfl dX5_sortOf_14

def x_begin5 (σ : gM) (sort : Int32) (place : Int32) : gM := if 121 ≤ (σ 0 0) then σ else (mset (mset (mset (mset (mset σ 1 (nN (σ 0 0)) sort) 2 (nN (σ 0 0)) place) 3 (nN (σ 0 0)) place) 4 (nN (σ 0 0)) 0) 0 0 ((σ 0 0) + 1))
def rm_yX5_begin : Room := { frames := 0, cells := 0, slots := 0, locals := 0 }
set_option maxHeartbeats 4000000 in
set_option maxRecDepth 100000 in
theorem c_yX5_begin (l : Launch) (G : gG) (ad : Nat → Nat) (hI : gI G.2.2.1 7 ad) (σ : gM) (sort : Int32) (place : Int32) (L : Nat) (hL : L ≤ 121) (hlen : σ 0 0 = nI L) : gMutV l yX5_begin cX5_begin 3 none rm_yX5_begin G [.ref (ad 0), .int sort, .int place] 7 ad (shK G ad) σ (x_begin5 σ sort place) := by
  refine g_start [.ref (ad 0), .int sort, .int place] (by decide +kernel) (Nat.le_of_ble_eq_true rfl) ?_
  intro p e s m below meth c ls B Z hl
  obtain ⟨C, hr, hlk⟩ := B
  have hx := C.1
  have hb := C.2.1
  obtain ⟨hX, hP⟩ := Z
  have hS : va_S (gA 7 ad) s.heap s.heap [] := va_S.rf
  revert hP hS
  intro hP hS
  have hl : lv_has ls 3 [(0, .ref (ad 0)), (1, .int sort), (2, .int place)] := hl
  obtain ⟨hz1, hz2⟩ := nat_of hlen (by omega)
  refine lv_aload_n hx hb dX5_begin_0 rfl (lv_at hl 0 rfl) ?_
  refine g_get fd_RX5_24 C hX hP 0 (by decide) (shK_0 G ad _) (v := .int (σ 0 0)) rfl dX5_begin_1 ?_
  refine lv_bipush (v := 121) hx hb dX5_begin_4 (by decide) ?_
  refine lv_icmp_ge (tgt := 59) hx hb dX5_begin_6 (by decide) (fun c1 => ?_) (fun c1 => ?_)
  · exact g_vretM C hr hlk (by rw [x_begin5, if_pos c1]) hP hS dX5_begin_59
  · have hlt : L < 121 := Nat.not_le.mp (fun q => c1 (by rw [hlen]; exact nI_le q (by omega)))
    refine lv_aload_n hx hb dX5_begin_9 rfl (lv_at hl 0 rfl) ?_
    refine g_get fd_RX5_11 C hX hP 0 (by decide) (shK_0 G ad _) (v := .ref (ad 1)) rfl dX5_begin_10 ?_
    refine lv_aload_n hx hb dX5_begin_13 rfl (lv_at hl 0 rfl) ?_
    refine g_get fd_RX5_24 C hX hP 0 (by decide) (shK_0 G ad _) (v := .int (σ 0 0)) rfl dX5_begin_14 ?_
    refine lv_iload_n hx hb dX5_begin_17 rfl (lv_at hl 1 rfl) ?_
    refine lv_as1 (y := (nI (nN (σ 0 0)))) hz1 ?_
    refine g_iast C hX hI hP hS 1 (by decide) (shK_1 G ad _) (nN (σ 0 0)) (by omega) (by decide) (upd (σ 1) (nN (σ 0 0)) sort) rfl dX5_begin_18 (fun H locs hP hS => ?_)
    have hP : gP G.1 7 ad (gE (shK G ad) (mset σ 1 (nN (σ 0 0)) sort)) H := hP
    refine lv_aload_n hx hb dX5_begin_19 rfl (lv_at hl 0 rfl) ?_
    refine g_get fd_RX5_15 C hX hP 0 (by decide) (shK_0 G ad _) (v := .ref (ad 2)) rfl dX5_begin_20 ?_
    refine lv_aload_n hx hb dX5_begin_23 rfl (lv_at hl 0 rfl) ?_
    refine g_get fd_RX5_24 C hX hP 0 (by decide) (shK_0 G ad _) (v := .int (σ 0 0)) rfl dX5_begin_24 ?_
    refine lv_iload_n hx hb dX5_begin_27 rfl (lv_at hl 2 rfl) ?_
    refine lv_as1 (y := (nI (nN (σ 0 0)))) hz1 ?_
    refine g_iast C hX hI hP hS 2 (by decide) (shK_2 G ad _) (nN (σ 0 0)) (by omega) (by decide) (upd ((mset σ 1 (nN (σ 0 0)) sort) 2) (nN (σ 0 0)) place) rfl dX5_begin_28 (fun H locs hP hS => ?_)
    have hP : gP G.1 7 ad (gE (shK G ad) (mset (mset σ 1 (nN (σ 0 0)) sort) 2 (nN (σ 0 0)) place)) H := hP
    refine lv_aload_n hx hb dX5_begin_29 rfl (lv_at hl 0 rfl) ?_
    refine g_get fd_RX5_18 C hX hP 0 (by decide) (shK_0 G ad _) (v := .ref (ad 3)) rfl dX5_begin_30 ?_
    refine lv_aload_n hx hb dX5_begin_33 rfl (lv_at hl 0 rfl) ?_
    refine g_get fd_RX5_24 C hX hP 0 (by decide) (shK_0 G ad _) (v := .int (σ 0 0)) rfl dX5_begin_34 ?_
    refine lv_iload_n hx hb dX5_begin_37 rfl (lv_at hl 2 rfl) ?_
    refine lv_as1 (y := (nI (nN (σ 0 0)))) hz1 ?_
    refine g_iast C hX hI hP hS 3 (by decide) (shK_3 G ad _) (nN (σ 0 0)) (by omega) (by decide) (upd ((mset (mset σ 1 (nN (σ 0 0)) sort) 2 (nN (σ 0 0)) place) 3) (nN (σ 0 0)) place) rfl dX5_begin_38 (fun H locs hP hS => ?_)
    have hP : gP G.1 7 ad (gE (shK G ad) (mset (mset (mset σ 1 (nN (σ 0 0)) sort) 2 (nN (σ 0 0)) place) 3 (nN (σ 0 0)) place)) H := hP
    refine lv_aload_n hx hb dX5_begin_39 rfl (lv_at hl 0 rfl) ?_
    refine g_get fd_RX5_21 C hX hP 0 (by decide) (shK_0 G ad _) (v := .ref (ad 4)) rfl dX5_begin_40 ?_
    refine lv_aload_n hx hb dX5_begin_43 rfl (lv_at hl 0 rfl) ?_
    refine g_get fd_RX5_24 C hX hP 0 (by decide) (shK_0 G ad _) (v := .int (σ 0 0)) rfl dX5_begin_44 ?_
    refine lv_iconst (v := 0) hx hb dX5_begin_47 (by decide) ?_
    refine lv_as1 (y := (nI (nN (σ 0 0)))) hz1 ?_
    refine g_iast C hX hI hP hS 4 (by decide) (shK_4 G ad _) (nN (σ 0 0)) (by omega) (by decide) (upd ((mset (mset (mset σ 1 (nN (σ 0 0)) sort) 2 (nN (σ 0 0)) place) 3 (nN (σ 0 0)) place) 4) (nN (σ 0 0)) 0) rfl dX5_begin_48 (fun H locs hP hS => ?_)
    have hP : gP G.1 7 ad (gE (shK G ad) (mset (mset (mset (mset σ 1 (nN (σ 0 0)) sort) 2 (nN (σ 0 0)) place) 3 (nN (σ 0 0)) place) 4 (nN (σ 0 0)) 0)) H := hP
    refine lv_aload_n hx hb dX5_begin_49 rfl (lv_at hl 0 rfl) ?_
    refine lv_dup hx hb dX5_begin_50 rfl ?_
    refine g_get fd_RX5_24 C hX hP 0 (by decide) (shK_0 G ad _) (v := .int (σ 0 0)) rfl dX5_begin_51 ?_
    refine lv_iconst (v := 1) hx hb dX5_begin_54 (by decide) ?_
    refine lv_iadd hx hb dX5_begin_55 ?_
    refine g_put fd_RX5_24 C hX hI hP hS 0 (by decide) (shK_0 G ad _) rfl rfl (Nat.le_of_ble_eq_true rfl) (upd ((mset (mset (mset (mset σ 1 (nN (σ 0 0)) sort) 2 (nN (σ 0 0)) place) 3 (nN (σ 0 0)) place) 4 (nN (σ 0 0)) 0) 0) 0 ((σ 0 0) + 1)) rfl dX5_begin_56 (fun H locs hP hS => ?_)
    have hP : gP G.1 7 ad (gE (shK G ad) (mset (mset (mset (mset (mset σ 1 (nN (σ 0 0)) sort) 2 (nN (σ 0 0)) place) 3 (nN (σ 0 0)) place) 4 (nN (σ 0 0)) 0) 0 0 ((σ 0 0) + 1))) H := hP
    exact g_vretM C hr hlk (by rw [x_begin5, if_neg c1]) hP hS dX5_begin_59

def x_takeUp5 (σ : gM) (b : Int32) (place : Int32) : gM := if (x_isWithin ((σ 0 0) - 1) 120) = 0 then σ else (if (σ 1 (nN (σ 0 0 - 1))) = 14 then (mset (mset σ 3 (nN (σ 0 0 - 1)) (place + 1)) 4 (nN (σ 0 0 - 1)) (j_min 100000 (((10 * (σ 4 (nN (σ 0 0 - 1)))) + b) - 48))) else (mset σ 3 (nN (σ 0 0 - 1)) (place + 1)))
def rm_yX5_takeUp : Room := { frames := 1, cells := 0, slots := 0, locals := 21 }
set_option maxHeartbeats 4000000 in
set_option maxRecDepth 100000 in
theorem c_yX5_takeUp (l : Launch) (G : gG) (ad : Nat → Nat) (hI : gI G.2.2.1 7 ad) (σ : gM) (b : Int32) (place : Int32) : gMutV l yX5_takeUp cX5_takeUp 4 none rm_yX5_takeUp G [.ref (ad 0), .int b, .int place] 7 ad (shK G ad) σ (x_takeUp5 σ b place) := by
  refine g_start [.ref (ad 0), .int b, .int place] (by decide +kernel) (Nat.le_of_ble_eq_true rfl) ?_
  intro p e s m below meth c ls B Z hl
  obtain ⟨C, hr, hlk⟩ := B
  have hx := C.1
  have hb := C.2.1
  obtain ⟨hX, hP⟩ := Z
  have hS : va_S (gA 7 ad) s.heap s.heap [] := va_S.rf
  revert hP hS
  intro hP hS
  have hl : lv_has ls 4 [(0, .ref (ad 0)), (1, .int b), (2, .int place)] := hl
  refine lv_aload_n hx hb dX5_takeUp_0 rfl (lv_at hl 0 rfl) ?_
  refine g_get fd_RX5_24 C hX hP 0 (by decide) (shK_0 G ad _) (v := .int (σ 0 0)) rfl dX5_takeUp_1 ?_
  refine lv_iconst (v := 1) hx hb dX5_takeUp_4 (by decide) ?_
  refine lv_isub hx hb dX5_takeUp_5 ?_
  refine lv_istore_n (lv' := [(3, .int ((σ 0 0) - 1)), (0, .ref (ad 0)), (1, .int b), (2, .int place)]) hx hb dX5_takeUp_6 rfl hl (by decide) rfl (fun ls hl => ?_)
  refine lv_iload_n hx hb dX5_takeUp_7 rfl (lv_at hl 0 rfl) ?_
  refine lv_bipush (v := 120) hx hb dX5_takeUp_8 (by decide) ?_
  refine g_rd (g_runSN (As := [.int ((σ 0 0) - 1), .int 120]) (rest := []) ky_yX6_isWithin ln_RX5_51 hX C (c_yX6_isWithin l ((σ 0 0) - 1) 120) ⟨rfl, rfl, by decide, by decide⟩ rfl hl.1 rfl (Nat.le_of_ble_eq_true rfl) ⟨Nat.zero_le _, Nat.zero_le _⟩ dX5_takeUp_10) ?_
  refine lv_if_ne (tgt := 17) hx hb dX5_takeUp_13 (by decide) (fun c1 => ?_) (fun c1 => ?_)
  · obtain ⟨hw1, hw2⟩ := isW_k (L := 120) (by decide) c1
    refine lv_aload_n hx hb dX5_takeUp_17 rfl (lv_at hl 1 rfl) ?_
    refine g_get fd_RX5_18 C hX hP 0 (by decide) (shK_0 G ad _) (v := .ref (ad 3)) rfl dX5_takeUp_18 ?_
    refine lv_iload_n hx hb dX5_takeUp_21 rfl (lv_at hl 0 rfl) ?_
    refine lv_iload_n hx hb dX5_takeUp_22 rfl (lv_at hl 3 rfl) ?_
    refine lv_iconst (v := 1) hx hb dX5_takeUp_23 (by decide) ?_
    refine lv_iadd hx hb dX5_takeUp_24 ?_
    refine lv_as1 (y := (nI (nN (σ 0 0 - 1)))) hw1 ?_
    refine g_iast C hX hI hP hS 3 (by decide) (shK_3 G ad _) (nN (σ 0 0 - 1)) hw2 (by decide) (upd (σ 3) (nN (σ 0 0 - 1)) (place + 1)) rfl dX5_takeUp_25 (fun H locs hP hS => ?_)
    have hP : gP G.1 7 ad (gE (shK G ad) (mset σ 3 (nN (σ 0 0 - 1)) (place + 1))) H := hP
    refine lv_aload_n hx hb dX5_takeUp_26 rfl (lv_at hl 1 rfl) ?_
    refine g_get fd_RX5_11 C hX hP 0 (by decide) (shK_0 G ad _) (v := .ref (ad 1)) rfl dX5_takeUp_27 ?_
    refine lv_iload_n hx hb dX5_takeUp_30 rfl (lv_at hl 0 rfl) ?_
    refine lv_as (y := (nI (nN (σ 0 0 - 1)))) hw1 ?_
    refine g_iald C hX hP 1 (by decide) (shK_1 G ad _) (nN (σ 0 0 - 1)) hw2 (by decide) dX5_takeUp_31 ?_
    refine lv_as (y := (σ 1 (nN (σ 0 0 - 1)))) rfl ?_
    refine lv_bipush (v := 14) hx hb dX5_takeUp_32 (by decide) ?_
    refine lv_icmp_ne (tgt := 62) hx hb dX5_takeUp_34 (by decide) (fun c2 => ?_) (fun c2 => ?_)
    · exact g_vretM C hr hlk (by rw [x_takeUp5, if_neg c1, if_neg c2]) hP hS dX5_takeUp_62
    · refine lv_aload_n hx hb dX5_takeUp_37 rfl (lv_at hl 1 rfl) ?_
      refine g_get fd_RX5_21 C hX hP 0 (by decide) (shK_0 G ad _) (v := .ref (ad 4)) rfl dX5_takeUp_38 ?_
      refine lv_iload_n hx hb dX5_takeUp_41 rfl (lv_at hl 0 rfl) ?_
      refine lv_ldc hx hb C.2.2.2.1 (C.2.2.2.2 _ kc_RX5_55) dX5_takeUp_42 ?_
      refine lv_bipush (v := 10) hx hb dX5_takeUp_44 (by decide) ?_
      refine lv_aload_n hx hb dX5_takeUp_46 rfl (lv_at hl 1 rfl) ?_
      refine g_get fd_RX5_21 C hX hP 0 (by decide) (shK_0 G ad _) (v := .ref (ad 4)) rfl dX5_takeUp_47 ?_
      refine lv_iload_n hx hb dX5_takeUp_50 rfl (lv_at hl 0 rfl) ?_
      refine lv_as (y := (nI (nN (σ 0 0 - 1)))) hw1 ?_
      refine g_iald C hX hP 4 (by decide) (shK_4 G ad _) (nN (σ 0 0 - 1)) hw2 (by decide) dX5_takeUp_51 ?_
      refine lv_as (y := (σ 4 (nN (σ 0 0 - 1)))) rfl ?_
      refine lv_imul hx hb dX5_takeUp_52 ?_
      refine lv_iload_n hx hb dX5_takeUp_53 rfl (lv_at hl 2 rfl) ?_
      refine lv_iadd hx hb dX5_takeUp_54 ?_
      refine lv_bipush (v := 48) hx hb dX5_takeUp_55 (by decide) ?_
      refine lv_isub hx hb dX5_takeUp_57 ?_
      refine g_rd (g_runS (As := [.int 100000, .int (((10 * (σ 4 (nN (σ 0 0 - 1)))) + b) - 48)]) (rest := [.int ((σ 0 0) - 1), .ref (ad 4)]) ky_yJ9_min_7cf53 lk_RX5_56 C (c_yJ9_min_7cf53 l 100000 (((10 * (σ 4 (nN (σ 0 0 - 1)))) + b) - 48)) ⟨rfl, rfl, by decide, by decide⟩ rfl hl.1 rfl (Nat.le_of_ble_eq_true rfl) ⟨Nat.zero_le _, Nat.zero_le _⟩ dX5_takeUp_58) ?_
      refine lv_as1 (y := (nI (nN (σ 0 0 - 1)))) hw1 ?_
      refine g_iast C hX hI hP hS 4 (by decide) (shK_4 G ad _) (nN (σ 0 0 - 1)) hw2 (by decide) (upd ((mset σ 3 (nN (σ 0 0 - 1)) (place + 1)) 4) (nN (σ 0 0 - 1)) (j_min 100000 (((10 * (σ 4 (nN (σ 0 0 - 1)))) + b) - 48))) rfl dX5_takeUp_61 (fun H locs hP hS => ?_)
      have hP : gP G.1 7 ad (gE (shK G ad) (mset (mset σ 3 (nN (σ 0 0 - 1)) (place + 1)) 4 (nN (σ 0 0 - 1)) (j_min 100000 (((10 * (σ 4 (nN (σ 0 0 - 1)))) + b) - 48)))) H := hP
      exact g_vretM C hr hlk (by rw [x_takeUp5, if_neg c1, if_pos c2]) hP hS dX5_takeUp_62
  · exact g_vretM C hr hlk (by rw [x_takeUp5, if_pos c1]) hP hS dX5_takeUp_16
