theorem isW_of {v : Int32} {M : Nat} (hM : M < 2 ^ 31) (h : ¬ x_isWithin v (nI M) = 0) : v = nI (nN v) ∧ nN v ≤ M := by
  unfold x_isWithin at h
  by_cases h1 : v < 0
  · rw [if_pos h1] at h
    exact absurd rfl h
  · rw [if_neg h1] at h
    by_cases h2 : nI M < v
    · rw [if_pos h2] at h
      exact absurd rfl h
    · obtain ⟨j, hj, rfl⟩ := nI_of h1
      rw [nN_nI hj]
      exact ⟨rfl, Nat.not_lt.mp (fun q => h2 (nI_lt q hj))⟩
theorem gP0 (D : va_G) (ad : Nat → Nat) (E : Nat → va_E) (H : Heap) : gP D 0 ad E H := fun k hk => absurd hk (Nat.not_lt_zero k)
theorem gI0 {b0 : Nat} {ad : Nat → Nat} : gI b0 0 ad := ⟨fun i j hi => absurd hi (Nat.not_lt_zero i), fun k hk => absurd hk (Nat.not_lt_zero k)⟩
def x_mostOf1 (what : Int32) : Int32 := if (x_isWithin what 6) = 0 then (-1) else (tb_most.getD (nN what) 0)
def rm_yX1_mostOf : Room := { frames := 1, cells := 0, slots := 0, locals := 21 }
set_option maxHeartbeats 4000000 in
set_option maxRecDepth 100000 in
theorem c_yX1_mostOf (l : Launch) (G : gG) (ad : Nat → Nat) (hI : gI G.2.2.1 0 ad) (σ : gM) (what : Int32) : gRead l yX1_mostOf cX1_mostOf 1 (some .int) rm_yX1_mostOf G [.int what] 0 ad (gE shG σ) (x_mostOf1 what) := by
  refine g_start [.int what] (by decide +kernel) (Nat.le_of_ble_eq_true rfl) ?_
  intro p e s m below meth c ls B Z hl
  obtain ⟨C, hr, hlk⟩ := B
  have hx := C.1
  have hb := C.2.1
  obtain ⟨hX, hP⟩ := Z
  have hS : va_S (gA 0 ad) s.heap s.heap [] := va_S.rf
  have hl : lv_has ls 1 [(0, .int what)] := hl
  refine lv_iload_n hx hb dX1_mostOf_0 rfl (lv_at hl 0 rfl) ?_
  refine lv_bipush (v := 6) hx hb dX1_mostOf_1 (by decide) ?_
  refine g_rd (g_runSN (As := [.int what, .int 6]) (rest := []) ky_yX6_isWithin ln_RX1_11 hX C (c_yX6_isWithin l what 6) ⟨rfl, rfl, by decide, by decide⟩ rfl hl.1 rfl (Nat.le_of_ble_eq_true rfl) ⟨Nat.zero_le _, Nat.zero_le _⟩ dX1_mostOf_3) ?_
  refine lv_if_eq (tgt := 17) hx hb dX1_mostOf_6 (by decide) (fun c1 => ?_) (fun c1 => ?_)
  · refine lv_iconst (v := (-1)) hx hb dX1_mostOf_17 (by decide) ?_
    exact g_iret C hr hlk rfl (by rw [x_mostOf1, if_pos c1]) rfl rfl dX1_mostOf_18
  · obtain ⟨hw1, hw2⟩ := isW_of (M := 6) (by decide) c1
    obtain ⟨t2, zt2, yt2⟩ := hX.2.2.1.2.2.2
    refine g_gets zt2 C (gS_b0 hI hS) fs_RX1_15 dX1_mostOf_9 ?_
    refine lv_iload_n hx hb dX1_mostOf_12 rfl (lv_at hl 0 rfl) ?_
    refine lv_as (y := (nI (nN what))) hw1 ?_
    refine g_ti yt2 C (gS_b0 hI hS) (nN what) (by omega) (by decide) dX1_mostOf_13 ?_
    refine lv_goto (tgt := 18) hx hb dX1_mostOf_14 (by decide) ?_
    exact g_iret C hr hlk rfl (by rw [x_mostOf1, if_neg c1]) rfl rfl dX1_mostOf_18

def x_stays1 (σ : gM) : Int32 := if (x_isWithin (σ 0 0) 6) = 0 then 0 else (tb_stays.getD (nN (σ 0 0)) 0)
def rm_yX1_stays : Room := { frames := 1, cells := 0, slots := 0, locals := 21 }
set_option maxHeartbeats 4000000 in
set_option maxRecDepth 100000 in
theorem c_yX1_stays (l : Launch) (G : gG) (ad : Nat → Nat) (hI : gI G.2.2.1 1 ad) (σ : gM) : gRead l yX1_stays cX1_stays 1 (some .int) rm_yX1_stays G [.ref (ad 0)] 1 ad (gE shG σ) (x_stays1 σ) := by
  refine g_start [.ref (ad 0)] (by decide +kernel) (Nat.le_of_ble_eq_true rfl) ?_
  intro p e s m below meth c ls B Z hl
  obtain ⟨C, hr, hlk⟩ := B
  have hx := C.1
  have hb := C.2.1
  obtain ⟨hX, hP⟩ := Z
  have hS : va_S (gA 1 ad) s.heap s.heap [] := va_S.rf
  have hl : lv_has ls 1 [(0, .ref (ad 0))] := hl
  refine lv_aload_n hx hb dX1_stays_0 rfl (lv_at hl 0 rfl) ?_
  refine g_get fd_RX1_19 C hX hP 0 (by decide) (shG_g _) (v := .int (σ 0 0)) rfl dX1_stays_1 ?_
  refine lv_bipush (v := 6) hx hb dX1_stays_4 (by decide) ?_
  refine g_rd (g_runSN (As := [.int (σ 0 0), .int 6]) (rest := []) ky_yX6_isWithin ln_RX1_11 hX C (c_yX6_isWithin l (σ 0 0) 6) ⟨rfl, rfl, by decide, by decide⟩ rfl hl.1 rfl (Nat.le_of_ble_eq_true rfl) ⟨Nat.zero_le _, Nat.zero_le _⟩ dX1_stays_6) ?_
  refine lv_if_eq (tgt := 23) hx hb dX1_stays_9 (by decide) (fun c1 => ?_) (fun c1 => ?_)
  · refine lv_iconst (v := 0) hx hb dX1_stays_23 (by decide) ?_
    exact g_iret C hr hlk rfl (by rw [x_stays1, if_pos c1]) rfl rfl dX1_stays_24
  · obtain ⟨hw1, hw2⟩ := isW_of (M := 6) (by decide) c1
    obtain ⟨t2, zt2, yt2⟩ := hX.2.2.1.2.1
    refine g_gets zt2 C (gS_b0 hI hS) fs_RX1_57 dX1_stays_12 ?_
    refine lv_aload_n hx hb dX1_stays_15 rfl (lv_at hl 0 rfl) ?_
    refine g_get fd_RX1_19 C hX hP 0 (by decide) (shG_g _) (v := .int (σ 0 0)) rfl dX1_stays_16 ?_
    refine lv_as (y := (nI (nN (σ 0 0)))) hw1 ?_
    refine g_ti yt2 C (gS_b0 hI hS) (nN (σ 0 0)) (by omega) (by decide) dX1_stays_19 ?_
    refine lv_goto (tgt := 24) hx hb dX1_stays_20 (by decide) ?_
    exact g_iret C hr hlk rfl (by rw [x_stays1, if_neg c1]) rfl rfl dX1_stays_24

def x_keeps1 (σ : gM) : Int32 := if (x_isWithin (σ 0 0) 6) = 0 then 0 else (tb_keeps.getD (nN (σ 0 0)) 0)
def rm_yX1_keeps : Room := { frames := 1, cells := 0, slots := 0, locals := 21 }
set_option maxHeartbeats 4000000 in
set_option maxRecDepth 100000 in
theorem c_yX1_keeps (l : Launch) (G : gG) (ad : Nat → Nat) (hI : gI G.2.2.1 1 ad) (σ : gM) : gRead l yX1_keeps cX1_keeps 1 (some .int) rm_yX1_keeps G [.ref (ad 0)] 1 ad (gE shG σ) (x_keeps1 σ) := by
  refine g_start [.ref (ad 0)] (by decide +kernel) (Nat.le_of_ble_eq_true rfl) ?_
  intro p e s m below meth c ls B Z hl
  obtain ⟨C, hr, hlk⟩ := B
  have hx := C.1
  have hb := C.2.1
  obtain ⟨hX, hP⟩ := Z
  have hS : va_S (gA 1 ad) s.heap s.heap [] := va_S.rf
  have hl : lv_has ls 1 [(0, .ref (ad 0))] := hl
  refine lv_aload_n hx hb dX1_keeps_0 rfl (lv_at hl 0 rfl) ?_
  refine g_get fd_RX1_19 C hX hP 0 (by decide) (shG_g _) (v := .int (σ 0 0)) rfl dX1_keeps_1 ?_
  refine lv_bipush (v := 6) hx hb dX1_keeps_4 (by decide) ?_
  refine g_rd (g_runSN (As := [.int (σ 0 0), .int 6]) (rest := []) ky_yX6_isWithin ln_RX1_11 hX C (c_yX6_isWithin l (σ 0 0) 6) ⟨rfl, rfl, by decide, by decide⟩ rfl hl.1 rfl (Nat.le_of_ble_eq_true rfl) ⟨Nat.zero_le _, Nat.zero_le _⟩ dX1_keeps_6) ?_
  refine lv_if_eq (tgt := 23) hx hb dX1_keeps_9 (by decide) (fun c1 => ?_) (fun c1 => ?_)
  · refine lv_iconst (v := 0) hx hb dX1_keeps_23 (by decide) ?_
    exact g_iret C hr hlk rfl (by rw [x_keeps1, if_pos c1]) rfl rfl dX1_keeps_24
  · obtain ⟨hw1, hw2⟩ := isW_of (M := 6) (by decide) c1
    obtain ⟨t2, zt2, yt2⟩ := hX.2.2.1.2.2.1
    refine g_gets zt2 C (gS_b0 hI hS) fs_RX1_60 dX1_keeps_12 ?_
    refine lv_aload_n hx hb dX1_keeps_15 rfl (lv_at hl 0 rfl) ?_
    refine g_get fd_RX1_19 C hX hP 0 (by decide) (shG_g _) (v := .int (σ 0 0)) rfl dX1_keeps_16 ?_
    refine lv_as (y := (nI (nN (σ 0 0)))) hw1 ?_
    refine g_ti yt2 C (gS_b0 hI hS) (nN (σ 0 0)) (by omega) (by decide) dX1_keeps_19 ?_
    refine lv_goto (tgt := 24) hx hb dX1_keeps_20 (by decide) ?_
    exact g_iret C hr hlk rfl (by rw [x_keeps1, if_neg c1]) rfl rfl dX1_keeps_24

def x_hushes1 (σ : gM) : Int32 := if (σ 0 0) = 1 then 1 else (if (σ 0 0) = 2 then 0 else (if (σ 0 0) = 3 then 1 else (if (σ 0 0) = 4 then 0 else (if (σ 0 0) = 5 then (if (σ 0 4) < 100 then 0 else 1) else (if (σ 0 0) = 6 then 2 else 0)))))
def rm_yX1_hushes : Room := { frames := 0, cells := 0, slots := 0, locals := 0 }
set_option maxHeartbeats 4000000 in
set_option maxRecDepth 100000 in
theorem c_yX1_hushes (l : Launch) (G : gG) (ad : Nat → Nat) (hI : gI G.2.2.1 1 ad) (σ : gM) : gRead l yX1_hushes cX1_hushes 1 (some .int) rm_yX1_hushes G [.ref (ad 0)] 1 ad (gE shG σ) (x_hushes1 σ) := by
  refine g_start [.ref (ad 0)] (by decide +kernel) (Nat.le_of_ble_eq_true rfl) ?_
  intro p e s m below meth c ls B Z hl
  obtain ⟨C, hr, hlk⟩ := B
  have hx := C.1
  have hb := C.2.1
  obtain ⟨hX, hP⟩ := Z
  have hS : va_S (gA 1 ad) s.heap s.heap [] := va_S.rf
  have hl : lv_has ls 1 [(0, .ref (ad 0))] := hl
  refine lv_aload_n hx hb dX1_hushes_0 rfl (lv_at hl 0 rfl) ?_
  refine g_get fd_RX1_19 C hX hP 0 (by decide) (shG_g _) (v := .int (σ 0 0)) rfl dX1_hushes_1 ?_
  by_cases c1 : (σ 0 0) = 1
  · refine lv_as (y := 1) c1 ?_
    refine lv_tableIn (tgt := 44) (off := 40) hx hb dX1_hushes_4 (by decide) (by decide) (by decide) (by decide) ?_
    refine lv_iconst (v := 1) hx hb dX1_hushes_44 (by decide) ?_
    exact g_iret C hr hlk rfl (by rw [x_hushes1, if_pos c1]) rfl rfl dX1_hushes_45
  by_cases c2 : (σ 0 0) = 2
  · refine lv_as (y := 2) c2 ?_
    refine lv_tableIn (tgt := 63) (off := 59) hx hb dX1_hushes_4 (by decide) (by decide) (by decide) (by decide) ?_
    refine lv_iconst (v := 0) hx hb dX1_hushes_63 (by decide) ?_
    exact g_iret C hr hlk rfl (by rw [x_hushes1, if_neg c1, if_pos c2]) rfl rfl dX1_hushes_64
  by_cases c3 : (σ 0 0) = 3
  · refine lv_as (y := 3) c3 ?_
    refine lv_tableIn (tgt := 44) (off := 40) hx hb dX1_hushes_4 (by decide) (by decide) (by decide) (by decide) ?_
    refine lv_iconst (v := 1) hx hb dX1_hushes_44 (by decide) ?_
    exact g_iret C hr hlk rfl (by rw [x_hushes1, if_neg c1, if_neg c2, if_pos c3]) rfl rfl dX1_hushes_45
  by_cases c4 : (σ 0 0) = 4
  · refine lv_as (y := 4) c4 ?_
    refine lv_tableIn (tgt := 63) (off := 59) hx hb dX1_hushes_4 (by decide) (by decide) (by decide) (by decide) ?_
    refine lv_iconst (v := 0) hx hb dX1_hushes_63 (by decide) ?_
    exact g_iret C hr hlk rfl (by rw [x_hushes1, if_neg c1, if_neg c2, if_neg c3, if_pos c4]) rfl rfl dX1_hushes_64
  by_cases c5 : (σ 0 0) = 5
  · refine lv_as (y := 5) c5 ?_
    refine lv_tableIn (tgt := 48) (off := 44) hx hb dX1_hushes_4 (by decide) (by decide) (by decide) (by decide) ?_
    refine lv_aload_n hx hb dX1_hushes_48 rfl (lv_at hl 0 rfl) ?_
    refine g_get fd_RX1_32 C hX hP 0 (by decide) (shG_g _) (v := .int (σ 0 4)) rfl dX1_hushes_49 ?_
    refine lv_bipush (v := 100) hx hb dX1_hushes_52 (by decide) ?_
    refine lv_icmp_lt (tgt := 61) hx hb dX1_hushes_54 (by decide) (fun c6 => ?_) (fun c6 => ?_)
    · refine lv_iconst (v := 0) hx hb dX1_hushes_61 (by decide) ?_
      exact g_iret C hr hlk rfl (by rw [x_hushes1, if_neg c1, if_neg c2, if_neg c3, if_neg c4, if_pos c5, if_pos c6]) rfl rfl dX1_hushes_62
    · refine lv_iconst (v := 1) hx hb dX1_hushes_57 (by decide) ?_
      refine lv_goto (tgt := 62) hx hb dX1_hushes_58 (by decide) ?_
      exact g_iret C hr hlk rfl (by rw [x_hushes1, if_neg c1, if_neg c2, if_neg c3, if_neg c4, if_pos c5, if_neg c6]) rfl rfl dX1_hushes_62
  by_cases c7 : (σ 0 0) = 6
  · refine lv_as (y := 6) c7 ?_
    refine lv_tableIn (tgt := 46) (off := 42) hx hb dX1_hushes_4 (by decide) (by decide) (by decide) (by decide) ?_
    refine lv_iconst (v := 2) hx hb dX1_hushes_46 (by decide) ?_
    exact g_iret C hr hlk rfl (by rw [x_hushes1, if_neg c1, if_neg c2, if_neg c3, if_neg c4, if_neg c5, if_pos c7]) rfl rfl dX1_hushes_47
  have h8 := lv_neT (a := 1) c1 (by decide)
  have h9 := lv_neT (a := 2) c2 (by decide)
  have h10 := lv_neT (a := 3) c3 (by decide)
  have h11 := lv_neT (a := 4) c4 (by decide)
  have h12 := lv_neT (a := 5) c5 (by decide)
  have h13 := lv_neT (a := 6) c7 (by decide)
  refine lv_tableOut (tgt := 63) hx hb dX1_hushes_4 (by omega) (by decide) ?_
  refine lv_iconst (v := 0) hx hb dX1_hushes_63 (by decide) ?_
  exact g_iret C hr hlk rfl (by rw [x_hushes1, if_neg c1, if_neg c2, if_neg c3, if_neg c4, if_neg c5, if_neg c7]) rfl rfl dX1_hushes_64

def x_needs1 (σ : gM) (inCompany : Int32) : Int32 := if (σ 0 0) = 1 then (j_max 0 ((10 - (σ 0 2)) - 2)) else (if (σ 0 0) = 2 then ((10 - (σ 0 2)) + 3) else (if (σ 0 0) = 3 then (j_max 0 (((10 - (σ 0 2)) + 3) - 4)) else (if (σ 0 0) = 4 then 99 else (if (σ 0 0) = 5 then 0 else (if (σ 0 0) = 6 then (if inCompany = 0 then (j_max 0 ((10 - (σ 0 2)) - 2)) else 1) else (10 - (σ 0 2)))))))
def rm_yX1_needs : Room := { frames := 1, cells := 0, slots := 0, locals := 21 }
set_option maxHeartbeats 4000000 in
set_option maxRecDepth 100000 in
theorem c_yX1_needs (l : Launch) (G : gG) (ad : Nat → Nat) (hI : gI G.2.2.1 1 ad) (σ : gM) (inCompany : Int32) : gRead l yX1_needs cX1_needs 5 (some .int) rm_yX1_needs G [.ref (ad 0), .int inCompany] 1 ad (gE shG σ) (x_needs1 σ inCompany) := by
  refine g_start [.ref (ad 0), .int inCompany] (by decide +kernel) (Nat.le_of_ble_eq_true rfl) ?_
  intro p e s m below meth c ls B Z hl
  obtain ⟨C, hr, hlk⟩ := B
  have hx := C.1
  have hb := C.2.1
  obtain ⟨hX, hP⟩ := Z
  have hS : va_S (gA 1 ad) s.heap s.heap [] := va_S.rf
  have hl : lv_has ls 5 [(0, .ref (ad 0)), (1, .int inCompany)] := hl
  refine lv_bipush (v := 10) hx hb dX1_needs_0 (by decide) ?_
  refine lv_aload_n hx hb dX1_needs_2 rfl (lv_at hl 0 rfl) ?_
  refine g_get fd_RX1_26 C hX hP 0 (by decide) (shG_g _) (v := .int (σ 0 2)) rfl dX1_needs_3 ?_
  refine lv_isub hx hb dX1_needs_6 ?_
  refine lv_istore_n (lv' := [(2, .int (10 - (σ 0 2))), (0, .ref (ad 0)), (1, .int inCompany)]) hx hb dX1_needs_7 rfl hl (by decide) rfl (fun ls hl => ?_)
  refine lv_iconst (v := 0) hx hb dX1_needs_8 (by decide) ?_
  refine lv_iload_n hx hb dX1_needs_9 rfl (lv_at hl 0 rfl) ?_
  refine lv_iconst (v := 2) hx hb dX1_needs_10 (by decide) ?_
  refine lv_isub hx hb dX1_needs_11 ?_
  refine g_rd (g_runS (As := [.int 0, .int ((10 - (σ 0 2)) - 2)]) (rest := []) ky_yJ9_max_7cf53 lk_RX1_51 C (c_yJ9_max_7cf53 l 0 ((10 - (σ 0 2)) - 2)) ⟨rfl, rfl, by decide, by decide⟩ rfl hl.1 rfl (Nat.le_of_ble_eq_true rfl) ⟨Nat.zero_le _, Nat.zero_le _⟩ dX1_needs_12) ?_
  refine lv_istore_n (lv' := [(3, .int (j_max 0 ((10 - (σ 0 2)) - 2))), (2, .int (10 - (σ 0 2))), (0, .ref (ad 0)), (1, .int inCompany)]) hx hb dX1_needs_15 rfl hl (by decide) rfl (fun ls hl => ?_)
  refine lv_iload_n hx hb dX1_needs_16 rfl (lv_at hl 1 rfl) ?_
  refine lv_iconst (v := 3) hx hb dX1_needs_17 (by decide) ?_
  refine lv_iadd hx hb dX1_needs_18 ?_
  refine lv_istore (lv' := [(4, .int ((10 - (σ 0 2)) + 3)), (3, .int (j_max 0 ((10 - (σ 0 2)) - 2))), (2, .int (10 - (σ 0 2))), (0, .ref (ad 0)), (1, .int inCompany)]) hx hb dX1_needs_19 hl (by decide) rfl (fun ls hl => ?_)
  refine lv_aload_n hx hb dX1_needs_21 rfl (lv_at hl 3 rfl) ?_
  refine g_get fd_RX1_19 C hX hP 0 (by decide) (shG_g _) (v := .int (σ 0 0)) rfl dX1_needs_22 ?_
  by_cases c1 : (σ 0 0) = 1
  · refine lv_as (y := 1) c1 ?_
    refine lv_tableIn (tgt := 64) (off := 39) hx hb dX1_needs_25 (by decide) (by decide) (by decide) (by decide) ?_
    refine lv_iload_n hx hb dX1_needs_64 rfl (lv_at hl 1 rfl) ?_
    exact g_iret C hr hlk rfl (by rw [x_needs1, if_pos c1]) rfl rfl dX1_needs_65
  by_cases c2 : (σ 0 0) = 2
  · refine lv_as (y := 2) c2 ?_
    refine lv_tableIn (tgt := 76) (off := 51) hx hb dX1_needs_25 (by decide) (by decide) (by decide) (by decide) ?_
    refine lv_iload hx hb dX1_needs_76 (lv_at hl 0 rfl) ?_
    exact g_iret C hr hlk rfl (by rw [x_needs1, if_neg c1, if_pos c2]) rfl rfl dX1_needs_78
  by_cases c3 : (σ 0 0) = 3
  · refine lv_as (y := 3) c3 ?_
    refine lv_tableIn (tgt := 79) (off := 54) hx hb dX1_needs_25 (by decide) (by decide) (by decide) (by decide) ?_
    refine lv_iconst (v := 0) hx hb dX1_needs_79 (by decide) ?_
    refine lv_iload hx hb dX1_needs_80 (lv_at hl 0 rfl) ?_
    refine lv_iconst (v := 4) hx hb dX1_needs_82 (by decide) ?_
    refine lv_isub hx hb dX1_needs_83 ?_
    refine g_rd (g_runS (As := [.int 0, .int (((10 - (σ 0 2)) + 3) - 4)]) (rest := []) ky_yJ9_max_7cf53 lk_RX1_51 C (c_yJ9_max_7cf53 l 0 (((10 - (σ 0 2)) + 3) - 4)) ⟨rfl, rfl, by decide, by decide⟩ rfl hl.1 rfl (Nat.le_of_ble_eq_true rfl) ⟨Nat.zero_le _, Nat.zero_le _⟩ dX1_needs_84) ?_
    exact g_iret C hr hlk rfl (by rw [x_needs1, if_neg c1, if_neg c2, if_pos c3]) rfl rfl dX1_needs_87
  by_cases c4 : (σ 0 0) = 4
  · refine lv_as (y := 4) c4 ?_
    refine lv_tableIn (tgt := 88) (off := 63) hx hb dX1_needs_25 (by decide) (by decide) (by decide) (by decide) ?_
    refine lv_bipush (v := 99) hx hb dX1_needs_88 (by decide) ?_
    exact g_iret C hr hlk rfl (by rw [x_needs1, if_neg c1, if_neg c2, if_neg c3, if_pos c4]) rfl rfl dX1_needs_90
  by_cases c5 : (σ 0 0) = 5
  · refine lv_as (y := 5) c5 ?_
    refine lv_tableIn (tgt := 91) (off := 66) hx hb dX1_needs_25 (by decide) (by decide) (by decide) (by decide) ?_
    refine lv_iconst (v := 0) hx hb dX1_needs_91 (by decide) ?_
    exact g_iret C hr hlk rfl (by rw [x_needs1, if_neg c1, if_neg c2, if_neg c3, if_neg c4, if_pos c5]) rfl rfl dX1_needs_92
  by_cases c6 : (σ 0 0) = 6
  · refine lv_as (y := 6) c6 ?_
    refine lv_tableIn (tgt := 66) (off := 41) hx hb dX1_needs_25 (by decide) (by decide) (by decide) (by decide) ?_
    refine lv_iload_n hx hb dX1_needs_66 rfl (lv_at hl 4 rfl) ?_
    refine lv_if_eq (tgt := 74) hx hb dX1_needs_67 (by decide) (fun c7 => ?_) (fun c7 => ?_)
    · refine lv_iload_n hx hb dX1_needs_74 rfl (lv_at hl 1 rfl) ?_
      exact g_iret C hr hlk rfl (by rw [x_needs1, if_neg c1, if_neg c2, if_neg c3, if_neg c4, if_neg c5, if_pos c6, if_pos c7]) rfl rfl dX1_needs_75
    · refine lv_iconst (v := 1) hx hb dX1_needs_70 (by decide) ?_
      refine lv_goto (tgt := 75) hx hb dX1_needs_71 (by decide) ?_
      exact g_iret C hr hlk rfl (by rw [x_needs1, if_neg c1, if_neg c2, if_neg c3, if_neg c4, if_neg c5, if_pos c6, if_neg c7]) rfl rfl dX1_needs_75
  have h8 := lv_neT (a := 1) c1 (by decide)
  have h9 := lv_neT (a := 2) c2 (by decide)
  have h10 := lv_neT (a := 3) c3 (by decide)
  have h11 := lv_neT (a := 4) c4 (by decide)
  have h12 := lv_neT (a := 5) c5 (by decide)
  have h13 := lv_neT (a := 6) c6 (by decide)
  refine lv_tableOut (tgt := 93) hx hb dX1_needs_25 (by omega) (by decide) ?_
  refine lv_iload_n hx hb dX1_needs_93 rfl (lv_at hl 2 rfl) ?_
  exact g_iret C hr hlk rfl (by rw [x_needs1, if_neg c1, if_neg c2, if_neg c3, if_neg c4, if_neg c5, if_neg c6]) rfl rfl dX1_needs_94

def x_trait1 (σ : gM) (what : Int32) : Int32 := if what = 0 then (σ 0 0) else (if what = 1 then (σ 0 1) else (if what = 2 then (σ 0 2) else (if what = 3 then (σ 0 3) else (if what = 4 then (σ 0 4) else (if what = 5 then (σ 0 5) else (if what = 6 then (σ 0 6) else (if what = 7 then (x_keeps1 σ) else (if what = 8 then (x_hushes1 σ) else (if what = 9 then (x_stays1 σ) else (x_keeps1 σ))))))))))
def rm_yX1_trait : Room := { frames := 2, cells := 0, slots := 0, locals := 41 }
set_option maxHeartbeats 4000000 in
set_option maxRecDepth 100000 in
theorem c_yX1_trait (l : Launch) (G : gG) (ad : Nat → Nat) (hI : gI G.2.2.1 1 ad) (σ : gM) (what : Int32) : gRead l yX1_trait cX1_trait 2 (some .int) rm_yX1_trait G [.ref (ad 0), .int what] 1 ad (gE shG σ) (x_trait1 σ what) := by
  refine g_start [.ref (ad 0), .int what] (by decide +kernel) (Nat.le_of_ble_eq_true rfl) ?_
  intro p e s m below meth c ls B Z hl
  obtain ⟨C, hr, hlk⟩ := B
  have hx := C.1
  have hb := C.2.1
  obtain ⟨hX, hP⟩ := Z
  have hS : va_S (gA 1 ad) s.heap s.heap [] := va_S.rf
  have hl : lv_has ls 2 [(0, .ref (ad 0)), (1, .int what)] := hl
  refine lv_iload_n hx hb dX1_trait_0 rfl (lv_at hl 1 rfl) ?_
  by_cases c1 : what = 0
  · refine lv_as (y := 0) c1 ?_
    refine lv_tableIn (tgt := 56) (off := 55) hx hb dX1_trait_1 (by decide) (by decide) (by decide) (by decide) ?_
    refine lv_aload_n hx hb dX1_trait_56 rfl (lv_at hl 0 rfl) ?_
    refine g_get fd_RX1_19 C hX hP 0 (by decide) (shG_g _) (v := .int (σ 0 0)) rfl dX1_trait_57 ?_
    exact g_iret C hr hlk rfl (by rw [x_trait1, if_pos c1]) rfl rfl dX1_trait_60
  by_cases c2 : what = 1
  · refine lv_as (y := 1) c2 ?_
    refine lv_tableIn (tgt := 61) (off := 60) hx hb dX1_trait_1 (by decide) (by decide) (by decide) (by decide) ?_
    refine lv_aload_n hx hb dX1_trait_61 rfl (lv_at hl 0 rfl) ?_
    refine g_get fd_RX1_23 C hX hP 0 (by decide) (shG_g _) (v := .int (σ 0 1)) rfl dX1_trait_62 ?_
    exact g_iret C hr hlk rfl (by rw [x_trait1, if_neg c1, if_pos c2]) rfl rfl dX1_trait_65
  by_cases c3 : what = 2
  · refine lv_as (y := 2) c3 ?_
    refine lv_tableIn (tgt := 66) (off := 65) hx hb dX1_trait_1 (by decide) (by decide) (by decide) (by decide) ?_
    refine lv_aload_n hx hb dX1_trait_66 rfl (lv_at hl 0 rfl) ?_
    refine g_get fd_RX1_26 C hX hP 0 (by decide) (shG_g _) (v := .int (σ 0 2)) rfl dX1_trait_67 ?_
    exact g_iret C hr hlk rfl (by rw [x_trait1, if_neg c1, if_neg c2, if_pos c3]) rfl rfl dX1_trait_70
  by_cases c4 : what = 3
  · refine lv_as (y := 3) c4 ?_
    refine lv_tableIn (tgt := 71) (off := 70) hx hb dX1_trait_1 (by decide) (by decide) (by decide) (by decide) ?_
    refine lv_aload_n hx hb dX1_trait_71 rfl (lv_at hl 0 rfl) ?_
    refine g_get fd_RX1_29 C hX hP 0 (by decide) (shG_g _) (v := .int (σ 0 3)) rfl dX1_trait_72 ?_
    exact g_iret C hr hlk rfl (by rw [x_trait1, if_neg c1, if_neg c2, if_neg c3, if_pos c4]) rfl rfl dX1_trait_75
  by_cases c5 : what = 4
  · refine lv_as (y := 4) c5 ?_
    refine lv_tableIn (tgt := 76) (off := 75) hx hb dX1_trait_1 (by decide) (by decide) (by decide) (by decide) ?_
    refine lv_aload_n hx hb dX1_trait_76 rfl (lv_at hl 0 rfl) ?_
    refine g_get fd_RX1_32 C hX hP 0 (by decide) (shG_g _) (v := .int (σ 0 4)) rfl dX1_trait_77 ?_
    exact g_iret C hr hlk rfl (by rw [x_trait1, if_neg c1, if_neg c2, if_neg c3, if_neg c4, if_pos c5]) rfl rfl dX1_trait_80
  by_cases c6 : what = 5
  · refine lv_as (y := 5) c6 ?_
    refine lv_tableIn (tgt := 81) (off := 80) hx hb dX1_trait_1 (by decide) (by decide) (by decide) (by decide) ?_
    refine lv_aload_n hx hb dX1_trait_81 rfl (lv_at hl 0 rfl) ?_
    refine g_get fd_RX1_35 C hX hP 0 (by decide) (shG_g _) (v := .int (σ 0 5)) rfl dX1_trait_82 ?_
    exact g_iret C hr hlk rfl (by rw [x_trait1, if_neg c1, if_neg c2, if_neg c3, if_neg c4, if_neg c5, if_pos c6]) rfl rfl dX1_trait_85
  by_cases c7 : what = 6
  · refine lv_as (y := 6) c7 ?_
    refine lv_tableIn (tgt := 86) (off := 85) hx hb dX1_trait_1 (by decide) (by decide) (by decide) (by decide) ?_
    refine lv_aload_n hx hb dX1_trait_86 rfl (lv_at hl 0 rfl) ?_
    refine g_get fd_RX1_38 C hX hP 0 (by decide) (shG_g _) (v := .int (σ 0 6)) rfl dX1_trait_87 ?_
    exact g_iret C hr hlk rfl (by rw [x_trait1, if_neg c1, if_neg c2, if_neg c3, if_neg c4, if_neg c5, if_neg c6, if_pos c7]) rfl rfl dX1_trait_90
  by_cases c8 : what = 7
  · refine lv_as (y := 7) c8 ?_
    refine lv_tableIn (tgt := 101) (off := 100) hx hb dX1_trait_1 (by decide) (by decide) (by decide) (by decide) ?_
    refine lv_aload_n hx hb dX1_trait_101 rfl (lv_at hl 0 rfl) ?_
    refine g_rd (g_runV (As := []) (rest := []) ky_yX1_keeps lk_RX1_48 C hX (gS_b0 hI hS) hP 0 (c_yX1_keeps l G ad hI σ ) (by decide) (shG_g _) ⟨rfl, rfl, by decide, by decide⟩ rfl hl.1 rfl (Nat.le_of_ble_eq_true rfl) ⟨Nat.zero_le _, Nat.zero_le _⟩ dX1_trait_102) ?_
    exact g_iret C hr hlk rfl (by rw [x_trait1, if_neg c1, if_neg c2, if_neg c3, if_neg c4, if_neg c5, if_neg c6, if_neg c7, if_pos c8]) rfl rfl dX1_trait_105
  by_cases c9 : what = 8
  · refine lv_as (y := 8) c9 ?_
    refine lv_tableIn (tgt := 91) (off := 90) hx hb dX1_trait_1 (by decide) (by decide) (by decide) (by decide) ?_
    refine lv_aload_n hx hb dX1_trait_91 rfl (lv_at hl 0 rfl) ?_
    refine g_rd (g_runV (As := []) (rest := []) ky_yX1_hushes lk_RX1_41 C hX (gS_b0 hI hS) hP 0 (c_yX1_hushes l G ad hI σ ) (by decide) (shG_g _) ⟨rfl, rfl, by decide, by decide⟩ rfl hl.1 rfl (Nat.le_of_ble_eq_true rfl) ⟨Nat.zero_le _, Nat.zero_le _⟩ dX1_trait_92) ?_
    exact g_iret C hr hlk rfl (by rw [x_trait1, if_neg c1, if_neg c2, if_neg c3, if_neg c4, if_neg c5, if_neg c6, if_neg c7, if_neg c8, if_pos c9]) rfl rfl dX1_trait_95
  by_cases c10 : what = 9
  · refine lv_as (y := 9) c10 ?_
    refine lv_tableIn (tgt := 96) (off := 95) hx hb dX1_trait_1 (by decide) (by decide) (by decide) (by decide) ?_
    refine lv_aload_n hx hb dX1_trait_96 rfl (lv_at hl 0 rfl) ?_
    refine g_rd (g_runV (As := []) (rest := []) ky_yX1_stays lk_RX1_45 C hX (gS_b0 hI hS) hP 0 (c_yX1_stays l G ad hI σ ) (by decide) (shG_g _) ⟨rfl, rfl, by decide, by decide⟩ rfl hl.1 rfl (Nat.le_of_ble_eq_true rfl) ⟨Nat.zero_le _, Nat.zero_le _⟩ dX1_trait_97) ?_
    exact g_iret C hr hlk rfl (by rw [x_trait1, if_neg c1, if_neg c2, if_neg c3, if_neg c4, if_neg c5, if_neg c6, if_neg c7, if_neg c8, if_neg c9, if_pos c10]) rfl rfl dX1_trait_100
  have h11 := lv_neT (a := 0) c1 (by decide)
  have h12 := lv_neT (a := 1) c2 (by decide)
  have h13 := lv_neT (a := 2) c3 (by decide)
  have h14 := lv_neT (a := 3) c4 (by decide)
  have h15 := lv_neT (a := 4) c5 (by decide)
  have h16 := lv_neT (a := 5) c6 (by decide)
  have h17 := lv_neT (a := 6) c7 (by decide)
  have h18 := lv_neT (a := 7) c8 (by decide)
  have h19 := lv_neT (a := 8) c9 (by decide)
  have h20 := lv_neT (a := 9) c10 (by decide)
  refine lv_tableOut (tgt := 101) hx hb dX1_trait_1 (by omega) (by decide) ?_
  refine lv_aload_n hx hb dX1_trait_101 rfl (lv_at hl 0 rfl) ?_
  refine g_rd (g_runV (As := []) (rest := []) ky_yX1_keeps lk_RX1_48 C hX (gS_b0 hI hS) hP 0 (c_yX1_keeps l G ad hI σ ) (by decide) (shG_g _) ⟨rfl, rfl, by decide, by decide⟩ rfl hl.1 rfl (Nat.le_of_ble_eq_true rfl) ⟨Nat.zero_le _, Nat.zero_le _⟩ dX1_trait_102) ?_
  exact g_iret C hr hlk rfl (by rw [x_trait1, if_neg c1, if_neg c2, if_neg c3, if_neg c4, if_neg c5, if_neg c6, if_neg c7, if_neg c8, if_neg c9, if_neg c10]) rfl rfl dX1_trait_105

def x_setTrait1 (σ : gM) (what : Int32) (v : Int32) : gM := if what = 0 then (mset σ 0 0 v) else (if what = 1 then (mset σ 0 1 v) else (if what = 2 then (mset σ 0 2 v) else (if what = 3 then (mset σ 0 3 v) else (if what = 4 then (mset σ 0 4 v) else (if what = 5 then (mset σ 0 5 v) else (mset σ 0 6 v))))))
def rm_yX1_setTrait : Room := { frames := 0, cells := 0, slots := 0, locals := 0 }
set_option maxHeartbeats 4000000 in
set_option maxRecDepth 100000 in
theorem c_yX1_setTrait (l : Launch) (G : gG) (ad : Nat → Nat) (hI : gI G.2.2.1 1 ad) (σ : gM) (what : Int32) (v : Int32) : gMutV l yX1_setTrait cX1_setTrait 3 none rm_yX1_setTrait G [.ref (ad 0), .int what, .int v] 1 ad shG σ (x_setTrait1 σ what v) := by
  refine g_start [.ref (ad 0), .int what, .int v] (by decide +kernel) (Nat.le_of_ble_eq_true rfl) ?_
  intro p e s m below meth c ls B Z hl
  obtain ⟨C, hr, hlk⟩ := B
  have hx := C.1
  have hb := C.2.1
  obtain ⟨hX, hP⟩ := Z
  have hS : va_S (gA 1 ad) s.heap s.heap [] := va_S.rf
  revert hP hS
  intro hP hS
  have hl : lv_has ls 3 [(0, .ref (ad 0)), (1, .int what), (2, .int v)] := hl
  refine lv_iload_n hx hb dX1_setTrait_0 rfl (lv_at hl 1 rfl) ?_
  by_cases c1 : what = 0
  · refine lv_as (y := 0) c1 ?_
    refine lv_tableIn (tgt := 40) (off := 39) hx hb dX1_setTrait_1 (by decide) (by decide) (by decide) (by decide) ?_
    refine lv_aload_n hx hb dX1_setTrait_40 rfl (lv_at hl 0 rfl) ?_
    refine lv_iload_n hx hb dX1_setTrait_41 rfl (lv_at hl 2 rfl) ?_
    refine g_put fd_RX1_19 C hX hI hP hS 0 (by decide) (shG_g _) rfl rfl (Nat.le_of_ble_eq_true rfl) (upd (σ 0) 0 v) rfl dX1_setTrait_42 (fun H locs hP hS => ?_)
    have hP : gP G.1 1 ad (gE shG (mset σ 0 0 v)) H := hP
    refine lv_goto (tgt := 93) hx hb dX1_setTrait_45 (by decide) ?_
    exact g_vretM C hr hlk (by rw [x_setTrait1, if_pos c1]) hP hS dX1_setTrait_93
  by_cases c2 : what = 1
  · refine lv_as (y := 1) c2 ?_
    refine lv_tableIn (tgt := 48) (off := 47) hx hb dX1_setTrait_1 (by decide) (by decide) (by decide) (by decide) ?_
    refine lv_aload_n hx hb dX1_setTrait_48 rfl (lv_at hl 0 rfl) ?_
    refine lv_iload_n hx hb dX1_setTrait_49 rfl (lv_at hl 2 rfl) ?_
    refine g_put fd_RX1_23 C hX hI hP hS 0 (by decide) (shG_g _) rfl rfl (Nat.le_of_ble_eq_true rfl) (upd (σ 0) 1 v) rfl dX1_setTrait_50 (fun H locs hP hS => ?_)
    have hP : gP G.1 1 ad (gE shG (mset σ 0 1 v)) H := hP
    refine lv_goto (tgt := 93) hx hb dX1_setTrait_53 (by decide) ?_
    exact g_vretM C hr hlk (by rw [x_setTrait1, if_neg c1, if_pos c2]) hP hS dX1_setTrait_93
  by_cases c3 : what = 2
  · refine lv_as (y := 2) c3 ?_
    refine lv_tableIn (tgt := 56) (off := 55) hx hb dX1_setTrait_1 (by decide) (by decide) (by decide) (by decide) ?_
    refine lv_aload_n hx hb dX1_setTrait_56 rfl (lv_at hl 0 rfl) ?_
    refine lv_iload_n hx hb dX1_setTrait_57 rfl (lv_at hl 2 rfl) ?_
    refine g_put fd_RX1_26 C hX hI hP hS 0 (by decide) (shG_g _) rfl rfl (Nat.le_of_ble_eq_true rfl) (upd (σ 0) 2 v) rfl dX1_setTrait_58 (fun H locs hP hS => ?_)
    have hP : gP G.1 1 ad (gE shG (mset σ 0 2 v)) H := hP
    refine lv_goto (tgt := 93) hx hb dX1_setTrait_61 (by decide) ?_
    exact g_vretM C hr hlk (by rw [x_setTrait1, if_neg c1, if_neg c2, if_pos c3]) hP hS dX1_setTrait_93
  by_cases c4 : what = 3
  · refine lv_as (y := 3) c4 ?_
    refine lv_tableIn (tgt := 64) (off := 63) hx hb dX1_setTrait_1 (by decide) (by decide) (by decide) (by decide) ?_
    refine lv_aload_n hx hb dX1_setTrait_64 rfl (lv_at hl 0 rfl) ?_
    refine lv_iload_n hx hb dX1_setTrait_65 rfl (lv_at hl 2 rfl) ?_
    refine g_put fd_RX1_29 C hX hI hP hS 0 (by decide) (shG_g _) rfl rfl (Nat.le_of_ble_eq_true rfl) (upd (σ 0) 3 v) rfl dX1_setTrait_66 (fun H locs hP hS => ?_)
    have hP : gP G.1 1 ad (gE shG (mset σ 0 3 v)) H := hP
    refine lv_goto (tgt := 93) hx hb dX1_setTrait_69 (by decide) ?_
    exact g_vretM C hr hlk (by rw [x_setTrait1, if_neg c1, if_neg c2, if_neg c3, if_pos c4]) hP hS dX1_setTrait_93
  by_cases c5 : what = 4
  · refine lv_as (y := 4) c5 ?_
    refine lv_tableIn (tgt := 72) (off := 71) hx hb dX1_setTrait_1 (by decide) (by decide) (by decide) (by decide) ?_
    refine lv_aload_n hx hb dX1_setTrait_72 rfl (lv_at hl 0 rfl) ?_
    refine lv_iload_n hx hb dX1_setTrait_73 rfl (lv_at hl 2 rfl) ?_
    refine g_put fd_RX1_32 C hX hI hP hS 0 (by decide) (shG_g _) rfl rfl (Nat.le_of_ble_eq_true rfl) (upd (σ 0) 4 v) rfl dX1_setTrait_74 (fun H locs hP hS => ?_)
    have hP : gP G.1 1 ad (gE shG (mset σ 0 4 v)) H := hP
    refine lv_goto (tgt := 93) hx hb dX1_setTrait_77 (by decide) ?_
    exact g_vretM C hr hlk (by rw [x_setTrait1, if_neg c1, if_neg c2, if_neg c3, if_neg c4, if_pos c5]) hP hS dX1_setTrait_93
  by_cases c6 : what = 5
  · refine lv_as (y := 5) c6 ?_
    refine lv_tableIn (tgt := 80) (off := 79) hx hb dX1_setTrait_1 (by decide) (by decide) (by decide) (by decide) ?_
    refine lv_aload_n hx hb dX1_setTrait_80 rfl (lv_at hl 0 rfl) ?_
    refine lv_iload_n hx hb dX1_setTrait_81 rfl (lv_at hl 2 rfl) ?_
    refine g_put fd_RX1_35 C hX hI hP hS 0 (by decide) (shG_g _) rfl rfl (Nat.le_of_ble_eq_true rfl) (upd (σ 0) 5 v) rfl dX1_setTrait_82 (fun H locs hP hS => ?_)
    have hP : gP G.1 1 ad (gE shG (mset σ 0 5 v)) H := hP
    refine lv_goto (tgt := 93) hx hb dX1_setTrait_85 (by decide) ?_
    exact g_vretM C hr hlk (by rw [x_setTrait1, if_neg c1, if_neg c2, if_neg c3, if_neg c4, if_neg c5, if_pos c6]) hP hS dX1_setTrait_93
  have h7 := lv_neT (a := 0) c1 (by decide)
  have h8 := lv_neT (a := 1) c2 (by decide)
  have h9 := lv_neT (a := 2) c3 (by decide)
  have h10 := lv_neT (a := 3) c4 (by decide)
  have h11 := lv_neT (a := 4) c5 (by decide)
  have h12 := lv_neT (a := 5) c6 (by decide)
  refine lv_tableOut (tgt := 88) hx hb dX1_setTrait_1 (by omega) (by decide) ?_
  refine lv_aload_n hx hb dX1_setTrait_88 rfl (lv_at hl 0 rfl) ?_
  refine lv_iload_n hx hb dX1_setTrait_89 rfl (lv_at hl 2 rfl) ?_
  refine g_put fd_RX1_38 C hX hI hP hS 0 (by decide) (shG_g _) rfl rfl (Nat.le_of_ble_eq_true rfl) (upd (σ 0) 6 v) rfl dX1_setTrait_90 (fun H locs hP hS => ?_)
  have hP : gP G.1 1 ad (gE shG (mset σ 0 6 v)) H := hP
  exact g_vretM C hr hlk (by rw [x_setTrait1, if_neg c1, if_neg c2, if_neg c3, if_neg c4, if_neg c5, if_neg c6]) hP hS dX1_setTrait_93

def x_beNew1 (σ : gM) (newKind : Int32) (newRoom : Int32) : gM := (mset (mset (mset (mset (mset (mset (mset σ 0 0 newKind) 0 1 newRoom) 0 2 5) 0 3 0) 0 4 0) 0 5 0) 0 6 0)
def rm_yX1_beNew : Room := { frames := 0, cells := 0, slots := 0, locals := 0 }
set_option maxHeartbeats 4000000 in
set_option maxRecDepth 100000 in
theorem c_yX1_beNew (l : Launch) (G : gG) (ad : Nat → Nat) (hI : gI G.2.2.1 1 ad) (σ : gM) (newKind : Int32) (newRoom : Int32) : gMutV l yX1_beNew cX1_beNew 3 none rm_yX1_beNew G [.ref (ad 0), .int newKind, .int newRoom] 1 ad shG σ (x_beNew1 σ newKind newRoom) := by
  refine g_start [.ref (ad 0), .int newKind, .int newRoom] (by decide +kernel) (Nat.le_of_ble_eq_true rfl) ?_
  intro p e s m below meth c ls B Z hl
  obtain ⟨C, hr, hlk⟩ := B
  have hx := C.1
  have hb := C.2.1
  obtain ⟨hX, hP⟩ := Z
  have hS : va_S (gA 1 ad) s.heap s.heap [] := va_S.rf
  revert hP hS
  intro hP hS
  have hl : lv_has ls 3 [(0, .ref (ad 0)), (1, .int newKind), (2, .int newRoom)] := hl
  refine lv_aload_n hx hb dX1_beNew_0 rfl (lv_at hl 0 rfl) ?_
  refine lv_iload_n hx hb dX1_beNew_1 rfl (lv_at hl 1 rfl) ?_
  refine g_put fd_RX1_19 C hX hI hP hS 0 (by decide) (shG_g _) rfl rfl (Nat.le_of_ble_eq_true rfl) (upd (σ 0) 0 newKind) rfl dX1_beNew_2 (fun H locs hP hS => ?_)
  have hP : gP G.1 1 ad (gE shG (mset σ 0 0 newKind)) H := hP
  refine lv_aload_n hx hb dX1_beNew_5 rfl (lv_at hl 0 rfl) ?_
  refine lv_iload_n hx hb dX1_beNew_6 rfl (lv_at hl 2 rfl) ?_
  refine g_put fd_RX1_23 C hX hI hP hS 0 (by decide) (shG_g _) rfl rfl (Nat.le_of_ble_eq_true rfl) (upd ((mset σ 0 0 newKind) 0) 1 newRoom) rfl dX1_beNew_7 (fun H locs hP hS => ?_)
  have hP : gP G.1 1 ad (gE shG (mset (mset σ 0 0 newKind) 0 1 newRoom)) H := hP
  refine lv_aload_n hx hb dX1_beNew_10 rfl (lv_at hl 0 rfl) ?_
  refine lv_iconst (v := 5) hx hb dX1_beNew_11 (by decide) ?_
  refine g_put fd_RX1_26 C hX hI hP hS 0 (by decide) (shG_g _) rfl rfl (Nat.le_of_ble_eq_true rfl) (upd ((mset (mset σ 0 0 newKind) 0 1 newRoom) 0) 2 5) rfl dX1_beNew_12 (fun H locs hP hS => ?_)
  have hP : gP G.1 1 ad (gE shG (mset (mset (mset σ 0 0 newKind) 0 1 newRoom) 0 2 5)) H := hP
  refine lv_aload_n hx hb dX1_beNew_15 rfl (lv_at hl 0 rfl) ?_
  refine lv_iconst (v := 0) hx hb dX1_beNew_16 (by decide) ?_
  refine g_put fd_RX1_29 C hX hI hP hS 0 (by decide) (shG_g _) rfl rfl (Nat.le_of_ble_eq_true rfl) (upd ((mset (mset (mset σ 0 0 newKind) 0 1 newRoom) 0 2 5) 0) 3 0) rfl dX1_beNew_17 (fun H locs hP hS => ?_)
  have hP : gP G.1 1 ad (gE shG (mset (mset (mset (mset σ 0 0 newKind) 0 1 newRoom) 0 2 5) 0 3 0)) H := hP
  refine lv_aload_n hx hb dX1_beNew_20 rfl (lv_at hl 0 rfl) ?_
  refine lv_iconst (v := 0) hx hb dX1_beNew_21 (by decide) ?_
  refine g_put fd_RX1_32 C hX hI hP hS 0 (by decide) (shG_g _) rfl rfl (Nat.le_of_ble_eq_true rfl) (upd ((mset (mset (mset (mset σ 0 0 newKind) 0 1 newRoom) 0 2 5) 0 3 0) 0) 4 0) rfl dX1_beNew_22 (fun H locs hP hS => ?_)
  have hP : gP G.1 1 ad (gE shG (mset (mset (mset (mset (mset σ 0 0 newKind) 0 1 newRoom) 0 2 5) 0 3 0) 0 4 0)) H := hP
  refine lv_aload_n hx hb dX1_beNew_25 rfl (lv_at hl 0 rfl) ?_
  refine lv_iconst (v := 0) hx hb dX1_beNew_26 (by decide) ?_
  refine g_put fd_RX1_35 C hX hI hP hS 0 (by decide) (shG_g _) rfl rfl (Nat.le_of_ble_eq_true rfl) (upd ((mset (mset (mset (mset (mset σ 0 0 newKind) 0 1 newRoom) 0 2 5) 0 3 0) 0 4 0) 0) 5 0) rfl dX1_beNew_27 (fun H locs hP hS => ?_)
  have hP : gP G.1 1 ad (gE shG (mset (mset (mset (mset (mset (mset σ 0 0 newKind) 0 1 newRoom) 0 2 5) 0 3 0) 0 4 0) 0 5 0)) H := hP
  refine lv_aload_n hx hb dX1_beNew_30 rfl (lv_at hl 0 rfl) ?_
  refine lv_iconst (v := 0) hx hb dX1_beNew_31 (by decide) ?_
  refine g_put fd_RX1_38 C hX hI hP hS 0 (by decide) (shG_g _) rfl rfl (Nat.le_of_ble_eq_true rfl) (upd ((mset (mset (mset (mset (mset (mset σ 0 0 newKind) 0 1 newRoom) 0 2 5) 0 3 0) 0 4 0) 0 5 0) 0) 6 0) rfl dX1_beNew_32 (fun H locs hP hS => ?_)
  have hP : gP G.1 1 ad (gE shG (mset (mset (mset (mset (mset (mset (mset σ 0 0 newKind) 0 1 newRoom) 0 2 5) 0 3 0) 0 4 0) 0 5 0) 0 6 0)) H := hP
  exact g_vretM C hr hlk (by rw [x_beNew1]) hP hS dX1_beNew_35

def x_become1 (σ : gM) : gM := (mset (mset (mset (mset (mset (mset (mset σ 0 0 (σ 1 0)) 0 1 (σ 1 1)) 0 2 (σ 1 2)) 0 3 (σ 1 3)) 0 4 (σ 1 4)) 0 5 (σ 1 5)) 0 6 (σ 1 6))
def rm_yX1_become : Room := { frames := 0, cells := 0, slots := 0, locals := 0 }
set_option maxHeartbeats 4000000 in
set_option maxRecDepth 100000 in
theorem c_yX1_become (l : Launch) (G : gG) (ad : Nat → Nat) (hI : gI G.2.2.1 2 ad) (σ : gM) : gMutV l yX1_become cX1_become 2 none rm_yX1_become G [.ref (ad 0), .ref (ad 1)] 2 ad shG σ (x_become1 σ) := by
  refine g_start [.ref (ad 0), .ref (ad 1)] (by decide +kernel) (Nat.le_of_ble_eq_true rfl) ?_
  intro p e s m below meth c ls B Z hl
  obtain ⟨C, hr, hlk⟩ := B
  have hx := C.1
  have hb := C.2.1
  obtain ⟨hX, hP⟩ := Z
  have hS : va_S (gA 2 ad) s.heap s.heap [] := va_S.rf
  revert hP hS
  intro hP hS
  have hl : lv_has ls 2 [(0, .ref (ad 0)), (1, .ref (ad 1))] := hl
  refine lv_aload_n hx hb dX1_become_0 rfl (lv_at hl 0 rfl) ?_
  refine lv_aload_n hx hb dX1_become_1 rfl (lv_at hl 1 rfl) ?_
  refine g_get fd_RX1_19 C hX hP 1 (by decide) (shG_g _) (v := .int (σ 1 0)) rfl dX1_become_2 ?_
  refine g_put fd_RX1_19 C hX hI hP hS 0 (by decide) (shG_g _) rfl rfl (Nat.le_of_ble_eq_true rfl) (upd (σ 0) 0 (σ 1 0)) rfl dX1_become_5 (fun H locs hP hS => ?_)
  have hP : gP G.1 2 ad (gE shG (mset σ 0 0 (σ 1 0))) H := hP
  refine lv_aload_n hx hb dX1_become_8 rfl (lv_at hl 0 rfl) ?_
  refine lv_aload_n hx hb dX1_become_9 rfl (lv_at hl 1 rfl) ?_
  refine g_get fd_RX1_23 C hX hP 1 (by decide) (shG_g _) (v := .int (σ 1 1)) rfl dX1_become_10 ?_
  refine g_put fd_RX1_23 C hX hI hP hS 0 (by decide) (shG_g _) rfl rfl (Nat.le_of_ble_eq_true rfl) (upd ((mset σ 0 0 (σ 1 0)) 0) 1 (σ 1 1)) rfl dX1_become_13 (fun H locs hP hS => ?_)
  have hP : gP G.1 2 ad (gE shG (mset (mset σ 0 0 (σ 1 0)) 0 1 (σ 1 1))) H := hP
  refine lv_aload_n hx hb dX1_become_16 rfl (lv_at hl 0 rfl) ?_
  refine lv_aload_n hx hb dX1_become_17 rfl (lv_at hl 1 rfl) ?_
  refine g_get fd_RX1_26 C hX hP 1 (by decide) (shG_g _) (v := .int (σ 1 2)) rfl dX1_become_18 ?_
  refine g_put fd_RX1_26 C hX hI hP hS 0 (by decide) (shG_g _) rfl rfl (Nat.le_of_ble_eq_true rfl) (upd ((mset (mset σ 0 0 (σ 1 0)) 0 1 (σ 1 1)) 0) 2 (σ 1 2)) rfl dX1_become_21 (fun H locs hP hS => ?_)
  have hP : gP G.1 2 ad (gE shG (mset (mset (mset σ 0 0 (σ 1 0)) 0 1 (σ 1 1)) 0 2 (σ 1 2))) H := hP
  refine lv_aload_n hx hb dX1_become_24 rfl (lv_at hl 0 rfl) ?_
  refine lv_aload_n hx hb dX1_become_25 rfl (lv_at hl 1 rfl) ?_
  refine g_get fd_RX1_29 C hX hP 1 (by decide) (shG_g _) (v := .int (σ 1 3)) rfl dX1_become_26 ?_
  refine g_put fd_RX1_29 C hX hI hP hS 0 (by decide) (shG_g _) rfl rfl (Nat.le_of_ble_eq_true rfl) (upd ((mset (mset (mset σ 0 0 (σ 1 0)) 0 1 (σ 1 1)) 0 2 (σ 1 2)) 0) 3 (σ 1 3)) rfl dX1_become_29 (fun H locs hP hS => ?_)
  have hP : gP G.1 2 ad (gE shG (mset (mset (mset (mset σ 0 0 (σ 1 0)) 0 1 (σ 1 1)) 0 2 (σ 1 2)) 0 3 (σ 1 3))) H := hP
  refine lv_aload_n hx hb dX1_become_32 rfl (lv_at hl 0 rfl) ?_
  refine lv_aload_n hx hb dX1_become_33 rfl (lv_at hl 1 rfl) ?_
  refine g_get fd_RX1_32 C hX hP 1 (by decide) (shG_g _) (v := .int (σ 1 4)) rfl dX1_become_34 ?_
  refine g_put fd_RX1_32 C hX hI hP hS 0 (by decide) (shG_g _) rfl rfl (Nat.le_of_ble_eq_true rfl) (upd ((mset (mset (mset (mset σ 0 0 (σ 1 0)) 0 1 (σ 1 1)) 0 2 (σ 1 2)) 0 3 (σ 1 3)) 0) 4 (σ 1 4)) rfl dX1_become_37 (fun H locs hP hS => ?_)
  have hP : gP G.1 2 ad (gE shG (mset (mset (mset (mset (mset σ 0 0 (σ 1 0)) 0 1 (σ 1 1)) 0 2 (σ 1 2)) 0 3 (σ 1 3)) 0 4 (σ 1 4))) H := hP
  refine lv_aload_n hx hb dX1_become_40 rfl (lv_at hl 0 rfl) ?_
  refine lv_aload_n hx hb dX1_become_41 rfl (lv_at hl 1 rfl) ?_
  refine g_get fd_RX1_35 C hX hP 1 (by decide) (shG_g _) (v := .int (σ 1 5)) rfl dX1_become_42 ?_
  refine g_put fd_RX1_35 C hX hI hP hS 0 (by decide) (shG_g _) rfl rfl (Nat.le_of_ble_eq_true rfl) (upd ((mset (mset (mset (mset (mset σ 0 0 (σ 1 0)) 0 1 (σ 1 1)) 0 2 (σ 1 2)) 0 3 (σ 1 3)) 0 4 (σ 1 4)) 0) 5 (σ 1 5)) rfl dX1_become_45 (fun H locs hP hS => ?_)
  have hP : gP G.1 2 ad (gE shG (mset (mset (mset (mset (mset (mset σ 0 0 (σ 1 0)) 0 1 (σ 1 1)) 0 2 (σ 1 2)) 0 3 (σ 1 3)) 0 4 (σ 1 4)) 0 5 (σ 1 5))) H := hP
  refine lv_aload_n hx hb dX1_become_48 rfl (lv_at hl 0 rfl) ?_
  refine lv_aload_n hx hb dX1_become_49 rfl (lv_at hl 1 rfl) ?_
  refine g_get fd_RX1_38 C hX hP 1 (by decide) (shG_g _) (v := .int (σ 1 6)) rfl dX1_become_50 ?_
  refine g_put fd_RX1_38 C hX hI hP hS 0 (by decide) (shG_g _) rfl rfl (Nat.le_of_ble_eq_true rfl) (upd ((mset (mset (mset (mset (mset (mset σ 0 0 (σ 1 0)) 0 1 (σ 1 1)) 0 2 (σ 1 2)) 0 3 (σ 1 3)) 0 4 (σ 1 4)) 0 5 (σ 1 5)) 0) 6 (σ 1 6)) rfl dX1_become_53 (fun H locs hP hS => ?_)
  have hP : gP G.1 2 ad (gE shG (mset (mset (mset (mset (mset (mset (mset σ 0 0 (σ 1 0)) 0 1 (σ 1 1)) 0 2 (σ 1 2)) 0 3 (σ 1 3)) 0 4 (σ 1 4)) 0 5 (σ 1 5)) 0 6 (σ 1 6))) H := hP
  exact g_vretM C hr hlk (by rw [x_become1]) hP hS dX1_become_56

def x_beDrawnOn1 (σ : gM) : gM := (mset (mset (mset (mset (mset σ 0 5 ((σ 0 5) ||| (σ 0 3))) 0 3 0) 0 4 0) 0 6 (j_min (tb_most.getD 6 0) ((σ 0 6) + 1))) 0 1 (jrem ((σ 0 1) + 1) 6))
def rm_yX1_beDrawnOn : Room := { frames := 1, cells := 0, slots := 0, locals := 21 }
set_option maxHeartbeats 4000000 in
set_option maxRecDepth 100000 in
theorem c_yX1_beDrawnOn (l : Launch) (G : gG) (ad : Nat → Nat) (hI : gI G.2.2.1 1 ad) (σ : gM) : gMutV l yX1_beDrawnOn cX1_beDrawnOn 1 none rm_yX1_beDrawnOn G [.ref (ad 0)] 1 ad shG σ (x_beDrawnOn1 σ) := by
  refine g_start [.ref (ad 0)] (by decide +kernel) (Nat.le_of_ble_eq_true rfl) ?_
  intro p e s m below meth c ls B Z hl
  obtain ⟨C, hr, hlk⟩ := B
  have hx := C.1
  have hb := C.2.1
  obtain ⟨hX, hP⟩ := Z
  have hS : va_S (gA 1 ad) s.heap s.heap [] := va_S.rf
  revert hP hS
  intro hP hS
  have hl : lv_has ls 1 [(0, .ref (ad 0))] := hl
  refine lv_aload_n hx hb dX1_beDrawnOn_0 rfl (lv_at hl 0 rfl) ?_
  refine lv_dup hx hb dX1_beDrawnOn_1 rfl ?_
  refine g_get fd_RX1_35 C hX hP 0 (by decide) (shG_g _) (v := .int (σ 0 5)) rfl dX1_beDrawnOn_2 ?_
  refine lv_aload_n hx hb dX1_beDrawnOn_5 rfl (lv_at hl 0 rfl) ?_
  refine g_get fd_RX1_29 C hX hP 0 (by decide) (shG_g _) (v := .int (σ 0 3)) rfl dX1_beDrawnOn_6 ?_
  refine lv_ior hx hb dX1_beDrawnOn_9 ?_
  refine g_put fd_RX1_35 C hX hI hP hS 0 (by decide) (shG_g _) rfl rfl (Nat.le_of_ble_eq_true rfl) (upd (σ 0) 5 ((σ 0 5) ||| (σ 0 3))) rfl dX1_beDrawnOn_10 (fun H locs hP hS => ?_)
  have hP : gP G.1 1 ad (gE shG (mset σ 0 5 ((σ 0 5) ||| (σ 0 3)))) H := hP
  refine lv_aload_n hx hb dX1_beDrawnOn_13 rfl (lv_at hl 0 rfl) ?_
  refine lv_iconst (v := 0) hx hb dX1_beDrawnOn_14 (by decide) ?_
  refine g_put fd_RX1_29 C hX hI hP hS 0 (by decide) (shG_g _) rfl rfl (Nat.le_of_ble_eq_true rfl) (upd ((mset σ 0 5 ((σ 0 5) ||| (σ 0 3))) 0) 3 0) rfl dX1_beDrawnOn_15 (fun H locs hP hS => ?_)
  have hP : gP G.1 1 ad (gE shG (mset (mset σ 0 5 ((σ 0 5) ||| (σ 0 3))) 0 3 0)) H := hP
  refine lv_aload_n hx hb dX1_beDrawnOn_18 rfl (lv_at hl 0 rfl) ?_
  refine lv_iconst (v := 0) hx hb dX1_beDrawnOn_19 (by decide) ?_
  refine g_put fd_RX1_32 C hX hI hP hS 0 (by decide) (shG_g _) rfl rfl (Nat.le_of_ble_eq_true rfl) (upd ((mset (mset σ 0 5 ((σ 0 5) ||| (σ 0 3))) 0 3 0) 0) 4 0) rfl dX1_beDrawnOn_20 (fun H locs hP hS => ?_)
  have hP : gP G.1 1 ad (gE shG (mset (mset (mset σ 0 5 ((σ 0 5) ||| (σ 0 3))) 0 3 0) 0 4 0)) H := hP
  refine lv_aload_n hx hb dX1_beDrawnOn_23 rfl (lv_at hl 0 rfl) ?_
  obtain ⟨t1, zt1, yt1⟩ := hX.2.2.1.2.2.2
  refine g_gets zt1 C (gS_b0 hI hS) fs_RX1_15 dX1_beDrawnOn_24 ?_
  refine lv_bipush (v := 6) hx hb dX1_beDrawnOn_27 (by decide) ?_
  refine lv_as (y := nI 6) rfl ?_
  refine g_ti yt1 C (gS_b0 hI hS) 6 (by omega) (by decide) dX1_beDrawnOn_29 ?_
  refine lv_aload_n hx hb dX1_beDrawnOn_30 rfl (lv_at hl 0 rfl) ?_
  refine g_get fd_RX1_38 C hX hP 0 (by decide) (shG_g _) (v := .int (σ 0 6)) rfl dX1_beDrawnOn_31 ?_
  refine lv_iconst (v := 1) hx hb dX1_beDrawnOn_34 (by decide) ?_
  refine lv_iadd hx hb dX1_beDrawnOn_35 ?_
  refine g_rd (g_runS (As := [.int (tb_most.getD 6 0), .int ((σ 0 6) + 1)]) (rest := [.ref (ad 0)]) ky_yJ9_min_7cf53 lk_RX1_72 C (c_yJ9_min_7cf53 l (tb_most.getD 6 0) ((σ 0 6) + 1)) ⟨rfl, rfl, by decide, by decide⟩ rfl hl.1 rfl (Nat.le_of_ble_eq_true rfl) ⟨Nat.zero_le _, Nat.zero_le _⟩ dX1_beDrawnOn_36) ?_
  refine g_put fd_RX1_38 C hX hI hP hS 0 (by decide) (shG_g _) rfl rfl (Nat.le_of_ble_eq_true rfl) (upd ((mset (mset (mset σ 0 5 ((σ 0 5) ||| (σ 0 3))) 0 3 0) 0 4 0) 0) 6 (j_min (tb_most.getD 6 0) ((σ 0 6) + 1))) rfl dX1_beDrawnOn_39 (fun H locs hP hS => ?_)
  have hP : gP G.1 1 ad (gE shG (mset (mset (mset (mset σ 0 5 ((σ 0 5) ||| (σ 0 3))) 0 3 0) 0 4 0) 0 6 (j_min (tb_most.getD 6 0) ((σ 0 6) + 1)))) H := hP
  refine lv_aload_n hx hb dX1_beDrawnOn_42 rfl (lv_at hl 0 rfl) ?_
  refine lv_aload_n hx hb dX1_beDrawnOn_43 rfl (lv_at hl 0 rfl) ?_
  refine g_get fd_RX1_23 C hX hP 0 (by decide) (shG_g _) (v := .int (σ 0 1)) rfl dX1_beDrawnOn_44 ?_
  refine lv_iconst (v := 1) hx hb dX1_beDrawnOn_47 (by decide) ?_
  refine lv_iadd hx hb dX1_beDrawnOn_48 ?_
  refine lv_bipush (v := 6) hx hb dX1_beDrawnOn_49 (by decide) ?_
  refine g_irem hx hb dX1_beDrawnOn_51 (by decide) ?_
  refine g_put fd_RX1_23 C hX hI hP hS 0 (by decide) (shG_g _) rfl rfl (Nat.le_of_ble_eq_true rfl) (upd ((mset (mset (mset (mset σ 0 5 ((σ 0 5) ||| (σ 0 3))) 0 3 0) 0 4 0) 0 6 (j_min (tb_most.getD 6 0) ((σ 0 6) + 1))) 0) 1 (jrem ((σ 0 1) + 1) 6)) rfl dX1_beDrawnOn_52 (fun H locs hP hS => ?_)
  have hP : gP G.1 1 ad (gE shG (mset (mset (mset (mset (mset σ 0 5 ((σ 0 5) ||| (σ 0 3))) 0 3 0) 0 4 0) 0 6 (j_min (tb_most.getD 6 0) ((σ 0 6) + 1))) 0 1 (jrem ((σ 0 1) + 1) 6))) H := hP
  exact g_vretM C hr hlk (by rw [x_beDrawnOn1]) hP hS dX1_beDrawnOn_55

def x_lieOneDay1 (σ : gM) : gM := if (x_stays1 (mset σ 0 4 (j_min (tb_most.getD 4 0) ((σ 0 4) + 1)))) ≤ 0 then (mset σ 0 4 (j_min (tb_most.getD 4 0) ((σ 0 4) + 1))) else (if (j_min (tb_most.getD 4 0) ((σ 0 4) + 1)) < (x_stays1 (mset σ 0 4 (j_min (tb_most.getD 4 0) ((σ 0 4) + 1)))) then (mset σ 0 4 (j_min (tb_most.getD 4 0) ((σ 0 4) + 1))) else (x_beDrawnOn1 (mset σ 0 4 (j_min (tb_most.getD 4 0) ((σ 0 4) + 1)))))
def rm_yX1_lieOneDay : Room := { frames := 2, cells := 0, slots := 0, locals := 41 }
set_option maxHeartbeats 4000000 in
set_option maxRecDepth 100000 in
theorem c_yX1_lieOneDay (l : Launch) (G : gG) (ad : Nat → Nat) (hI : gI G.2.2.1 1 ad) (σ : gM) : gMutV l yX1_lieOneDay cX1_lieOneDay 2 none rm_yX1_lieOneDay G [.ref (ad 0)] 1 ad shG σ (x_lieOneDay1 σ) := by
  refine g_start [.ref (ad 0)] (by decide +kernel) (Nat.le_of_ble_eq_true rfl) ?_
  intro p e s m below meth c ls B Z hl
  obtain ⟨C, hr, hlk⟩ := B
  have hx := C.1
  have hb := C.2.1
  obtain ⟨hX, hP⟩ := Z
  have hS : va_S (gA 1 ad) s.heap s.heap [] := va_S.rf
  revert hP hS
  intro hP hS
  have hl : lv_has ls 2 [(0, .ref (ad 0))] := hl
  refine lv_aload_n hx hb dX1_lieOneDay_0 rfl (lv_at hl 0 rfl) ?_
  obtain ⟨t1, zt1, yt1⟩ := hX.2.2.1.2.2.2
  refine g_gets zt1 C (gS_b0 hI hS) fs_RX1_15 dX1_lieOneDay_1 ?_
  refine lv_iconst (v := 4) hx hb dX1_lieOneDay_4 (by decide) ?_
  refine lv_as (y := nI 4) rfl ?_
  refine g_ti yt1 C (gS_b0 hI hS) 4 (by omega) (by decide) dX1_lieOneDay_5 ?_
  refine lv_aload_n hx hb dX1_lieOneDay_6 rfl (lv_at hl 0 rfl) ?_
  refine g_get fd_RX1_32 C hX hP 0 (by decide) (shG_g _) (v := .int (σ 0 4)) rfl dX1_lieOneDay_7 ?_
  refine lv_iconst (v := 1) hx hb dX1_lieOneDay_10 (by decide) ?_
  refine lv_iadd hx hb dX1_lieOneDay_11 ?_
  refine g_rd (g_runS (As := [.int (tb_most.getD 4 0), .int ((σ 0 4) + 1)]) (rest := [.ref (ad 0)]) ky_yJ9_min_7cf53 lk_RX1_72 C (c_yJ9_min_7cf53 l (tb_most.getD 4 0) ((σ 0 4) + 1)) ⟨rfl, rfl, by decide, by decide⟩ rfl hl.1 rfl (Nat.le_of_ble_eq_true rfl) ⟨Nat.zero_le _, Nat.zero_le _⟩ dX1_lieOneDay_12) ?_
  refine g_put fd_RX1_32 C hX hI hP hS 0 (by decide) (shG_g _) rfl rfl (Nat.le_of_ble_eq_true rfl) (upd (σ 0) 4 (j_min (tb_most.getD 4 0) ((σ 0 4) + 1))) rfl dX1_lieOneDay_15 (fun H locs hP hS => ?_)
  have hP : gP G.1 1 ad (gE shG (mset σ 0 4 (j_min (tb_most.getD 4 0) ((σ 0 4) + 1)))) H := hP
  refine lv_aload_n hx hb dX1_lieOneDay_18 rfl (lv_at hl 0 rfl) ?_
  refine g_rd (g_runV (As := []) (rest := []) ky_yX1_stays lk_RX1_45 C hX (gS_b0 hI hS) hP 0 (c_yX1_stays l G ad hI (mset σ 0 4 (j_min (tb_most.getD 4 0) ((σ 0 4) + 1))) ) (by decide) (shG_g _) ⟨rfl, rfl, by decide, by decide⟩ rfl hl.1 rfl (Nat.le_of_ble_eq_true rfl) ⟨Nat.zero_le _, Nat.zero_le _⟩ dX1_lieOneDay_19) ?_
  refine lv_istore_n (lv' := [(1, .int (x_stays1 (mset σ 0 4 (j_min (tb_most.getD 4 0) ((σ 0 4) + 1))))), (0, .ref (ad 0))]) hx hb dX1_lieOneDay_22 rfl hl (by decide) rfl (fun ls hl => ?_)
  refine lv_iload_n hx hb dX1_lieOneDay_23 rfl (lv_at hl 0 rfl) ?_
  refine lv_if_le (tgt := 39) hx hb dX1_lieOneDay_24 (by decide) (fun c2 => ?_) (fun c2 => ?_)
  · exact g_vretM C hr hlk (by rw [x_lieOneDay1, if_pos c2]) hP hS dX1_lieOneDay_39
  · refine lv_aload_n hx hb dX1_lieOneDay_27 rfl (lv_at hl 1 rfl) ?_
    refine g_get fd_RX1_32 C hX hP 0 (by decide) (shG_g _) (v := .int (j_min (tb_most.getD 4 0) ((σ 0 4) + 1))) rfl dX1_lieOneDay_28 ?_
    refine lv_iload_n hx hb dX1_lieOneDay_31 rfl (lv_at hl 0 rfl) ?_
    refine lv_icmp_lt (tgt := 39) hx hb dX1_lieOneDay_32 (by decide) (fun c3 => ?_) (fun c3 => ?_)
    · exact g_vretM C hr hlk (by rw [x_lieOneDay1, if_neg c2, if_pos c3]) hP hS dX1_lieOneDay_39
    · refine lv_aload_n hx hb dX1_lieOneDay_35 rfl (lv_at hl 1 rfl) ?_
      refine g_wrV0 hS (g_runV (As := []) (rest := []) ky_yX1_beDrawnOn lk_RX1_75 C hX (gS_b0 hI hS) hP 0 (c_yX1_beDrawnOn l G ad hI (mset σ 0 4 (j_min (tb_most.getD 4 0) ((σ 0 4) + 1))) ) (by decide) (shG_g _) ⟨rfl, rfl, by decide, by decide⟩ rfl hl.1 rfl (Nat.le_of_ble_eq_true rfl) ⟨Nat.zero_le _, Nat.zero_le _⟩ dX1_lieOneDay_36) (fun H locs hP hS => ?_)
      exact g_vretM C hr hlk (by rw [x_lieOneDay1, if_neg c2, if_neg c3]) hP hS dX1_lieOneDay_39

def x_takeIn1 (σ : gM) (topic : Int32) : gM := if (j_bitCount ((σ 0 3) ||| (jshl 1 topic))) ≤ (x_keeps1 (mset σ 0 3 ((σ 0 3) ||| (jshl 1 topic)))) then (mset σ 0 3 ((σ 0 3) ||| (jshl 1 topic))) else (mset (mset σ 0 3 ((σ 0 3) ||| (jshl 1 topic))) 0 3 ((jshl 1 topic) ||| ((((σ 0 3) ||| (jshl 1 topic)) &&& ((jshl 1 topic) ^^^ (-1))) &&& ((((σ 0 3) ||| (jshl 1 topic)) &&& ((jshl 1 topic) ^^^ (-1))) - 1))))
def rm_yX1_takeIn : Room := { frames := 2, cells := 0, slots := 0, locals := 41 }
set_option maxHeartbeats 4000000 in
set_option maxRecDepth 100000 in
theorem c_yX1_takeIn (l : Launch) (G : gG) (ad : Nat → Nat) (hI : gI G.2.2.1 1 ad) (σ : gM) (topic : Int32) : gMutV l yX1_takeIn cX1_takeIn 4 none rm_yX1_takeIn G [.ref (ad 0), .int topic] 1 ad shG σ (x_takeIn1 σ topic) := by
  refine g_start [.ref (ad 0), .int topic] (by decide +kernel) (Nat.le_of_ble_eq_true rfl) ?_
  intro p e s m below meth c ls B Z hl
  obtain ⟨C, hr, hlk⟩ := B
  have hx := C.1
  have hb := C.2.1
  obtain ⟨hX, hP⟩ := Z
  have hS : va_S (gA 1 ad) s.heap s.heap [] := va_S.rf
  revert hP hS
  intro hP hS
  have hl : lv_has ls 4 [(0, .ref (ad 0)), (1, .int topic)] := hl
  refine lv_iconst (v := 1) hx hb dX1_takeIn_0 (by decide) ?_
  refine lv_iload_n hx hb dX1_takeIn_1 rfl (lv_at hl 1 rfl) ?_
  refine g_ishl hx hb dX1_takeIn_2 ?_
  refine lv_istore_n (lv' := [(2, .int (jshl 1 topic)), (0, .ref (ad 0)), (1, .int topic)]) hx hb dX1_takeIn_3 rfl hl (by decide) rfl (fun ls hl => ?_)
  refine lv_aload_n hx hb dX1_takeIn_4 rfl (lv_at hl 1 rfl) ?_
  refine lv_dup hx hb dX1_takeIn_5 rfl ?_
  refine g_get fd_RX1_29 C hX hP 0 (by decide) (shG_g _) (v := .int (σ 0 3)) rfl dX1_takeIn_6 ?_
  refine lv_iload_n hx hb dX1_takeIn_9 rfl (lv_at hl 0 rfl) ?_
  refine lv_ior hx hb dX1_takeIn_10 ?_
  refine g_put fd_RX1_29 C hX hI hP hS 0 (by decide) (shG_g _) rfl rfl (Nat.le_of_ble_eq_true rfl) (upd (σ 0) 3 ((σ 0 3) ||| (jshl 1 topic))) rfl dX1_takeIn_11 (fun H locs hP hS => ?_)
  have hP : gP G.1 1 ad (gE shG (mset σ 0 3 ((σ 0 3) ||| (jshl 1 topic)))) H := hP
  refine lv_aload_n hx hb dX1_takeIn_14 rfl (lv_at hl 1 rfl) ?_
  refine g_get fd_RX1_29 C hX hP 0 (by decide) (shG_g _) (v := .int ((σ 0 3) ||| (jshl 1 topic))) rfl dX1_takeIn_15 ?_
  refine g_rd (g_runS (As := [.int ((σ 0 3) ||| (jshl 1 topic))]) (rest := []) ky_yJ6_bitCount_0f7a4 lk_RX1_66 C (c_yJ6_bitCount_0f7a4 l ((σ 0 3) ||| (jshl 1 topic))) ⟨rfl, rfl, by decide, by decide⟩ rfl hl.1 rfl (Nat.le_of_ble_eq_true rfl) ⟨Nat.zero_le _, Nat.zero_le _⟩ dX1_takeIn_18) ?_
  refine lv_aload_n hx hb dX1_takeIn_21 rfl (lv_at hl 1 rfl) ?_
  refine g_rd (g_runV (As := []) (rest := [.int (j_bitCount ((σ 0 3) ||| (jshl 1 topic)))]) ky_yX1_keeps lk_RX1_48 C hX (gS_b0 hI hS) hP 0 (c_yX1_keeps l G ad hI (mset σ 0 3 ((σ 0 3) ||| (jshl 1 topic))) ) (by decide) (shG_g _) ⟨rfl, rfl, by decide, by decide⟩ rfl hl.1 rfl (Nat.le_of_ble_eq_true rfl) ⟨Nat.zero_le _, Nat.zero_le _⟩ dX1_takeIn_22) ?_
  refine lv_icmp_le (tgt := 48) hx hb dX1_takeIn_25 (by decide) (fun c1 => ?_) (fun c1 => ?_)
  · exact g_vretM C hr hlk (by rw [x_takeIn1, if_pos c1]) hP hS dX1_takeIn_48
  · refine lv_aload_n hx hb dX1_takeIn_28 rfl (lv_at hl 1 rfl) ?_
    refine g_get fd_RX1_29 C hX hP 0 (by decide) (shG_g _) (v := .int ((σ 0 3) ||| (jshl 1 topic))) rfl dX1_takeIn_29 ?_
    refine lv_iload_n hx hb dX1_takeIn_32 rfl (lv_at hl 0 rfl) ?_
    refine lv_iconst (v := (-1)) hx hb dX1_takeIn_33 (by decide) ?_
    refine lv_ixor hx hb dX1_takeIn_34 ?_
    refine lv_iand hx hb dX1_takeIn_35 ?_
    refine lv_istore_n (lv' := [(3, .int (((σ 0 3) ||| (jshl 1 topic)) &&& ((jshl 1 topic) ^^^ (-1)))), (2, .int (jshl 1 topic)), (0, .ref (ad 0)), (1, .int topic)]) hx hb dX1_takeIn_36 rfl hl (by decide) rfl (fun ls hl => ?_)
    refine lv_aload_n hx hb dX1_takeIn_37 rfl (lv_at hl 2 rfl) ?_
    refine lv_iload_n hx hb dX1_takeIn_38 rfl (lv_at hl 1 rfl) ?_
    refine lv_iload_n hx hb dX1_takeIn_39 rfl (lv_at hl 0 rfl) ?_
    refine lv_iload_n hx hb dX1_takeIn_40 rfl (lv_at hl 0 rfl) ?_
    refine lv_iconst (v := 1) hx hb dX1_takeIn_41 (by decide) ?_
    refine lv_isub hx hb dX1_takeIn_42 ?_
    refine lv_iand hx hb dX1_takeIn_43 ?_
    refine lv_ior hx hb dX1_takeIn_44 ?_
    refine g_put fd_RX1_29 C hX hI hP hS 0 (by decide) (shG_g _) rfl rfl (Nat.le_of_ble_eq_true rfl) (upd ((mset σ 0 3 ((σ 0 3) ||| (jshl 1 topic))) 0) 3 ((jshl 1 topic) ||| ((((σ 0 3) ||| (jshl 1 topic)) &&& ((jshl 1 topic) ^^^ (-1))) &&& ((((σ 0 3) ||| (jshl 1 topic)) &&& ((jshl 1 topic) ^^^ (-1))) - 1)))) rfl dX1_takeIn_45 (fun H locs hP hS => ?_)
    have hP : gP G.1 1 ad (gE shG (mset (mset σ 0 3 ((σ 0 3) ||| (jshl 1 topic))) 0 3 ((jshl 1 topic) ||| ((((σ 0 3) ||| (jshl 1 topic)) &&& ((jshl 1 topic) ^^^ (-1))) &&& ((((σ 0 3) ||| (jshl 1 topic)) &&& ((jshl 1 topic) ^^^ (-1))) - 1))))) H := hP
    exact g_vretM C hr hlk (by rw [x_takeIn1, if_neg c1]) hP hS dX1_takeIn_48

def x_isA1_L7 (σ : gM) (wanted : Int32) : Nat → Nat → Int32 → Int32
  | 0, i, own => 0
  | n7 + 1, i, own => if (x_isWithin own 6) = 0 then 0 else (if own = wanted then 1 else (x_isA1_L7 σ wanted n7 (i + 1) (tb_above.getD (nN own) 0)))
def x_isA1 (σ : gM) (wanted : Int32) : Int32 := (x_isA1_L7 σ wanted 7 0 (σ 0 0))
def rm_yX1_isA : Room := { frames := 1, cells := 0, slots := 0, locals := 21 }
set_option maxHeartbeats 4000000 in
set_option maxRecDepth 100000 in
theorem c_yX1_isA (l : Launch) (G : gG) (ad : Nat → Nat) (hI : gI G.2.2.1 1 ad) (σ : gM) (wanted : Int32) : gRead l yX1_isA cX1_isA 4 (some .boolean) rm_yX1_isA G [.ref (ad 0), .int wanted] 1 ad (gE shG σ) (x_isA1 σ wanted) := by
  refine g_start [.ref (ad 0), .int wanted] (by decide +kernel) (Nat.le_of_ble_eq_true rfl) ?_
  intro p e s m below meth c ls B Z hl
  obtain ⟨C, hr, hlk⟩ := B
  have hx := C.1
  have hb := C.2.1
  obtain ⟨hX, hP⟩ := Z
  have hS : va_S (gA 1 ad) s.heap s.heap [] := va_S.rf
  have hl : lv_has ls 4 [(0, .ref (ad 0)), (1, .int wanted)] := hl
  refine lv_aload_n hx hb dX1_isA_0 rfl (lv_at hl 0 rfl) ?_
  refine g_get fd_RX1_19 C hX hP 0 (by decide) (shG_g _) (v := .int (σ 0 0)) rfl dX1_isA_1 ?_
  refine lv_istore_n (lv' := [(2, .int (σ 0 0)), (0, .ref (ad 0)), (1, .int wanted)]) hx hb dX1_isA_4 rfl hl (by decide) rfl (fun ls hl => ?_)
  refine lv_iconst (v := 0) hx hb dX1_isA_5 (by decide) ?_
  refine lv_istore_n (lv' := [(3, .int 0), (2, .int (σ 0 0)), (0, .ref (ad 0)), (1, .int wanted)]) hx hb dX1_isA_6 rfl hl (by decide) rfl (fun ls hl => ?_)
  suffices loop7 : ∀ (n7 : Nat) (i : Nat) (own : Int32) (ls : Array Slot), (i + n7 = 7) → x_isA1 σ wanted = (x_isA1_L7 σ wanted n7 i own) → lv_has ls 4 [(3, .int (nI i)), (2, .int own), (0, .ref (ad 0)), (1, .int wanted)] → W p l e rm_yX1_isA s m ([.ref (ad 0), .int wanted] : List Value).toArray below meth c s.heap [] 0 0 (MQ below (vp_Si (fun x => x = x_isA1 σ wanted)) ([.ref (ad 0), .int wanted] : List Value).toArray s 0 0 (fun _ => False)) (F0 m 7 ls []) by
    exact loop7 7 0 (σ 0 0) _ rfl (by rw [x_isA1]) (lv_sub hl [0, 1, 2, 3] rfl)
  intro n7
  induction n7 with
  | zero =>
    intro i own ls hi hres7 hl
    refine lv_iload_n hx hb dX1_isA_7 rfl (lv_at hl 0 rfl) ?_
    refine lv_bipush (v := 7) hx hb dX1_isA_8 (by decide) ?_
    refine lv_icmp_ge (tgt := 41) hx hb dX1_isA_10 (by decide) (fun c1 => ?_) (fun c1 => ?_)
    · refine lv_iconst (v := 0) hx hb dX1_isA_41 (by decide) ?_
      exact g_iret C hr hlk rfl (by rw [hres7, x_isA1_L7]) rfl rfl dX1_isA_42
    · exact absurd (show nI 7 ≤ nI i from nI_le (by omega) (by omega)) c1
  | succ n7 ih7 =>
    intro i own ls hi hres7 hl
    refine lv_iload_n hx hb dX1_isA_7 rfl (lv_at hl 0 rfl) ?_
    refine lv_bipush (v := 7) hx hb dX1_isA_8 (by decide) ?_
    refine lv_icmp_ge (tgt := 41) hx hb dX1_isA_10 (by decide) (fun c2 => ?_) (fun c2 => ?_)
    · exact absurd (show nI 7 ≤ nI i from c2) (nI_ge (by omega) (by omega))
    · refine lv_iload_n hx hb dX1_isA_13 rfl (lv_at hl 1 rfl) ?_
      refine lv_bipush (v := 6) hx hb dX1_isA_14 (by decide) ?_
      refine g_rd (g_runSN (As := [.int own, .int 6]) (rest := []) ky_yX6_isWithin ln_RX1_11 hX C (c_yX6_isWithin l own 6) ⟨rfl, rfl, by decide, by decide⟩ rfl hl.1 rfl (Nat.le_of_ble_eq_true rfl) ⟨Nat.zero_le _, Nat.zero_le _⟩ dX1_isA_16) ?_
      refine lv_if_eq (tgt := 41) hx hb dX1_isA_19 (by decide) (fun c3 => ?_) (fun c3 => ?_)
      · refine lv_iconst (v := 0) hx hb dX1_isA_41 (by decide) ?_
        exact g_iret C hr hlk rfl (by rw [hres7, x_isA1_L7, if_pos c3]) rfl rfl dX1_isA_42
      · obtain ⟨hw1, hw2⟩ := isW_of (M := 6) (by decide) c3
        refine lv_iload_n hx hb dX1_isA_22 rfl (lv_at hl 1 rfl) ?_
        refine lv_iload_n hx hb dX1_isA_23 rfl (lv_at hl 3 rfl) ?_
        refine lv_icmp_ne (tgt := 29) hx hb dX1_isA_24 (by decide) (fun c4 => ?_) (fun c4 => ?_)
        · obtain ⟨t5, zt5, yt5⟩ := hX.2.2.1.1
          refine g_gets zt5 C (gS_b0 hI hS) fs_RX1_63 dX1_isA_29 ?_
          refine lv_iload_n hx hb dX1_isA_32 rfl (lv_at hl 1 rfl) ?_
          refine lv_as (y := (nI (nN own))) hw1 ?_
          refine g_ti yt5 C (gS_b0 hI hS) (nN own) (by omega) (by decide) dX1_isA_33 ?_
          refine lv_istore_n (lv' := [(2, .int (tb_above.getD (nN own) 0)), (3, .int (nI i)), (0, .ref (ad 0)), (1, .int wanted)]) hx hb dX1_isA_34 rfl hl (by decide) rfl (fun ls hl => ?_)
          refine lv_iinc (v := (nI (i + 1))) (lv' := [(3, .int (nI (i + 1))), (2, .int (tb_above.getD (nN own) 0)), (0, .ref (ad 0)), (1, .int wanted)]) hx hb dX1_isA_35 hl (k := 1) rfl (by exact nI_1 _) (by decide) rfl (fun ls hl => ?_)
          refine lv_goto (tgt := 7) hx hb dX1_isA_38 (by decide) ?_
          exact ih7 (i + 1) (tb_above.getD (nN own) 0) _ (by omega) (by rw [hres7, x_isA1_L7, if_neg c3, if_neg c4]) (lv_sub hl [0, 1, 2, 3] rfl)
        · refine lv_iconst (v := 1) hx hb dX1_isA_27 (by decide) ?_
          exact g_iret C hr hlk rfl (by rw [hres7, x_isA1_L7, if_neg c3, if_pos c4]) rfl rfl dX1_isA_28
