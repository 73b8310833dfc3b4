def x_finding (σ : gM) (told : Int32) : Int32 × gM := if (x_isWithin ((-1000001) - told) 6) = 0 then (told, σ) else (told, (mset σ 45 (nN ((-1000001) - told)) ((σ 45 (nN ((-1000001) - told))) + 1)))
def rm_yX6_finding : Room := { frames := 1, cells := 0, slots := 0, locals := 21 }
set_option maxHeartbeats 4000000 in
set_option maxRecDepth 100000 in
theorem c_yX6_finding (l : Launch) (G : gG) (ad : Nat → Nat) (hI : gI G.2.2.1 55 ad) (σ : gM) (told : Int32) : gMutI l yX6_finding cX6_finding 3 (some .int) rm_yX6_finding G [.ref (ad 44), .int told] 55 ad (shX G ad) σ (x_finding σ told) := by
  refine g_start [.ref (ad 44), .int told] (by decide +kernel) (Nat.le_of_ble_eq_true rfl) ?_
  intro p e s m below meth c ls B Z hl
  obtain ⟨C, hr, hlk⟩ := B
  have hx := C.1
  have hb := C.2.1
  obtain ⟨hX, hP⟩ := Z
  have hS : va_S (gA 55 ad) s.heap s.heap [] := va_S.rf
  revert hP hS
  intro hP hS
  have hl : lv_has ls 3 [(0, .ref (ad 44)), (1, .int told)] := hl
  refine lv_ldc hx hb C.2.2.2.1 (C.2.2.2.2 _ kc_RX6_59) dX6_finding_0 ?_
  refine lv_iload_n hx hb dX6_finding_2 rfl (lv_at hl 1 rfl) ?_
  refine lv_isub hx hb dX6_finding_3 ?_
  refine lv_istore_n (lv' := [(2, .int ((-1000001) - told)), (0, .ref (ad 44)), (1, .int told)]) hx hb dX6_finding_4 rfl hl (by decide) rfl (fun ls hl => ?_)
  refine lv_iload_n hx hb dX6_finding_5 rfl (lv_at hl 0 rfl) ?_
  refine lv_bipush (v := 6) hx hb dX6_finding_6 (by decide) ?_
  refine g_rd (g_runS (As := [.int ((-1000001) - told), .int 6]) (rest := []) ky_yX6_isWithin lk_RX6_51 C (c_yX6_isWithin l ((-1000001) - told) 6) ⟨rfl, rfl, by decide, by decide⟩ rfl hl.1 rfl (Nat.le_of_ble_eq_true rfl) ⟨Nat.zero_le _, Nat.zero_le _⟩ dX6_finding_8) ?_
  refine lv_if_eq (tgt := 24) hx hb dX6_finding_11 (by decide) (fun c1 => ?_) (fun c1 => ?_)
  · refine lv_iload_n hx hb dX6_finding_24 rfl (lv_at hl 2 rfl) ?_
    exact g_iretM C hr hlk rfl (by rw [x_finding, if_pos c1]) hP hS dX6_finding_25
  · obtain ⟨hw1, hw2⟩ := isW_of (M := 6) (by decide) c1
    refine lv_aload_n hx hb dX6_finding_14 rfl (lv_at hl 1 rfl) ?_
    refine g_get fd_RX6_47 C hX hP 44 (by decide) (shX_44 G ad _) (v := .ref (ad 45)) rfl dX6_finding_15 ?_
    refine lv_iload_n hx hb dX6_finding_18 rfl (lv_at hl 0 rfl) ?_
    refine lv_as (y := (nI (nN ((-1000001) - told)))) hw1 ?_
    refine lv_dup2_11 hx hb dX6_finding_19 rfl rfl ?_
    refine g_iald C hX hP 45 (by decide) (shX_45 G ad _) (nN ((-1000001) - told)) (by omega) (by decide) dX6_finding_20 ?_
    refine lv_iconst (v := 1) hx hb dX6_finding_21 (by decide) ?_
    refine lv_iadd hx hb dX6_finding_22 ?_
    refine g_iast C hX hI hP hS 45 (by decide) (shX_45 G ad _) (nN ((-1000001) - told)) (by omega) (by decide) (upd (σ 45) (nN ((-1000001) - told)) ((σ 45 (nN ((-1000001) - told))) + 1)) rfl dX6_finding_23 (fun H locs hP hS => ?_)
    have hP : gP G.1 55 ad (gE (shX G ad) (mset σ 45 (nN ((-1000001) - told)) ((σ 45 (nN ((-1000001) - told))) + 1))) H := hP
    refine lv_iload_n hx hb dX6_finding_24 rfl (lv_at hl 2 rfl) ?_
    exact g_iretM C hr hlk rfl (by rw [x_finding, if_neg c1]) hP hS dX6_finding_25

def x_say (σ : gM) (pl : Int32) (saying : Int32) : Int32 × gM := if (x_isWithin pl 5) = 0 then ((x_finding σ (-1000001)).1, (x_finding σ (-1000001)).2) else (if (x_isSaying saying) = 0 then ((x_finding σ (-1000001)).1, (x_finding σ (-1000001)).2) else ((σ 9 (nN pl)), (mset σ 9 (nN pl) saying)))
def rm_yX6_say : Room := { frames := 2, cells := 0, slots := 0, locals := 43 }
set_option maxHeartbeats 4000000 in
set_option maxRecDepth 100000 in
theorem c_yX6_say (l : Launch) (G : gG) (ad : Nat → Nat) (hI : gI G.2.2.1 55 ad) (σ : gM) (pl : Int32) (saying : Int32) : gMutI l yX6_say cX6_say 4 (some .int) rm_yX6_say G [.ref (ad 44), .int pl, .int saying] 55 ad (shX G ad) σ (x_say σ pl saying) := by
  refine g_start [.ref (ad 44), .int pl, .int saying] (by decide +kernel) (Nat.le_of_ble_eq_true rfl) ?_
  intro p e s m below meth c ls B Z hl
  obtain ⟨C, hr, hlk⟩ := B
  have hx := C.1
  have hb := C.2.1
  obtain ⟨hX, hP⟩ := Z
  have hS : va_S (gA 55 ad) s.heap s.heap [] := va_S.rf
  revert hP hS
  intro hP hS
  have hl : lv_has ls 4 [(0, .ref (ad 44)), (1, .int pl), (2, .int saying)] := hl
  refine lv_iload_n hx hb dX6_say_0 rfl (lv_at hl 1 rfl) ?_
  refine lv_iconst (v := 5) hx hb dX6_say_1 (by decide) ?_
  refine g_rd (g_runS (As := [.int pl, .int 5]) (rest := []) ky_yX6_isWithin lk_RX6_51 C (c_yX6_isWithin l pl 5) ⟨rfl, rfl, by decide, by decide⟩ rfl hl.1 rfl (Nat.le_of_ble_eq_true rfl) ⟨Nat.zero_le _, Nat.zero_le _⟩ dX6_say_2) ?_
  refine lv_if_eq (tgt := 15) hx hb dX6_say_5 (by decide) (fun c1 => ?_) (fun c1 => ?_)
  · refine lv_aload_n hx hb dX6_say_15 rfl (lv_at hl 0 rfl) ?_
    refine lv_ldc hx hb C.2.2.2.1 (C.2.2.2.2 _ kc_RX6_59) dX6_say_16 ?_
    refine g_wrI0 hS (g_runV (As := [.int (-1000001)]) (rest := []) ky_yX6_finding lk_RX6_60 C hX (gS_b0 hI hS) hP 44 (c_yX6_finding l G ad hI σ (-1000001)) (by decide) (shX_44 G ad _) ⟨rfl, rfl, by decide, by decide⟩ rfl hl.1 rfl (Nat.le_of_ble_eq_true rfl) ⟨Nat.zero_le _, Nat.zero_le _⟩ dX6_say_18) (fun H locs hP hS => ?_)
    exact g_iretM C hr hlk rfl (by rw [x_say, if_pos c1]) hP hS dX6_say_21
  · obtain ⟨hp1, hp2⟩ := isW_of (M := 5) (by decide) c1
    refine lv_iload_n hx hb dX6_say_8 rfl (lv_at hl 2 rfl) ?_
    refine g_rd (g_runS (As := [.int saying]) (rest := []) ky_yX6_isSaying lk_RX6_55 C (c_yX6_isSaying l saying) ⟨rfl, rfl, by decide, by decide⟩ rfl hl.1 rfl (Nat.le_of_ble_eq_true rfl) ⟨Nat.zero_le _, Nat.zero_le _⟩ dX6_say_9) ?_
    refine lv_if_ne (tgt := 22) hx hb dX6_say_12 (by decide) (fun c2 => ?_) (fun c2 => ?_)
    · refine lv_aload_n hx hb dX6_say_22 rfl (lv_at hl 0 rfl) ?_
      refine g_get fd_RX6_12 C hX hP 44 (by decide) (shX_44 G ad _) (v := .ref (ad 8)) rfl dX6_say_23 ?_
      refine g_get fd_RX6_64 C hX hP 8 (by decide) (shX_8 G ad _) (v := .ref (ad 9)) rfl dX6_say_26 ?_
      refine lv_iload_n hx hb dX6_say_29 rfl (lv_at hl 1 rfl) ?_
      refine lv_as (y := (nI (nN pl))) hp1 ?_
      refine g_iald C hX hP 9 (by decide) (shX_9 G ad _) (nN pl) (by omega) (by decide) dX6_say_30 ?_
      refine lv_istore_n (lv' := [(3, .int (σ 9 (nN pl))), (0, .ref (ad 44)), (1, .int pl), (2, .int saying)]) hx hb dX6_say_31 rfl hl (by decide) rfl (fun ls hl => ?_)
      refine lv_aload_n hx hb dX6_say_32 rfl (lv_at hl 1 rfl) ?_
      refine g_get fd_RX6_12 C hX hP 44 (by decide) (shX_44 G ad _) (v := .ref (ad 8)) rfl dX6_say_33 ?_
      refine g_get fd_RX6_64 C hX hP 8 (by decide) (shX_8 G ad _) (v := .ref (ad 9)) rfl dX6_say_36 ?_
      refine lv_iload_n hx hb dX6_say_39 rfl (lv_at hl 2 rfl) ?_
      refine lv_as (y := (nI (nN pl))) hp1 ?_
      refine lv_iload_n hx hb dX6_say_40 rfl (lv_at hl 3 rfl) ?_
      refine g_iast C hX hI hP hS 9 (by decide) (shX_9 G ad _) (nN pl) (by omega) (by decide) (upd (σ 9) (nN pl) saying) rfl dX6_say_41 (fun H locs hP hS => ?_)
      have hP : gP G.1 55 ad (gE (shX G ad) (mset σ 9 (nN pl) saying)) H := hP
      refine lv_iload_n hx hb dX6_say_42 rfl (lv_at hl 0 rfl) ?_
      exact g_iretM C hr hlk rfl (by rw [x_say, if_neg c1, if_neg c2]) hP hS dX6_say_43
    · refine lv_aload_n hx hb dX6_say_15 rfl (lv_at hl 0 rfl) ?_
      refine lv_ldc hx hb C.2.2.2.1 (C.2.2.2.2 _ kc_RX6_59) dX6_say_16 ?_
      refine g_wrI0 hS (g_runV (As := [.int (-1000001)]) (rest := []) ky_yX6_finding lk_RX6_60 C hX (gS_b0 hI hS) hP 44 (c_yX6_finding l G ad hI σ (-1000001)) (by decide) (shX_44 G ad _) ⟨rfl, rfl, by decide, by decide⟩ rfl hl.1 rfl (Nat.le_of_ble_eq_true rfl) ⟨Nat.zero_le _, Nat.zero_le _⟩ dX6_say_18) (fun H locs hP hS => ?_)
      exact g_iretM C hr hlk rfl (by rw [x_say, if_neg c1, if_pos c2]) hP hS dX6_say_21

def x_said (σ : gM) (pl : Int32) : Int32 × gM := if (x_isWithin pl 5) = 0 then ((x_finding σ (-1000001)).1, (x_finding σ (-1000001)).2) else ((σ 9 (nN pl)), σ)
def rm_yX6_said : Room := { frames := 2, cells := 0, slots := 0, locals := 43 }
set_option maxHeartbeats 4000000 in
set_option maxRecDepth 100000 in
theorem c_yX6_said (l : Launch) (G : gG) (ad : Nat → Nat) (hI : gI G.2.2.1 55 ad) (σ : gM) (pl : Int32) : gMutI l yX6_said cX6_said 2 (some .int) rm_yX6_said G [.ref (ad 44), .int pl] 55 ad (shX G ad) σ (x_said σ pl) := by
  refine g_start [.ref (ad 44), .int pl] (by decide +kernel) (Nat.le_of_ble_eq_true rfl) ?_
  intro p e s m below meth c ls B Z hl
  obtain ⟨C, hr, hlk⟩ := B
  have hx := C.1
  have hb := C.2.1
  obtain ⟨hX, hP⟩ := Z
  have hS : va_S (gA 55 ad) s.heap s.heap [] := va_S.rf
  revert hP hS
  intro hP hS
  have hl : lv_has ls 2 [(0, .ref (ad 44)), (1, .int pl)] := hl
  refine lv_iload_n hx hb dX6_said_0 rfl (lv_at hl 1 rfl) ?_
  refine lv_iconst (v := 5) hx hb dX6_said_1 (by decide) ?_
  refine g_rd (g_runS (As := [.int pl, .int 5]) (rest := []) ky_yX6_isWithin lk_RX6_51 C (c_yX6_isWithin l pl 5) ⟨rfl, rfl, by decide, by decide⟩ rfl hl.1 rfl (Nat.le_of_ble_eq_true rfl) ⟨Nat.zero_le _, Nat.zero_le _⟩ dX6_said_2) ?_
  refine lv_if_ne (tgt := 15) hx hb dX6_said_5 (by decide) (fun c1 => ?_) (fun c1 => ?_)
  · obtain ⟨hp1, hp2⟩ := isW_of (M := 5) (by decide) c1
    refine lv_aload_n hx hb dX6_said_15 rfl (lv_at hl 0 rfl) ?_
    refine g_get fd_RX6_12 C hX hP 44 (by decide) (shX_44 G ad _) (v := .ref (ad 8)) rfl dX6_said_16 ?_
    refine g_get fd_RX6_64 C hX hP 8 (by decide) (shX_8 G ad _) (v := .ref (ad 9)) rfl dX6_said_19 ?_
    refine lv_iload_n hx hb dX6_said_22 rfl (lv_at hl 1 rfl) ?_
    refine lv_as (y := (nI (nN pl))) hp1 ?_
    refine g_iald C hX hP 9 (by decide) (shX_9 G ad _) (nN pl) (by omega) (by decide) dX6_said_23 ?_
    exact g_iretM C hr hlk rfl (by rw [x_said, if_neg c1]) hP hS dX6_said_24
  · refine lv_aload_n hx hb dX6_said_8 rfl (lv_at hl 0 rfl) ?_
    refine lv_ldc hx hb C.2.2.2.1 (C.2.2.2.2 _ kc_RX6_59) dX6_said_9 ?_
    refine g_wrI0 hS (g_runV (As := [.int (-1000001)]) (rest := []) ky_yX6_finding lk_RX6_60 C hX (gS_b0 hI hS) hP 44 (c_yX6_finding l G ad hI σ (-1000001)) (by decide) (shX_44 G ad _) ⟨rfl, rfl, by decide, by decide⟩ rfl hl.1 rfl (Nat.le_of_ble_eq_true rfl) ⟨Nat.zero_le _, Nat.zero_le _⟩ dX6_said_11) (fun H locs hP hS => ?_)
    exact g_iretM C hr hlk rfl (by rw [x_said, if_pos c1]) hP hS dX6_said_14

def x_room (σ : gM) (room : Int32) (what : Int32) : Int32 × gM := if (x_isWithin room 5) = 0 then ((x_finding σ (-1000001)).1, (x_finding σ (-1000001)).2) else (if what = 0 then ((x_lyingIn0 (mget σ 0) room 0), σ) else (if what = 1 then ((x_hushOf0 (mget σ 0) (x_lyingIn0 (mget σ 0) room 0)), σ) else (if what = 2 then ((x_knownBy0 (mget σ 0) (x_lyingIn0 (mget σ 0) room 0)), σ) else (if what = 3 then ((x_saidIn0 (mget σ 0) room), σ) else ((x_finding σ (-1000001)).1, (x_finding σ (-1000001)).2)))))
def rm_yX6_room : Room := { frames := 2, cells := 0, slots := 0, locals := 44 }
set_option maxHeartbeats 4000000 in
set_option maxRecDepth 100000 in
theorem c_yX6_room (l : Launch) (G : gG) (ad : Nat → Nat) (hI : gI G.2.2.1 55 ad) (σ : gM) (room : Int32) (what : Int32) (N : Nat) (hN : N ≤ 8) (hs : σ 8 0 = nI N) : gMutI l yX6_room cX6_room 4 (some .int) rm_yX6_room G [.ref (ad 44), .int room, .int what] 55 ad (shX G ad) σ (x_room σ room what) := by
  refine g_start [.ref (ad 44), .int room, .int what] (by decide +kernel) (Nat.le_of_ble_eq_true rfl) ?_
  intro p e s m below meth c ls B Z hl
  obtain ⟨C, hr, hlk⟩ := B
  have hx := C.1
  have hb := C.2.1
  obtain ⟨hX, hP⟩ := Z
  have hS : va_S (gA 55 ad) s.heap s.heap [] := va_S.rf
  revert hP hS
  intro hP hS
  have hl : lv_has ls 4 [(0, .ref (ad 44)), (1, .int room), (2, .int what)] := hl
  refine lv_iload_n hx hb dX6_room_0 rfl (lv_at hl 1 rfl) ?_
  refine lv_iconst (v := 5) hx hb dX6_room_1 (by decide) ?_
  refine g_rd (g_runS (As := [.int room, .int 5]) (rest := []) ky_yX6_isWithin lk_RX6_51 C (c_yX6_isWithin l room 5) ⟨rfl, rfl, by decide, by decide⟩ rfl hl.1 rfl (Nat.le_of_ble_eq_true rfl) ⟨Nat.zero_le _, Nat.zero_le _⟩ dX6_room_2) ?_
  refine lv_if_ne (tgt := 15) hx hb dX6_room_5 (by decide) (fun c1 => ?_) (fun c1 => ?_)
  · refine lv_aload_n hx hb dX6_room_15 rfl (lv_at hl 0 rfl) ?_
    refine g_get fd_RX6_12 C hX hP 44 (by decide) (shX_44 G ad _) (v := .ref (ad 8)) rfl dX6_room_16 ?_
    refine lv_iload_n hx hb dX6_room_19 rfl (lv_at hl 1 rfl) ?_
    refine lv_iconst (v := 0) hx hb dX6_room_20 (by decide) ?_
    refine g_rd (g_runV (As := [.int room, .int 0]) (rest := []) ky_yX0_lyingIn lk_RX6_67 C hX (gS_b0 hI hS) (hP.sub (sh1 := (shC G (fun q_ => ad (0 + q_)))) 0 12 (by omega) (shX_club G ad)) 8 (c_yX0_lyingIn l G (fun q_ => ad (0 + q_)) (hI.sub (m := 12) 0 (by omega)) (mget σ 0) room 0 N hN hs) (by decide) (shC_8 G (fun q_ => ad (0 + q_)) _) ⟨rfl, rfl, by decide, by decide⟩ rfl hl.1 rfl (Nat.le_of_ble_eq_true rfl) ⟨Nat.zero_le _, Nat.zero_le _⟩ dX6_room_21) ?_
    refine lv_istore_n (lv' := [(3, .int (x_lyingIn0 (mget σ 0) room 0)), (0, .ref (ad 44)), (1, .int room), (2, .int what)]) hx hb dX6_room_24 rfl hl (by decide) rfl (fun ls hl => ?_)
    refine lv_iload_n hx hb dX6_room_25 rfl (lv_at hl 3 rfl) ?_
    by_cases c2 : what = 0
    · refine lv_as (y := 0) c2 ?_
      refine lv_tableIn (tgt := 56) (off := 30) hx hb dX6_room_26 (by decide) (by decide) (by decide) (by decide) ?_
      refine lv_iload_n hx hb dX6_room_56 rfl (lv_at hl 0 rfl) ?_
      exact g_iretM C hr hlk rfl (by rw [x_room, if_neg c1, if_pos c2]) hP hS dX6_room_57
    by_cases c3 : what = 1
    · refine lv_as (y := 1) c3 ?_
      refine lv_tableIn (tgt := 58) (off := 32) hx hb dX6_room_26 (by decide) (by decide) (by decide) (by decide) ?_
      refine lv_aload_n hx hb dX6_room_58 rfl (lv_at hl 1 rfl) ?_
      refine g_get fd_RX6_12 C hX hP 44 (by decide) (shX_44 G ad _) (v := .ref (ad 8)) rfl dX6_room_59 ?_
      refine lv_iload_n hx hb dX6_room_62 rfl (lv_at hl 0 rfl) ?_
      refine g_rd (g_runV (As := [.int (x_lyingIn0 (mget σ 0) room 0)]) (rest := []) ky_yX0_hushOf lk_RX6_71 C hX (gS_b0 hI hS) (hP.sub (sh1 := (shC G (fun q_ => ad (0 + q_)))) 0 12 (by omega) (shX_club G ad)) 8 (c_yX0_hushOf l G (fun q_ => ad (0 + q_)) (hI.sub (m := 12) 0 (by omega)) (mget σ 0) (x_lyingIn0 (mget σ 0) room 0) N hN hs) (by decide) (shC_8 G (fun q_ => ad (0 + q_)) _) ⟨rfl, rfl, by decide, by decide⟩ rfl hl.1 rfl (Nat.le_of_ble_eq_true rfl) ⟨Nat.zero_le _, Nat.zero_le _⟩ dX6_room_63) ?_
      exact g_iretM C hr hlk rfl (by rw [x_room, if_neg c1, if_neg c2, if_pos c3]) hP hS dX6_room_66
    by_cases c4 : what = 2
    · refine lv_as (y := 2) c4 ?_
      refine lv_tableIn (tgt := 67) (off := 41) hx hb dX6_room_26 (by decide) (by decide) (by decide) (by decide) ?_
      refine lv_aload_n hx hb dX6_room_67 rfl (lv_at hl 1 rfl) ?_
      refine g_get fd_RX6_12 C hX hP 44 (by decide) (shX_44 G ad _) (v := .ref (ad 8)) rfl dX6_room_68 ?_
      refine lv_iload_n hx hb dX6_room_71 rfl (lv_at hl 0 rfl) ?_
      refine g_rd (g_runV (As := [.int (x_lyingIn0 (mget σ 0) room 0)]) (rest := []) ky_yX0_knownBy lk_RX6_74 C hX (gS_b0 hI hS) (hP.sub (sh1 := (shC G (fun q_ => ad (0 + q_)))) 0 12 (by omega) (shX_club G ad)) 8 (c_yX0_knownBy l G (fun q_ => ad (0 + q_)) (hI.sub (m := 12) 0 (by omega)) (mget σ 0) (x_lyingIn0 (mget σ 0) room 0) N hN hs) (by decide) (shC_8 G (fun q_ => ad (0 + q_)) _) ⟨rfl, rfl, by decide, by decide⟩ rfl hl.1 rfl (Nat.le_of_ble_eq_true rfl) ⟨Nat.zero_le _, Nat.zero_le _⟩ dX6_room_72) ?_
      exact g_iretM C hr hlk rfl (by rw [x_room, if_neg c1, if_neg c2, if_neg c3, if_pos c4]) hP hS dX6_room_75
    by_cases c5 : what = 3
    · refine lv_as (y := 3) c5 ?_
      refine lv_tableIn (tgt := 76) (off := 50) hx hb dX6_room_26 (by decide) (by decide) (by decide) (by decide) ?_
      refine lv_aload_n hx hb dX6_room_76 rfl (lv_at hl 1 rfl) ?_
      refine g_get fd_RX6_12 C hX hP 44 (by decide) (shX_44 G ad _) (v := .ref (ad 8)) rfl dX6_room_77 ?_
      refine lv_iload_n hx hb dX6_room_80 rfl (lv_at hl 2 rfl) ?_
      refine g_rd (g_runV (As := [.int room]) (rest := []) ky_yX0_saidIn lk_RX6_77 C hX (gS_b0 hI hS) (hP.sub (sh1 := (shC G (fun q_ => ad (0 + q_)))) 0 12 (by omega) (shX_club G ad)) 8 (c_yX0_saidIn l G (fun q_ => ad (0 + q_)) (hI.sub (m := 12) 0 (by omega)) (mget σ 0) room) (by decide) (shC_8 G (fun q_ => ad (0 + q_)) _) ⟨rfl, rfl, by decide, by decide⟩ rfl hl.1 rfl (Nat.le_of_ble_eq_true rfl) ⟨Nat.zero_le _, Nat.zero_le _⟩ dX6_room_81) ?_
      exact g_iretM C hr hlk rfl (by rw [x_room, if_neg c1, if_neg c2, if_neg c3, if_neg c4, if_pos c5]) hP hS dX6_room_84
    have h6 := lv_neT (a := 0) c2 (by decide)
    have h7 := lv_neT (a := 1) c3 (by decide)
    have h8 := lv_neT (a := 2) c4 (by decide)
    have h9 := lv_neT (a := 3) c5 (by decide)
    refine lv_tableOut (tgt := 85) hx hb dX6_room_26 (by omega) (by decide) ?_
    refine lv_aload_n hx hb dX6_room_85 rfl (lv_at hl 1 rfl) ?_
    refine lv_ldc hx hb C.2.2.2.1 (C.2.2.2.2 _ kc_RX6_59) dX6_room_86 ?_
    refine g_wrI0 hS (g_runV (As := [.int (-1000001)]) (rest := []) ky_yX6_finding lk_RX6_60 C hX (gS_b0 hI hS) hP 44 (c_yX6_finding l G ad hI σ (-1000001)) (by decide) (shX_44 G ad _) ⟨rfl, rfl, by decide, by decide⟩ rfl hl.1 rfl (Nat.le_of_ble_eq_true rfl) ⟨Nat.zero_le _, Nat.zero_le _⟩ dX6_room_88) (fun H locs hP hS => ?_)
    exact g_iretM C hr hlk rfl (by rw [x_room, if_neg c1, if_neg c2, if_neg c3, if_neg c4, if_neg c5]) hP hS dX6_room_91
  · refine lv_aload_n hx hb dX6_room_8 rfl (lv_at hl 0 rfl) ?_
    refine lv_ldc hx hb C.2.2.2.1 (C.2.2.2.2 _ kc_RX6_59) dX6_room_9 ?_
    refine g_wrI0 hS (g_runV (As := [.int (-1000001)]) (rest := []) ky_yX6_finding lk_RX6_60 C hX (gS_b0 hI hS) hP 44 (c_yX6_finding l G ad hI σ (-1000001)) (by decide) (shX_44 G ad _) ⟨rfl, rfl, by decide, by decide⟩ rfl hl.1 rfl (Nat.le_of_ble_eq_true rfl) ⟨Nat.zero_le _, Nat.zero_le _⟩ dX6_room_11) (fun H locs hP hS => ?_)
    exact g_iretM C hr hlk rfl (by rw [x_room, if_pos c1]) hP hS dX6_room_14

def x_glove (σ : gM) (kind : Int32) (room : Int32) : Int32 × gM := if (x_isWithin kind 6) = 0 then ((x_finding σ (-1000001)).1, (x_finding σ (-1000001)).2) else (if (x_isWithin room 5) = 0 then ((x_finding σ (-1000001)).1, (x_finding σ (-1000001)).2) else (if (σ 8 0) < 8 then ((x_putDown0 (mget σ 0) kind room).1, (mput σ 0 12 (x_putDown0 (mget σ 0) kind room).2)) else ((x_finding σ (-1000002)).1, (x_finding σ (-1000002)).2)))
def rm_yX6_glove : Room := { frames := 2, cells := 0, slots := 0, locals := 44 }
set_option maxHeartbeats 4000000 in
set_option maxRecDepth 100000 in
theorem c_yX6_glove (l : Launch) (G : gG) (ad : Nat → Nat) (hI : gI G.2.2.1 55 ad) (σ : gM) (kind : Int32) (room : Int32) (N : Nat) (hN : N ≤ 8) (hs : σ 8 0 = nI N) : gMutI l yX6_glove cX6_glove 3 (some .int) rm_yX6_glove G [.ref (ad 44), .int kind, .int room] 55 ad (shX G ad) σ (x_glove σ kind room) := by
  refine g_start [.ref (ad 44), .int kind, .int room] (by decide +kernel) (Nat.le_of_ble_eq_true rfl) ?_
  intro p e s m below meth c ls B Z hl
  obtain ⟨C, hr, hlk⟩ := B
  have hx := C.1
  have hb := C.2.1
  obtain ⟨hX, hP⟩ := Z
  have hS : va_S (gA 55 ad) s.heap s.heap [] := va_S.rf
  revert hP hS
  intro hP hS
  have hl : lv_has ls 3 [(0, .ref (ad 44)), (1, .int kind), (2, .int room)] := hl
  refine lv_iload_n hx hb dX6_glove_0 rfl (lv_at hl 1 rfl) ?_
  refine lv_bipush (v := 6) hx hb dX6_glove_1 (by decide) ?_
  refine g_rd (g_runS (As := [.int kind, .int 6]) (rest := []) ky_yX6_isWithin lk_RX6_51 C (c_yX6_isWithin l kind 6) ⟨rfl, rfl, by decide, by decide⟩ rfl hl.1 rfl (Nat.le_of_ble_eq_true rfl) ⟨Nat.zero_le _, Nat.zero_le _⟩ dX6_glove_3) ?_
  refine lv_if_eq (tgt := 17) hx hb dX6_glove_6 (by decide) (fun c1 => ?_) (fun c1 => ?_)
  · refine lv_aload_n hx hb dX6_glove_17 rfl (lv_at hl 0 rfl) ?_
    refine lv_ldc hx hb C.2.2.2.1 (C.2.2.2.2 _ kc_RX6_59) dX6_glove_18 ?_
    refine g_wrI0 hS (g_runV (As := [.int (-1000001)]) (rest := []) ky_yX6_finding lk_RX6_60 C hX (gS_b0 hI hS) hP 44 (c_yX6_finding l G ad hI σ (-1000001)) (by decide) (shX_44 G ad _) ⟨rfl, rfl, by decide, by decide⟩ rfl hl.1 rfl (Nat.le_of_ble_eq_true rfl) ⟨Nat.zero_le _, Nat.zero_le _⟩ dX6_glove_20) (fun H locs hP hS => ?_)
    exact g_iretM C hr hlk rfl (by rw [x_glove, if_pos c1]) hP hS dX6_glove_23
  · refine lv_iload_n hx hb dX6_glove_9 rfl (lv_at hl 2 rfl) ?_
    refine lv_iconst (v := 5) hx hb dX6_glove_10 (by decide) ?_
    refine g_rd (g_runS (As := [.int room, .int 5]) (rest := []) ky_yX6_isWithin lk_RX6_51 C (c_yX6_isWithin l room 5) ⟨rfl, rfl, by decide, by decide⟩ rfl hl.1 rfl (Nat.le_of_ble_eq_true rfl) ⟨Nat.zero_le _, Nat.zero_le _⟩ dX6_glove_11) ?_
    refine lv_if_ne (tgt := 24) hx hb dX6_glove_14 (by decide) (fun c2 => ?_) (fun c2 => ?_)
    · refine lv_aload_n hx hb dX6_glove_24 rfl (lv_at hl 0 rfl) ?_
      refine g_get fd_RX6_12 C hX hP 44 (by decide) (shX_44 G ad _) (v := .ref (ad 8)) rfl dX6_glove_25 ?_
      refine g_get fd_RX6_80 C hX hP 8 (by decide) (shX_8 G ad _) (v := .int (σ 8 0)) rfl dX6_glove_28 ?_
      refine lv_bipush (v := 8) hx hb dX6_glove_31 (by decide) ?_
      refine lv_icmp_lt (tgt := 43) hx hb dX6_glove_33 (by decide) (fun c3 => ?_) (fun c3 => ?_)
      · refine lv_aload_n hx hb dX6_glove_43 rfl (lv_at hl 0 rfl) ?_
        refine g_get fd_RX6_12 C hX hP 44 (by decide) (shX_44 G ad _) (v := .ref (ad 8)) rfl dX6_glove_44 ?_
        refine lv_iload_n hx hb dX6_glove_47 rfl (lv_at hl 1 rfl) ?_
        refine lv_iload_n hx hb dX6_glove_48 rfl (lv_at hl 2 rfl) ?_
        refine g_wrI (o := 0) (m1 := 12) (by omega) (shX_club G ad) hI hP hS (g_runV (As := [.int kind, .int room]) (rest := []) ky_yX0_putDown lk_RX6_85 C hX (gS_b0 hI hS) (hP.sub (sh1 := (shC G (fun q_ => ad (0 + q_)))) 0 12 (by omega) (shX_club G ad)) 8 (c_yX0_putDown l G (fun q_ => ad (0 + q_)) (hI.sub (m := 12) 0 (by omega)) (mget σ 0) kind room N hN hs) (by decide) (shC_8 G (fun q_ => ad (0 + q_)) _) ⟨rfl, rfl, by decide, by decide⟩ rfl hl.1 rfl (Nat.le_of_ble_eq_true rfl) ⟨Nat.zero_le _, Nat.zero_le _⟩ dX6_glove_49) (fun H locs hP hS => ?_)
        exact g_iretM C hr hlk rfl (by rw [x_glove, if_neg c1, if_neg c2, if_pos c3]) hP hS dX6_glove_52
      · refine lv_aload_n hx hb dX6_glove_36 rfl (lv_at hl 0 rfl) ?_
        refine lv_ldc hx hb C.2.2.2.1 (C.2.2.2.2 _ kc_RX6_84) dX6_glove_37 ?_
        refine g_wrI0 hS (g_runV (As := [.int (-1000002)]) (rest := []) ky_yX6_finding lk_RX6_60 C hX (gS_b0 hI hS) hP 44 (c_yX6_finding l G ad hI σ (-1000002)) (by decide) (shX_44 G ad _) ⟨rfl, rfl, by decide, by decide⟩ rfl hl.1 rfl (Nat.le_of_ble_eq_true rfl) ⟨Nat.zero_le _, Nat.zero_le _⟩ dX6_glove_39) (fun H locs hP hS => ?_)
        exact g_iretM C hr hlk rfl (by rw [x_glove, if_neg c1, if_neg c2, if_neg c3]) hP hS dX6_glove_42
    · refine lv_aload_n hx hb dX6_glove_17 rfl (lv_at hl 0 rfl) ?_
      refine lv_ldc hx hb C.2.2.2.1 (C.2.2.2.2 _ kc_RX6_59) dX6_glove_18 ?_
      refine g_wrI0 hS (g_runV (As := [.int (-1000001)]) (rest := []) ky_yX6_finding lk_RX6_60 C hX (gS_b0 hI hS) hP 44 (c_yX6_finding l G ad hI σ (-1000001)) (by decide) (shX_44 G ad _) ⟨rfl, rfl, by decide, by decide⟩ rfl hl.1 rfl (Nat.le_of_ble_eq_true rfl) ⟨Nat.zero_le _, Nat.zero_le _⟩ dX6_glove_20) (fun H locs hP hS => ?_)
      exact g_iretM C hr hlk rfl (by rw [x_glove, if_neg c1, if_pos c2]) hP hS dX6_glove_23

def x_of (σ : gM) (glove : Int32) (what : Int32) : Int32 × gM := if (x_has0 (mget σ 0) glove) = 0 then ((x_finding σ (-1000001)).1, (x_finding σ (-1000001)).2) else (if (x_isWithin what 10) = 0 then ((x_finding σ (-1000001)).1, (x_finding σ (-1000001)).2) else (if what = 7 then ((x_needOf0 (mget σ 0) (nN glove)), σ) else ((x_trait1 (mget σ (nN glove)) what), σ)))
def rm_yX6_of : Room := { frames := 3, cells := 0, slots := 0, locals := 67 }
set_option maxHeartbeats 4000000 in
set_option maxRecDepth 100000 in
theorem c_yX6_of (l : Launch) (G : gG) (ad : Nat → Nat) (hI : gI G.2.2.1 55 ad) (σ : gM) (glove : Int32) (what : Int32) (N : Nat) (hN : N ≤ 8) (hs : σ 8 0 = nI N) : gMutI l yX6_of cX6_of 3 (some .int) rm_yX6_of G [.ref (ad 44), .int glove, .int what] 55 ad (shX G ad) σ (x_of σ glove what) := by
  refine g_start [.ref (ad 44), .int glove, .int what] (by decide +kernel) (Nat.le_of_ble_eq_true rfl) ?_
  intro p e s m below meth c ls B Z hl
  obtain ⟨C, hr, hlk⟩ := B
  have hx := C.1
  have hb := C.2.1
  obtain ⟨hX, hP⟩ := Z
  have hS : va_S (gA 55 ad) s.heap s.heap [] := va_S.rf
  revert hP hS
  intro hP hS
  have hl : lv_has ls 3 [(0, .ref (ad 44)), (1, .int glove), (2, .int what)] := hl
  refine lv_aload_n hx hb dX6_of_0 rfl (lv_at hl 0 rfl) ?_
  refine g_get fd_RX6_12 C hX hP 44 (by decide) (shX_44 G ad _) (v := .ref (ad 8)) rfl dX6_of_1 ?_
  refine lv_iload_n hx hb dX6_of_4 rfl (lv_at hl 1 rfl) ?_
  refine g_rd (g_runV (As := [.int glove]) (rest := []) ky_yX0_has lk_RX6_88 C hX (gS_b0 hI hS) (hP.sub (sh1 := (shC G (fun q_ => ad (0 + q_)))) 0 12 (by omega) (shX_club G ad)) 8 (c_yX0_has l G (fun q_ => ad (0 + q_)) (hI.sub (m := 12) 0 (by omega)) (mget σ 0) glove) (by decide) (shC_8 G (fun q_ => ad (0 + q_)) _) ⟨rfl, rfl, by decide, by decide⟩ rfl hl.1 rfl (Nat.le_of_ble_eq_true rfl) ⟨Nat.zero_le _, Nat.zero_le _⟩ dX6_of_5) ?_
  refine lv_if_eq (tgt := 20) hx hb dX6_of_8 (by decide) (fun c1 => ?_) (fun c1 => ?_)
  · refine lv_aload_n hx hb dX6_of_20 rfl (lv_at hl 0 rfl) ?_
    refine lv_ldc hx hb C.2.2.2.1 (C.2.2.2.2 _ kc_RX6_59) dX6_of_21 ?_
    refine g_wrI0 hS (g_runV (As := [.int (-1000001)]) (rest := []) ky_yX6_finding lk_RX6_60 C hX (gS_b0 hI hS) hP 44 (c_yX6_finding l G ad hI σ (-1000001)) (by decide) (shX_44 G ad _) ⟨rfl, rfl, by decide, by decide⟩ rfl hl.1 rfl (Nat.le_of_ble_eq_true rfl) ⟨Nat.zero_le _, Nat.zero_le _⟩ dX6_of_23) (fun H locs hP hS => ?_)
    exact g_iretM C hr hlk rfl (by rw [x_of, if_pos c1]) hP hS dX6_of_26
  · obtain ⟨hg1, hg2⟩ := has_of hN hs c1
    refine lv_iload_n hx hb dX6_of_11 rfl (lv_at hl 2 rfl) ?_
    refine lv_bipush (v := 10) hx hb dX6_of_12 (by decide) ?_
    refine g_rd (g_runS (As := [.int what, .int 10]) (rest := []) ky_yX6_isWithin lk_RX6_51 C (c_yX6_isWithin l what 10) ⟨rfl, rfl, by decide, by decide⟩ rfl hl.1 rfl (Nat.le_of_ble_eq_true rfl) ⟨Nat.zero_le _, Nat.zero_le _⟩ dX6_of_14) ?_
    refine lv_if_ne (tgt := 27) hx hb dX6_of_17 (by decide) (fun c2 => ?_) (fun c2 => ?_)
    · refine lv_iload_n hx hb dX6_of_27 rfl (lv_at hl 2 rfl) ?_
      refine lv_bipush (v := 7) hx hb dX6_of_28 (by decide) ?_
      refine lv_icmp_ne (tgt := 44) hx hb dX6_of_30 (by decide) (fun c3 => ?_) (fun c3 => ?_)
      · refine lv_aload_n hx hb dX6_of_44 rfl (lv_at hl 0 rfl) ?_
        refine g_get fd_RX6_12 C hX hP 44 (by decide) (shX_44 G ad _) (v := .ref (ad 8)) rfl dX6_of_45 ?_
        refine g_get fd_RX6_96 C hX hP 8 (by decide) (shX_8 G ad _) (v := .ref (ad 11)) rfl dX6_of_48 ?_
        refine lv_iload_n hx hb dX6_of_51 rfl (lv_at hl 1 rfl) ?_
        refine lv_as (y := (nI (nN glove))) hg1 ?_
        refine g_aald (t0 := 2) C hX hP 11 (by decide) (shX_11 G ad _) rfl (nN glove) (by omega) (by decide) rfl dX6_of_52 ?_
        refine lv_iload_n hx hb dX6_of_53 rfl (lv_at hl 2 rfl) ?_
        refine g_rd (g_runV (As := [.int what]) (rest := []) ky_yX1_trait lk_RX6_100 C hX (gS_b0 hI hS) (hP.sub (sh1 := shG) (nN glove) 1 (by omega) (shX_glove G ad (by omega))) 0 (c_yX1_trait l G (fun q_ => ad ((nN glove) + q_)) (hI.sub (m := 1) (nN glove) (by omega)) (mget σ (nN glove)) what) (by decide) (shG_g _) ⟨rfl, rfl, by decide, by decide⟩ rfl hl.1 rfl (Nat.le_of_ble_eq_true rfl) ⟨Nat.zero_le _, Nat.zero_le _⟩ dX6_of_54) ?_
        exact g_iretM C hr hlk rfl (by rw [x_of, if_neg c1, if_neg c2, if_neg c3]) hP hS dX6_of_57
      · refine lv_aload_n hx hb dX6_of_33 rfl (lv_at hl 0 rfl) ?_
        refine g_get fd_RX6_12 C hX hP 44 (by decide) (shX_44 G ad _) (v := .ref (ad 8)) rfl dX6_of_34 ?_
        refine lv_iload_n hx hb dX6_of_37 rfl (lv_at hl 1 rfl) ?_
        refine lv_as (y := (nI (nN glove))) hg1 ?_
        refine g_rd (g_runV (As := [.int (nI (nN glove))]) (rest := []) ky_yX0_needOf lk_RX6_93 C hX (gS_b0 hI hS) (hP.sub (sh1 := (shC G (fun q_ => ad (0 + q_)))) 0 12 (by omega) (shX_club G ad)) 8 (c_yX0_needOf l G (fun q_ => ad (0 + q_)) (hI.sub (m := 12) 0 (by omega)) (mget σ 0) (nN glove) N hN hs (by omega)) (by decide) (shC_8 G (fun q_ => ad (0 + q_)) _) ⟨rfl, rfl, by decide, by decide⟩ rfl hl.1 rfl (Nat.le_of_ble_eq_true rfl) ⟨Nat.zero_le _, Nat.zero_le _⟩ dX6_of_38) ?_
        refine lv_goto (tgt := 57) hx hb dX6_of_41 (by decide) ?_
        exact g_iretM C hr hlk rfl (by rw [x_of, if_neg c1, if_neg c2, if_pos c3]) hP hS dX6_of_57
    · refine lv_aload_n hx hb dX6_of_20 rfl (lv_at hl 0 rfl) ?_
      refine lv_ldc hx hb C.2.2.2.1 (C.2.2.2.2 _ kc_RX6_59) dX6_of_21 ?_
      refine g_wrI0 hS (g_runV (As := [.int (-1000001)]) (rest := []) ky_yX6_finding lk_RX6_60 C hX (gS_b0 hI hS) hP 44 (c_yX6_finding l G ad hI σ (-1000001)) (by decide) (shX_44 G ad _) ⟨rfl, rfl, by decide, by decide⟩ rfl hl.1 rfl (Nat.le_of_ble_eq_true rfl) ⟨Nat.zero_le _, Nat.zero_le _⟩ dX6_of_23) (fun H locs hP hS => ?_)
      exact g_iretM C hr hlk rfl (by rw [x_of, if_neg c1, if_pos c2]) hP hS dX6_of_26

def x_change (σ : gM) (glove : Int32) (what : Int32) (v : Int32) : Int32 × gM := if (x_has0 (mget σ 0) glove) = 0 then ((x_finding σ (-1000001)).1, (x_finding σ (-1000001)).2) else (if (x_isWithin v (x_mostOf1 what)) = 0 then ((x_finding σ (-1000001)).1, (x_finding σ (-1000001)).2) else ((x_trait1 (mget σ (nN glove)) what), (mput σ (nN glove) 1 (x_setTrait1 (mget σ (nN glove)) what v))))
def rm_yX6_change : Room := { frames := 3, cells := 0, slots := 0, locals := 62 }
set_option maxHeartbeats 4000000 in
set_option maxRecDepth 100000 in
theorem c_yX6_change (l : Launch) (G : gG) (ad : Nat → Nat) (hI : gI G.2.2.1 55 ad) (σ : gM) (glove : Int32) (what : Int32) (v : Int32) (N : Nat) (hN : N ≤ 8) (hs : σ 8 0 = nI N) : gMutI l yX6_change cX6_change 6 (some .int) rm_yX6_change G [.ref (ad 44), .int glove, .int what, .int v] 55 ad (shX G ad) σ (x_change σ glove what v) := by
  refine g_start [.ref (ad 44), .int glove, .int what, .int v] (by decide +kernel) (Nat.le_of_ble_eq_true rfl) ?_
  intro p e s m below meth c ls B Z hl
  obtain ⟨C, hr, hlk⟩ := B
  have hx := C.1
  have hb := C.2.1
  obtain ⟨hX, hP⟩ := Z
  have hS : va_S (gA 55 ad) s.heap s.heap [] := va_S.rf
  revert hP hS
  intro hP hS
  have hl : lv_has ls 6 [(0, .ref (ad 44)), (1, .int glove), (2, .int what), (3, .int v)] := hl
  refine lv_aload_n hx hb dX6_change_0 rfl (lv_at hl 0 rfl) ?_
  refine g_get fd_RX6_12 C hX hP 44 (by decide) (shX_44 G ad _) (v := .ref (ad 8)) rfl dX6_change_1 ?_
  refine lv_iload_n hx hb dX6_change_4 rfl (lv_at hl 1 rfl) ?_
  refine g_rd (g_runV (As := [.int glove]) (rest := []) ky_yX0_has lk_RX6_88 C hX (gS_b0 hI hS) (hP.sub (sh1 := (shC G (fun q_ => ad (0 + q_)))) 0 12 (by omega) (shX_club G ad)) 8 (c_yX0_has l G (fun q_ => ad (0 + q_)) (hI.sub (m := 12) 0 (by omega)) (mget σ 0) glove) (by decide) (shC_8 G (fun q_ => ad (0 + q_)) _) ⟨rfl, rfl, by decide, by decide⟩ rfl hl.1 rfl (Nat.le_of_ble_eq_true rfl) ⟨Nat.zero_le _, Nat.zero_le _⟩ dX6_change_5) ?_
  refine lv_if_eq (tgt := 22) hx hb dX6_change_8 (by decide) (fun c1 => ?_) (fun c1 => ?_)
  · refine lv_aload_n hx hb dX6_change_22 rfl (lv_at hl 0 rfl) ?_
    refine lv_ldc hx hb C.2.2.2.1 (C.2.2.2.2 _ kc_RX6_59) dX6_change_23 ?_
    refine g_wrI0 hS (g_runV (As := [.int (-1000001)]) (rest := []) ky_yX6_finding lk_RX6_60 C hX (gS_b0 hI hS) hP 44 (c_yX6_finding l G ad hI σ (-1000001)) (by decide) (shX_44 G ad _) ⟨rfl, rfl, by decide, by decide⟩ rfl hl.1 rfl (Nat.le_of_ble_eq_true rfl) ⟨Nat.zero_le _, Nat.zero_le _⟩ dX6_change_25) (fun H locs hP hS => ?_)
    exact g_iretM C hr hlk rfl (by rw [x_change, if_pos c1]) hP hS dX6_change_28
  · obtain ⟨hg1, hg2⟩ := has_of hN hs c1
    refine lv_iload_n hx hb dX6_change_11 rfl (lv_at hl 3 rfl) ?_
    refine lv_iload_n hx hb dX6_change_12 rfl (lv_at hl 2 rfl) ?_
    refine g_rd (g_runSW (As := [.int what]) (rest := [.int v]) ky_yX1_mostOf lk_RX6_103 C hX (gS_b0 hI hS) (gP0 _ _ _ _) (c_yX1_mostOf l G ad gI0 σ what) ⟨rfl, rfl, by decide, by decide⟩ rfl hl.1 rfl (Nat.le_of_ble_eq_true rfl) ⟨Nat.zero_le _, Nat.zero_le _⟩ dX6_change_13) ?_
    refine g_rd (g_runS (As := [.int v, .int (x_mostOf1 what)]) (rest := []) ky_yX6_isWithin lk_RX6_51 C (c_yX6_isWithin l v (x_mostOf1 what)) ⟨rfl, rfl, by decide, by decide⟩ rfl hl.1 rfl (Nat.le_of_ble_eq_true rfl) ⟨Nat.zero_le _, Nat.zero_le _⟩ dX6_change_16) ?_
    refine lv_if_ne (tgt := 29) hx hb dX6_change_19 (by decide) (fun c2 => ?_) (fun c2 => ?_)
    · refine lv_aload_n hx hb dX6_change_29 rfl (lv_at hl 0 rfl) ?_
      refine g_get fd_RX6_12 C hX hP 44 (by decide) (shX_44 G ad _) (v := .ref (ad 8)) rfl dX6_change_30 ?_
      refine g_get fd_RX6_96 C hX hP 8 (by decide) (shX_8 G ad _) (v := .ref (ad 11)) rfl dX6_change_33 ?_
      refine lv_iload_n hx hb dX6_change_36 rfl (lv_at hl 1 rfl) ?_
      refine lv_as (y := (nI (nN glove))) hg1 ?_
      refine g_aald (t0 := 2) C hX hP 11 (by decide) (shX_11 G ad _) rfl (nN glove) (by omega) (by decide) rfl dX6_change_37 ?_
      refine lv_astore (lv' := [(4, .ref (ad (nN glove))), (0, .ref (ad 44)), (1, .int glove), (2, .int what), (3, .int v)]) hx hb dX6_change_38 hl (by decide) rfl (fun ls hl => ?_)
      refine lv_aload hx hb dX6_change_40 (lv_at hl 0 rfl) ?_
      refine lv_iload_n hx hb dX6_change_42 rfl (lv_at hl 3 rfl) ?_
      refine g_rd (g_runV (As := [.int what]) (rest := []) ky_yX1_trait lk_RX6_100 C hX (gS_b0 hI hS) (hP.sub (sh1 := shG) (nN glove) 1 (by omega) (shX_glove G ad (by omega))) 0 (c_yX1_trait l G (fun q_ => ad ((nN glove) + q_)) (hI.sub (m := 1) (nN glove) (by omega)) (mget σ (nN glove)) what) (by decide) (shG_g _) ⟨rfl, rfl, by decide, by decide⟩ rfl hl.1 rfl (Nat.le_of_ble_eq_true rfl) ⟨Nat.zero_le _, Nat.zero_le _⟩ dX6_change_43) ?_
      refine lv_istore (lv' := [(5, .int (x_trait1 (mget σ (nN glove)) what)), (4, .ref (ad (nN glove))), (0, .ref (ad 44)), (1, .int glove), (2, .int what), (3, .int v)]) hx hb dX6_change_46 hl (by decide) rfl (fun ls hl => ?_)
      refine lv_aload hx hb dX6_change_48 (lv_at hl 1 rfl) ?_
      refine lv_iload_n hx hb dX6_change_50 rfl (lv_at hl 4 rfl) ?_
      refine lv_iload_n hx hb dX6_change_51 rfl (lv_at hl 5 rfl) ?_
      refine g_wrV (o := (nN glove)) (m1 := 1) (by omega) (shX_glove G ad (by omega)) hI hP hS (g_runV (As := [.int what, .int v]) (rest := []) ky_yX1_setTrait lk_RX6_106 C hX (gS_b0 hI hS) (hP.sub (sh1 := shG) (nN glove) 1 (by omega) (shX_glove G ad (by omega))) 0 (c_yX1_setTrait l G (fun q_ => ad ((nN glove) + q_)) (hI.sub (m := 1) (nN glove) (by omega)) (mget σ (nN glove)) what v) (by decide) (shG_g _) ⟨rfl, rfl, by decide, by decide⟩ rfl hl.1 rfl (Nat.le_of_ble_eq_true rfl) ⟨Nat.zero_le _, Nat.zero_le _⟩ dX6_change_52) (fun H locs hP hS => ?_)
      refine lv_iload hx hb dX6_change_55 (lv_at hl 0 rfl) ?_
      exact g_iretM C hr hlk rfl (by rw [x_change, if_neg c1, if_neg c2]) hP hS dX6_change_57
    · refine lv_aload_n hx hb dX6_change_22 rfl (lv_at hl 0 rfl) ?_
      refine lv_ldc hx hb C.2.2.2.1 (C.2.2.2.2 _ kc_RX6_59) dX6_change_23 ?_
      refine g_wrI0 hS (g_runV (As := [.int (-1000001)]) (rest := []) ky_yX6_finding lk_RX6_60 C hX (gS_b0 hI hS) hP 44 (c_yX6_finding l G ad hI σ (-1000001)) (by decide) (shX_44 G ad _) ⟨rfl, rfl, by decide, by decide⟩ rfl hl.1 rfl (Nat.le_of_ble_eq_true rfl) ⟨Nat.zero_le _, Nat.zero_le _⟩ dX6_change_25) (fun H locs hP hS => ?_)
      exact g_iretM C hr hlk rfl (by rw [x_change, if_neg c1, if_pos c2]) hP hS dX6_change_28

def x_draw (σ : gM) (glove : Int32) : Int32 × gM := if (x_has0 (mget σ 0) glove) = 0 then ((x_finding σ (-1000001)).1, (x_finding σ (-1000001)).2) else (if (x_stays1 (mget σ (nN glove))) = 0 then ((x_finding σ (-1000005)).1, (x_finding σ (-1000005)).2) else (((mput σ (nN glove) 1 (x_beDrawnOn1 (mget σ (nN glove)))) (nN glove) 5), (mput σ (nN glove) 1 (x_beDrawnOn1 (mget σ (nN glove))))))
def rm_yX6_draw : Room := { frames := 2, cells := 0, slots := 0, locals := 43 }
set_option maxHeartbeats 4000000 in
set_option maxRecDepth 100000 in
theorem c_yX6_draw (l : Launch) (G : gG) (ad : Nat → Nat) (hI : gI G.2.2.1 55 ad) (σ : gM) (glove : Int32) (N : Nat) (hN : N ≤ 8) (hs : σ 8 0 = nI N) : gMutI l yX6_draw cX6_draw 3 (some .int) rm_yX6_draw G [.ref (ad 44), .int glove] 55 ad (shX G ad) σ (x_draw σ glove) := by
  refine g_start [.ref (ad 44), .int glove] (by decide +kernel) (Nat.le_of_ble_eq_true rfl) ?_
  intro p e s m below meth c ls B Z hl
  obtain ⟨C, hr, hlk⟩ := B
  have hx := C.1
  have hb := C.2.1
  obtain ⟨hX, hP⟩ := Z
  have hS : va_S (gA 55 ad) s.heap s.heap [] := va_S.rf
  revert hP hS
  intro hP hS
  have hl : lv_has ls 3 [(0, .ref (ad 44)), (1, .int glove)] := hl
  refine lv_aload_n hx hb dX6_draw_0 rfl (lv_at hl 0 rfl) ?_
  refine g_get fd_RX6_12 C hX hP 44 (by decide) (shX_44 G ad _) (v := .ref (ad 8)) rfl dX6_draw_1 ?_
  refine lv_iload_n hx hb dX6_draw_4 rfl (lv_at hl 1 rfl) ?_
  refine g_rd (g_runV (As := [.int glove]) (rest := []) ky_yX0_has lk_RX6_88 C hX (gS_b0 hI hS) (hP.sub (sh1 := (shC G (fun q_ => ad (0 + q_)))) 0 12 (by omega) (shX_club G ad)) 8 (c_yX0_has l G (fun q_ => ad (0 + q_)) (hI.sub (m := 12) 0 (by omega)) (mget σ 0) glove) (by decide) (shC_8 G (fun q_ => ad (0 + q_)) _) ⟨rfl, rfl, by decide, by decide⟩ rfl hl.1 rfl (Nat.le_of_ble_eq_true rfl) ⟨Nat.zero_le _, Nat.zero_le _⟩ dX6_draw_5) ?_
  refine lv_if_ne (tgt := 18) hx hb dX6_draw_8 (by decide) (fun c1 => ?_) (fun c1 => ?_)
  · obtain ⟨hg1, hg2⟩ := has_of hN hs c1
    refine lv_aload_n hx hb dX6_draw_18 rfl (lv_at hl 0 rfl) ?_
    refine g_get fd_RX6_12 C hX hP 44 (by decide) (shX_44 G ad _) (v := .ref (ad 8)) rfl dX6_draw_19 ?_
    refine g_get fd_RX6_96 C hX hP 8 (by decide) (shX_8 G ad _) (v := .ref (ad 11)) rfl dX6_draw_22 ?_
    refine lv_iload_n hx hb dX6_draw_25 rfl (lv_at hl 1 rfl) ?_
    refine lv_as (y := (nI (nN glove))) hg1 ?_
    refine g_aald (t0 := 2) C hX hP 11 (by decide) (shX_11 G ad _) rfl (nN glove) (by omega) (by decide) rfl dX6_draw_26 ?_
    refine lv_astore_n (lv' := [(2, .ref (ad (nN glove))), (0, .ref (ad 44)), (1, .int glove)]) hx hb dX6_draw_27 rfl hl (by decide) rfl (fun ls hl => ?_)
    refine lv_aload_n hx hb dX6_draw_28 rfl (lv_at hl 0 rfl) ?_
    refine g_rd (g_runV (As := []) (rest := []) ky_yX1_stays lk_RX6_110 C hX (gS_b0 hI hS) (hP.sub (sh1 := shG) (nN glove) 1 (by omega) (shX_glove G ad (by omega))) 0 (c_yX1_stays l G (fun q_ => ad ((nN glove) + q_)) (hI.sub (m := 1) (nN glove) (by omega)) (mget σ (nN glove)) ) (by decide) (shG_g _) ⟨rfl, rfl, by decide, by decide⟩ rfl hl.1 rfl (Nat.le_of_ble_eq_true rfl) ⟨Nat.zero_le _, Nat.zero_le _⟩ dX6_draw_29) ?_
    refine lv_if_ne (tgt := 42) hx hb dX6_draw_32 (by decide) (fun c2 => ?_) (fun c2 => ?_)
    · refine lv_aload_n hx hb dX6_draw_42 rfl (lv_at hl 0 rfl) ?_
      refine g_wrV (o := (nN glove)) (m1 := 1) (by omega) (shX_glove G ad (by omega)) hI hP hS (g_runV (As := []) (rest := []) ky_yX1_beDrawnOn lk_RX6_115 C hX (gS_b0 hI hS) (hP.sub (sh1 := shG) (nN glove) 1 (by omega) (shX_glove G ad (by omega))) 0 (c_yX1_beDrawnOn l G (fun q_ => ad ((nN glove) + q_)) (hI.sub (m := 1) (nN glove) (by omega)) (mget σ (nN glove)) ) (by decide) (shG_g _) ⟨rfl, rfl, by decide, by decide⟩ rfl hl.1 rfl (Nat.le_of_ble_eq_true rfl) ⟨Nat.zero_le _, Nat.zero_le _⟩ dX6_draw_43) (fun H locs hP hS => ?_)
      refine lv_aload_n hx hb dX6_draw_46 rfl (lv_at hl 0 rfl) ?_
      refine g_get fd_RX6_118 C hX hP (nN glove) (by omega) (shX_g G ad (by omega) _) (v := .int ((mput σ (nN glove) 1 (x_beDrawnOn1 (mget σ (nN glove)))) (nN glove) 5)) rfl dX6_draw_47 ?_
      exact g_iretM C hr hlk rfl (by rw [x_draw, if_neg c1, if_neg c2]) hP hS dX6_draw_50
    · refine lv_aload_n hx hb dX6_draw_35 rfl (lv_at hl 1 rfl) ?_
      refine lv_ldc hx hb C.2.2.2.1 (C.2.2.2.2 _ kc_RX6_114) dX6_draw_36 ?_
      refine g_wrI0 hS (g_runV (As := [.int (-1000005)]) (rest := []) ky_yX6_finding lk_RX6_60 C hX (gS_b0 hI hS) hP 44 (c_yX6_finding l G ad hI σ (-1000005)) (by decide) (shX_44 G ad _) ⟨rfl, rfl, by decide, by decide⟩ rfl hl.1 rfl (Nat.le_of_ble_eq_true rfl) ⟨Nat.zero_le _, Nat.zero_le _⟩ dX6_draw_38) (fun H locs hP hS => ?_)
      exact g_iretM C hr hlk rfl (by rw [x_draw, if_neg c1, if_pos c2]) hP hS dX6_draw_41
  · refine lv_aload_n hx hb dX6_draw_11 rfl (lv_at hl 0 rfl) ?_
    refine lv_ldc hx hb C.2.2.2.1 (C.2.2.2.2 _ kc_RX6_59) dX6_draw_12 ?_
    refine g_wrI0 hS (g_runV (As := [.int (-1000001)]) (rest := []) ky_yX6_finding lk_RX6_60 C hX (gS_b0 hI hS) hP 44 (c_yX6_finding l G ad hI σ (-1000001)) (by decide) (shX_44 G ad _) ⟨rfl, rfl, by decide, by decide⟩ rfl hl.1 rfl (Nat.le_of_ble_eq_true rfl) ⟨Nat.zero_le _, Nat.zero_le _⟩ dX6_draw_14) (fun H locs hP hS => ?_)
    exact g_iretM C hr hlk rfl (by rw [x_draw, if_pos c1]) hP hS dX6_draw_17

def x_who (σ : gM) (topic : Int32) (hand : Int32) : Int32 × gM := if (x_isWithin topic 15) = 0 then ((x_finding σ (-1000001)).1, (x_finding σ (-1000001)).2) else (if (x_isWithin hand 1) = 0 then ((x_finding σ (-1000001)).1, (x_finding σ (-1000001)).2) else (if hand = 1 then ((x_whoKnows0 (mget σ 0) topic 1), σ) else ((x_whoKnows0 (mget σ 0) topic 0), σ)))
def rm_yX6_who : Room := { frames := 2, cells := 0, slots := 0, locals := 45 }
set_option maxHeartbeats 4000000 in
set_option maxRecDepth 100000 in
theorem c_yX6_who (l : Launch) (G : gG) (ad : Nat → Nat) (hI : gI G.2.2.1 55 ad) (σ : gM) (topic : Int32) (hand : Int32) (N : Nat) (hN : N ≤ 8) (hs : σ 8 0 = nI N) : gMutI l yX6_who cX6_who 3 (some .int) rm_yX6_who G [.ref (ad 44), .int topic, .int hand] 55 ad (shX G ad) σ (x_who σ topic hand) := by
  refine g_start [.ref (ad 44), .int topic, .int hand] (by decide +kernel) (Nat.le_of_ble_eq_true rfl) ?_
  intro p e s m below meth c ls B Z hl
  obtain ⟨C, hr, hlk⟩ := B
  have hx := C.1
  have hb := C.2.1
  obtain ⟨hX, hP⟩ := Z
  have hS : va_S (gA 55 ad) s.heap s.heap [] := va_S.rf
  revert hP hS
  intro hP hS
  have hl : lv_has ls 3 [(0, .ref (ad 44)), (1, .int topic), (2, .int hand)] := hl
  refine lv_iload_n hx hb dX6_who_0 rfl (lv_at hl 1 rfl) ?_
  refine lv_bipush (v := 15) hx hb dX6_who_1 (by decide) ?_
  refine g_rd (g_runS (As := [.int topic, .int 15]) (rest := []) ky_yX6_isWithin lk_RX6_51 C (c_yX6_isWithin l topic 15) ⟨rfl, rfl, by decide, by decide⟩ rfl hl.1 rfl (Nat.le_of_ble_eq_true rfl) ⟨Nat.zero_le _, Nat.zero_le _⟩ dX6_who_3) ?_
  refine lv_if_eq (tgt := 17) hx hb dX6_who_6 (by decide) (fun c1 => ?_) (fun c1 => ?_)
  · refine lv_aload_n hx hb dX6_who_17 rfl (lv_at hl 0 rfl) ?_
    refine lv_ldc hx hb C.2.2.2.1 (C.2.2.2.2 _ kc_RX6_59) dX6_who_18 ?_
    refine g_wrI0 hS (g_runV (As := [.int (-1000001)]) (rest := []) ky_yX6_finding lk_RX6_60 C hX (gS_b0 hI hS) hP 44 (c_yX6_finding l G ad hI σ (-1000001)) (by decide) (shX_44 G ad _) ⟨rfl, rfl, by decide, by decide⟩ rfl hl.1 rfl (Nat.le_of_ble_eq_true rfl) ⟨Nat.zero_le _, Nat.zero_le _⟩ dX6_who_20) (fun H locs hP hS => ?_)
    exact g_iretM C hr hlk rfl (by rw [x_who, if_pos c1]) hP hS dX6_who_23
  · refine lv_iload_n hx hb dX6_who_9 rfl (lv_at hl 2 rfl) ?_
    refine lv_iconst (v := 1) hx hb dX6_who_10 (by decide) ?_
    refine g_rd (g_runS (As := [.int hand, .int 1]) (rest := []) ky_yX6_isWithin lk_RX6_51 C (c_yX6_isWithin l hand 1) ⟨rfl, rfl, by decide, by decide⟩ rfl hl.1 rfl (Nat.le_of_ble_eq_true rfl) ⟨Nat.zero_le _, Nat.zero_le _⟩ dX6_who_11) ?_
    refine lv_if_ne (tgt := 24) hx hb dX6_who_14 (by decide) (fun c2 => ?_) (fun c2 => ?_)
    · refine lv_aload_n hx hb dX6_who_24 rfl (lv_at hl 0 rfl) ?_
      refine g_get fd_RX6_12 C hX hP 44 (by decide) (shX_44 G ad _) (v := .ref (ad 8)) rfl dX6_who_25 ?_
      refine lv_iload_n hx hb dX6_who_28 rfl (lv_at hl 1 rfl) ?_
      refine lv_iload_n hx hb dX6_who_29 rfl (lv_at hl 2 rfl) ?_
      refine lv_iconst (v := 1) hx hb dX6_who_30 (by decide) ?_
      refine lv_icmp_ne (tgt := 38) hx hb dX6_who_31 (by decide) (fun c3 => ?_) (fun c3 => ?_)
      · refine lv_iconst (v := 0) hx hb dX6_who_38 (by decide) ?_
        refine g_rd (g_runV (As := [.int topic, .int 0]) (rest := []) ky_yX0_whoKnows lk_RX6_121 C hX (gS_b0 hI hS) (hP.sub (sh1 := (shC G (fun q_ => ad (0 + q_)))) 0 12 (by omega) (shX_club G ad)) 8 (c_yX0_whoKnows l G (fun q_ => ad (0 + q_)) (hI.sub (m := 12) 0 (by omega)) (mget σ 0) topic 0 N hN hs) (by decide) (shC_8 G (fun q_ => ad (0 + q_)) _) ⟨rfl, rfl, by decide, by decide⟩ rfl hl.1 rfl (Nat.le_of_ble_eq_true rfl) ⟨Nat.zero_le _, Nat.zero_le _⟩ dX6_who_39) ?_
        exact g_iretM C hr hlk rfl (by rw [x_who, if_neg c1, if_neg c2, if_neg c3]) hP hS dX6_who_42
      · refine lv_iconst (v := 1) hx hb dX6_who_34 (by decide) ?_
        refine lv_goto (tgt := 39) hx hb dX6_who_35 (by decide) ?_
        refine g_rd (g_runV (As := [.int topic, .int 1]) (rest := []) ky_yX0_whoKnows lk_RX6_121 C hX (gS_b0 hI hS) (hP.sub (sh1 := (shC G (fun q_ => ad (0 + q_)))) 0 12 (by omega) (shX_club G ad)) 8 (c_yX0_whoKnows l G (fun q_ => ad (0 + q_)) (hI.sub (m := 12) 0 (by omega)) (mget σ 0) topic 1 N hN hs) (by decide) (shC_8 G (fun q_ => ad (0 + q_)) _) ⟨rfl, rfl, by decide, by decide⟩ rfl hl.1 rfl (Nat.le_of_ble_eq_true rfl) ⟨Nat.zero_le _, Nat.zero_le _⟩ dX6_who_39) ?_
        exact g_iretM C hr hlk rfl (by rw [x_who, if_neg c1, if_neg c2, if_pos c3]) hP hS dX6_who_42
    · refine lv_aload_n hx hb dX6_who_17 rfl (lv_at hl 0 rfl) ?_
      refine lv_ldc hx hb C.2.2.2.1 (C.2.2.2.2 _ kc_RX6_59) dX6_who_18 ?_
      refine g_wrI0 hS (g_runV (As := [.int (-1000001)]) (rest := []) ky_yX6_finding lk_RX6_60 C hX (gS_b0 hI hS) hP 44 (c_yX6_finding l G ad hI σ (-1000001)) (by decide) (shX_44 G ad _) ⟨rfl, rfl, by decide, by decide⟩ rfl hl.1 rfl (Nat.le_of_ble_eq_true rfl) ⟨Nat.zero_le _, Nat.zero_le _⟩ dX6_who_20) (fun H locs hP hS => ?_)
      exact g_iretM C hr hlk rfl (by rw [x_who, if_neg c1, if_pos c2]) hP hS dX6_who_23

def x_go (σ : gM) (k : Int32) : Int32 × gM := if k < 1 then ((x_finding σ (-1000001)).1, (x_finding σ (-1000001)).2) else (if k ≤ 60 then (if ((σ 8 1) + k) ≤ 99999 then ((x_knownByGloves0 (mget (mput σ 0 12 (x_passDays0 (mget σ 0) (nN k) 0)) 0)), (mput σ 0 12 (x_passDays0 (mget σ 0) (nN k) 0))) else ((x_finding σ (-1000005)).1, (x_finding σ (-1000005)).2)) else ((x_finding σ (-1000001)).1, (x_finding σ (-1000001)).2))
def rm_yX6_go : Room := { frames := 5, cells := 0, slots := 0, locals := 119 }
set_option maxHeartbeats 4000000 in
set_option maxRecDepth 100000 in
theorem c_yX6_go (l : Launch) (G : gG) (ad : Nat → Nat) (hI : gI G.2.2.1 55 ad) (σ : gM) (k : Int32) (N : Nat) (hN : N ≤ 8) (hs : σ 8 0 = nI N) : gMutI l yX6_go cX6_go 2 (some .int) rm_yX6_go G [.ref (ad 44), .int k] 55 ad (shX G ad) σ (x_go σ k) := by
  refine g_start [.ref (ad 44), .int k] (by decide +kernel) (Nat.le_of_ble_eq_true rfl) ?_
  intro p e s m below meth c ls B Z hl
  obtain ⟨C, hr, hlk⟩ := B
  have hx := C.1
  have hb := C.2.1
  obtain ⟨hX, hP⟩ := Z
  have hS : va_S (gA 55 ad) s.heap s.heap [] := va_S.rf
  revert hP hS
  intro hP hS
  have hl : lv_has ls 2 [(0, .ref (ad 44)), (1, .int k)] := hl
  refine lv_iload_n hx hb dX6_go_0 rfl (lv_at hl 1 rfl) ?_
  refine lv_iconst (v := 1) hx hb dX6_go_1 (by decide) ?_
  refine lv_icmp_lt (tgt := 11) hx hb dX6_go_2 (by decide) (fun c1 => ?_) (fun c1 => ?_)
  · refine lv_aload_n hx hb dX6_go_11 rfl (lv_at hl 0 rfl) ?_
    refine lv_ldc hx hb C.2.2.2.1 (C.2.2.2.2 _ kc_RX6_59) dX6_go_12 ?_
    refine g_wrI0 hS (g_runV (As := [.int (-1000001)]) (rest := []) ky_yX6_finding lk_RX6_60 C hX (gS_b0 hI hS) hP 44 (c_yX6_finding l G ad hI σ (-1000001)) (by decide) (shX_44 G ad _) ⟨rfl, rfl, by decide, by decide⟩ rfl hl.1 rfl (Nat.le_of_ble_eq_true rfl) ⟨Nat.zero_le _, Nat.zero_le _⟩ dX6_go_14) (fun H locs hP hS => ?_)
    exact g_iretM C hr hlk rfl (by rw [x_go, if_pos c1]) hP hS dX6_go_17
  · have hge1 := c1
    refine lv_iload_n hx hb dX6_go_5 rfl (lv_at hl 1 rfl) ?_
    refine lv_bipush (v := 60) hx hb dX6_go_6 (by decide) ?_
    refine lv_icmp_le (tgt := 18) hx hb dX6_go_8 (by decide) (fun c2 => ?_) (fun c2 => ?_)
    · obtain ⟨hk1, hk2⟩ := nat_le (M := 61) (n0_of hge1) c2 (by decide)
      refine lv_aload_n hx hb dX6_go_18 rfl (lv_at hl 0 rfl) ?_
      refine g_get fd_RX6_12 C hX hP 44 (by decide) (shX_44 G ad _) (v := .ref (ad 8)) rfl dX6_go_19 ?_
      refine g_get fd_RX6_125 C hX hP 8 (by decide) (shX_8 G ad _) (v := .int (σ 8 1)) rfl dX6_go_22 ?_
      refine lv_iload_n hx hb dX6_go_25 rfl (lv_at hl 1 rfl) ?_
      refine lv_iadd hx hb dX6_go_26 ?_
      refine lv_ldc hx hb C.2.2.2.1 (C.2.2.2.2 _ kc_RX6_128) dX6_go_27 ?_
      refine lv_icmp_le (tgt := 39) hx hb dX6_go_29 (by decide) (fun c3 => ?_) (fun c3 => ?_)
      · refine lv_aload_n hx hb dX6_go_39 rfl (lv_at hl 0 rfl) ?_
        refine g_get fd_RX6_12 C hX hP 44 (by decide) (shX_44 G ad _) (v := .ref (ad 8)) rfl dX6_go_40 ?_
        refine lv_iload_n hx hb dX6_go_43 rfl (lv_at hl 1 rfl) ?_
        refine lv_as (y := (nI (nN k))) hk1 ?_
        refine lv_iconst (v := 0) hx hb dX6_go_44 (by decide) ?_
        refine g_wrV (o := 0) (m1 := 12) (by omega) (shX_club G ad) hI hP hS (g_runV (As := [.int (nI (nN k)), .int 0]) (rest := []) ky_yX0_passDays lk_RX6_129 C hX (gS_b0 hI hS) (hP.sub (sh1 := (shC G (fun q_ => ad (0 + q_)))) 0 12 (by omega) (shX_club G ad)) 8 (c_yX0_passDays l G (fun q_ => ad (0 + q_)) (hI.sub (m := 12) 0 (by omega)) (mget σ 0) (nN k) 0 N hN hs (by omega)) (by decide) (shC_8 G (fun q_ => ad (0 + q_)) _) ⟨rfl, rfl, by decide, by decide⟩ rfl hl.1 rfl (Nat.le_of_ble_eq_true rfl) ⟨Nat.zero_le _, Nat.zero_le _⟩ dX6_go_45) (fun H locs hP hS => ?_)
        refine lv_aload_n hx hb dX6_go_48 rfl (lv_at hl 0 rfl) ?_
        refine g_get fd_RX6_12 C hX hP 44 (by decide) (shX_44 G ad _) (v := .ref (ad 8)) rfl dX6_go_49 ?_
        refine g_rd (g_runV (As := []) (rest := []) ky_yX0_knownByGloves lk_RX6_132 C hX (gS_b0 hI hS) (hP.sub (sh1 := (shC G (fun q_ => ad (0 + q_)))) 0 12 (by omega) (shX_club G ad)) 8 (c_yX0_knownByGloves l G (fun q_ => ad (0 + q_)) (hI.sub (m := 12) 0 (by omega)) (mget (mput σ 0 12 (x_passDays0 (mget σ 0) (nN k) 0)) 0)  N hN (by exact pds_8 (σ := mget σ 0) hN hs _ _)) (by decide) (shC_8 G (fun q_ => ad (0 + q_)) _) ⟨rfl, rfl, by decide, by decide⟩ rfl hl.1 rfl (Nat.le_of_ble_eq_true rfl) ⟨Nat.zero_le _, Nat.zero_le _⟩ dX6_go_52) ?_
        exact g_iretM C hr hlk rfl (by rw [x_go, if_neg c1, if_pos c2, if_pos c3]) hP hS dX6_go_55
      · refine lv_aload_n hx hb dX6_go_32 rfl (lv_at hl 0 rfl) ?_
        refine lv_ldc hx hb C.2.2.2.1 (C.2.2.2.2 _ kc_RX6_114) dX6_go_33 ?_
        refine g_wrI0 hS (g_runV (As := [.int (-1000005)]) (rest := []) ky_yX6_finding lk_RX6_60 C hX (gS_b0 hI hS) hP 44 (c_yX6_finding l G ad hI σ (-1000005)) (by decide) (shX_44 G ad _) ⟨rfl, rfl, by decide, by decide⟩ rfl hl.1 rfl (Nat.le_of_ble_eq_true rfl) ⟨Nat.zero_le _, Nat.zero_le _⟩ dX6_go_35) (fun H locs hP hS => ?_)
        exact g_iretM C hr hlk rfl (by rw [x_go, if_neg c1, if_pos c2, if_neg c3]) hP hS dX6_go_38
    · refine lv_aload_n hx hb dX6_go_11 rfl (lv_at hl 0 rfl) ?_
      refine lv_ldc hx hb C.2.2.2.1 (C.2.2.2.2 _ kc_RX6_59) dX6_go_12 ?_
      refine g_wrI0 hS (g_runV (As := [.int (-1000001)]) (rest := []) ky_yX6_finding lk_RX6_60 C hX (gS_b0 hI hS) hP 44 (c_yX6_finding l G ad hI σ (-1000001)) (by decide) (shX_44 G ad _) ⟨rfl, rfl, by decide, by decide⟩ rfl hl.1 rfl (Nat.le_of_ble_eq_true rfl) ⟨Nat.zero_le _, Nat.zero_le _⟩ dX6_go_14) (fun H locs hP hS => ?_)
      exact g_iretM C hr hlk rfl (by rw [x_go, if_neg c1, if_neg c2]) hP hS dX6_go_17

def x_now (σ : gM) (what : Int32) : Int32 × gM := if what = 0 then ((σ 8 1), σ) else (if what = 1 then ((x_knownByGloves0 (mget σ 0)), σ) else (if what = 2 then ((x_knownByHands0 (mget σ 0)), σ) else (if what = 3 then ((65535 &&& ((x_knownToAnyone0 (mget σ 0)) ^^^ (-1))), σ) else (if what = 4 then ((x_drawnInAll0 (mget σ 0)), σ) else (if what = 5 then ((x_wisest0 (mget σ 0)), σ) else (if what = 6 then ((x_hearersOf0 (mget σ 0) (σ 9 (nN (x_placeOfToday0 (mget σ 0)))) 0), σ) else ((x_finding σ (-1000001)).1, (x_finding σ (-1000001)).2)))))))
def rm_yX6_now : Room := { frames := 4, cells := 0, slots := 0, locals := 84 }
set_option maxHeartbeats 4000000 in
set_option maxRecDepth 100000 in
theorem c_yX6_now (l : Launch) (G : gG) (ad : Nat → Nat) (hI : gI G.2.2.1 55 ad) (σ : gM) (what : Int32) (N : Nat) (hN : N ≤ 8) (hs : σ 8 0 = nI N) : gMutI l yX6_now cX6_now 2 (some .int) rm_yX6_now G [.ref (ad 44), .int what] 55 ad (shX G ad) σ (x_now σ what) := by
  refine g_start [.ref (ad 44), .int what] (by decide +kernel) (Nat.le_of_ble_eq_true rfl) ?_
  intro p e s m below meth c ls B Z hl
  obtain ⟨C, hr, hlk⟩ := B
  have hx := C.1
  have hb := C.2.1
  obtain ⟨hX, hP⟩ := Z
  have hS : va_S (gA 55 ad) s.heap s.heap [] := va_S.rf
  revert hP hS
  intro hP hS
  have hl : lv_has ls 2 [(0, .ref (ad 44)), (1, .int what)] := hl
  refine lv_iload_n hx hb dX6_now_0 rfl (lv_at hl 1 rfl) ?_
  by_cases c1 : what = 0
  · refine lv_as (y := 0) c1 ?_
    refine lv_tableIn (tgt := 44) (off := 43) hx hb dX6_now_1 (by decide) (by decide) (by decide) (by decide) ?_
    refine lv_aload_n hx hb dX6_now_44 rfl (lv_at hl 0 rfl) ?_
    refine g_get fd_RX6_12 C hX hP 44 (by decide) (shX_44 G ad _) (v := .ref (ad 8)) rfl dX6_now_45 ?_
    refine g_get fd_RX6_125 C hX hP 8 (by decide) (shX_8 G ad _) (v := .int (σ 8 1)) rfl dX6_now_48 ?_
    exact g_iretM C hr hlk rfl (by rw [x_now, if_pos c1]) hP hS dX6_now_51
  by_cases c2 : what = 1
  · refine lv_as (y := 1) c2 ?_
    refine lv_tableIn (tgt := 52) (off := 51) hx hb dX6_now_1 (by decide) (by decide) (by decide) (by decide) ?_
    refine lv_aload_n hx hb dX6_now_52 rfl (lv_at hl 0 rfl) ?_
    refine g_get fd_RX6_12 C hX hP 44 (by decide) (shX_44 G ad _) (v := .ref (ad 8)) rfl dX6_now_53 ?_
    refine g_rd (g_runV (As := []) (rest := []) ky_yX0_knownByGloves lk_RX6_132 C hX (gS_b0 hI hS) (hP.sub (sh1 := (shC G (fun q_ => ad (0 + q_)))) 0 12 (by omega) (shX_club G ad)) 8 (c_yX0_knownByGloves l G (fun q_ => ad (0 + q_)) (hI.sub (m := 12) 0 (by omega)) (mget σ 0)  N hN hs) (by decide) (shC_8 G (fun q_ => ad (0 + q_)) _) ⟨rfl, rfl, by decide, by decide⟩ rfl hl.1 rfl (Nat.le_of_ble_eq_true rfl) ⟨Nat.zero_le _, Nat.zero_le _⟩ dX6_now_56) ?_
    exact g_iretM C hr hlk rfl (by rw [x_now, if_neg c1, if_pos c2]) hP hS dX6_now_59
  by_cases c3 : what = 2
  · refine lv_as (y := 2) c3 ?_
    refine lv_tableIn (tgt := 60) (off := 59) hx hb dX6_now_1 (by decide) (by decide) (by decide) (by decide) ?_
    refine lv_aload_n hx hb dX6_now_60 rfl (lv_at hl 0 rfl) ?_
    refine g_get fd_RX6_12 C hX hP 44 (by decide) (shX_44 G ad _) (v := .ref (ad 8)) rfl dX6_now_61 ?_
    refine g_rd (g_runV (As := []) (rest := []) ky_yX0_knownByHands lk_RX6_135 C hX (gS_b0 hI hS) (hP.sub (sh1 := (shC G (fun q_ => ad (0 + q_)))) 0 12 (by omega) (shX_club G ad)) 8 (c_yX0_knownByHands l G (fun q_ => ad (0 + q_)) (hI.sub (m := 12) 0 (by omega)) (mget σ 0)  N hN hs) (by decide) (shC_8 G (fun q_ => ad (0 + q_)) _) ⟨rfl, rfl, by decide, by decide⟩ rfl hl.1 rfl (Nat.le_of_ble_eq_true rfl) ⟨Nat.zero_le _, Nat.zero_le _⟩ dX6_now_64) ?_
    exact g_iretM C hr hlk rfl (by rw [x_now, if_neg c1, if_neg c2, if_pos c3]) hP hS dX6_now_67
  by_cases c4 : what = 3
  · refine lv_as (y := 3) c4 ?_
    refine lv_tableIn (tgt := 68) (off := 67) hx hb dX6_now_1 (by decide) (by decide) (by decide) (by decide) ?_
    refine lv_ldc hx hb C.2.2.2.1 (C.2.2.2.2 _ kc_RX6_138) dX6_now_68 ?_
    refine lv_aload_n hx hb dX6_now_70 rfl (lv_at hl 0 rfl) ?_
    refine g_get fd_RX6_12 C hX hP 44 (by decide) (shX_44 G ad _) (v := .ref (ad 8)) rfl dX6_now_71 ?_
    refine g_rd (g_runV (As := []) (rest := [.int 65535]) ky_yX0_knownToAnyone lk_RX6_139 C hX (gS_b0 hI hS) (hP.sub (sh1 := (shC G (fun q_ => ad (0 + q_)))) 0 12 (by omega) (shX_club G ad)) 8 (c_yX0_knownToAnyone l G (fun q_ => ad (0 + q_)) (hI.sub (m := 12) 0 (by omega)) (mget σ 0)  N hN hs) (by decide) (shC_8 G (fun q_ => ad (0 + q_)) _) ⟨rfl, rfl, by decide, by decide⟩ rfl hl.1 rfl (Nat.le_of_ble_eq_true rfl) ⟨Nat.zero_le _, Nat.zero_le _⟩ dX6_now_74) ?_
    refine lv_iconst (v := (-1)) hx hb dX6_now_77 (by decide) ?_
    refine lv_ixor hx hb dX6_now_78 ?_
    refine lv_iand hx hb dX6_now_79 ?_
    exact g_iretM C hr hlk rfl (by rw [x_now, if_neg c1, if_neg c2, if_neg c3, if_pos c4]) hP hS dX6_now_80
  by_cases c5 : what = 4
  · refine lv_as (y := 4) c5 ?_
    refine lv_tableIn (tgt := 81) (off := 80) hx hb dX6_now_1 (by decide) (by decide) (by decide) (by decide) ?_
    refine lv_aload_n hx hb dX6_now_81 rfl (lv_at hl 0 rfl) ?_
    refine g_get fd_RX6_12 C hX hP 44 (by decide) (shX_44 G ad _) (v := .ref (ad 8)) rfl dX6_now_82 ?_
    refine g_rd (g_runV (As := []) (rest := []) ky_yX0_drawnInAll lk_RX6_142 C hX (gS_b0 hI hS) (hP.sub (sh1 := (shC G (fun q_ => ad (0 + q_)))) 0 12 (by omega) (shX_club G ad)) 8 (c_yX0_drawnInAll l G (fun q_ => ad (0 + q_)) (hI.sub (m := 12) 0 (by omega)) (mget σ 0)  N hN hs) (by decide) (shC_8 G (fun q_ => ad (0 + q_)) _) ⟨rfl, rfl, by decide, by decide⟩ rfl hl.1 rfl (Nat.le_of_ble_eq_true rfl) ⟨Nat.zero_le _, Nat.zero_le _⟩ dX6_now_85) ?_
    exact g_iretM C hr hlk rfl (by rw [x_now, if_neg c1, if_neg c2, if_neg c3, if_neg c4, if_pos c5]) hP hS dX6_now_88
  by_cases c6 : what = 5
  · refine lv_as (y := 5) c6 ?_
    refine lv_tableIn (tgt := 89) (off := 88) hx hb dX6_now_1 (by decide) (by decide) (by decide) (by decide) ?_
    refine lv_aload_n hx hb dX6_now_89 rfl (lv_at hl 0 rfl) ?_
    refine g_get fd_RX6_12 C hX hP 44 (by decide) (shX_44 G ad _) (v := .ref (ad 8)) rfl dX6_now_90 ?_
    refine g_rd (g_runV (As := []) (rest := []) ky_yX0_wisest lk_RX6_145 C hX (gS_b0 hI hS) (hP.sub (sh1 := (shC G (fun q_ => ad (0 + q_)))) 0 12 (by omega) (shX_club G ad)) 8 (c_yX0_wisest l G (fun q_ => ad (0 + q_)) (hI.sub (m := 12) 0 (by omega)) (mget σ 0)  N hN hs) (by decide) (shC_8 G (fun q_ => ad (0 + q_)) _) ⟨rfl, rfl, by decide, by decide⟩ rfl hl.1 rfl (Nat.le_of_ble_eq_true rfl) ⟨Nat.zero_le _, Nat.zero_le _⟩ dX6_now_93) ?_
    exact g_iretM C hr hlk rfl (by rw [x_now, if_neg c1, if_neg c2, if_neg c3, if_neg c4, if_neg c5, if_pos c6]) hP hS dX6_now_96
  by_cases c7 : what = 6
  · refine lv_as (y := 6) c7 ?_
    refine lv_tableIn (tgt := 97) (off := 96) hx hb dX6_now_1 (by decide) (by decide) (by decide) (by decide) ?_
    refine lv_aload_n hx hb dX6_now_97 rfl (lv_at hl 0 rfl) ?_
    refine g_get fd_RX6_12 C hX hP 44 (by decide) (shX_44 G ad _) (v := .ref (ad 8)) rfl dX6_now_98 ?_
    refine lv_aload_n hx hb dX6_now_101 rfl (lv_at hl 0 rfl) ?_
    refine g_get fd_RX6_12 C hX hP 44 (by decide) (shX_44 G ad _) (v := .ref (ad 8)) rfl dX6_now_102 ?_
    refine g_get fd_RX6_64 C hX hP 8 (by decide) (shX_8 G ad _) (v := .ref (ad 9)) rfl dX6_now_105 ?_
    refine lv_aload_n hx hb dX6_now_108 rfl (lv_at hl 0 rfl) ?_
    refine g_get fd_RX6_12 C hX hP 44 (by decide) (shX_44 G ad _) (v := .ref (ad 8)) rfl dX6_now_109 ?_
    refine g_rd (g_runV (As := []) (rest := [.ref (ad 9), .ref (ad 8)]) ky_yX0_placeOfToday lk_RX6_148 C hX (gS_b0 hI hS) (hP.sub (sh1 := (shC G (fun q_ => ad (0 + q_)))) 0 12 (by omega) (shX_club G ad)) 8 (c_yX0_placeOfToday l G (fun q_ => ad (0 + q_)) (hI.sub (m := 12) 0 (by omega)) (mget σ 0) ) (by decide) (shC_8 G (fun q_ => ad (0 + q_)) _) ⟨rfl, rfl, by decide, by decide⟩ rfl hl.1 rfl (Nat.le_of_ble_eq_true rfl) ⟨Nat.zero_le _, Nat.zero_le _⟩ dX6_now_112) ?_
    refine lv_as (y := (nI (nN (x_placeOfToday0 (mget σ 0))))) (pot (mget σ 0)).1 ?_
    refine g_iald C hX hP 9 (by decide) (shX_9 G ad _) (nN (x_placeOfToday0 (mget σ 0))) (pot (mget σ 0)).2 (by decide) dX6_now_115 ?_
    refine lv_iconst (v := 0) hx hb dX6_now_116 (by decide) ?_
    refine g_rd (g_runV (As := [.int (σ 9 (nN (x_placeOfToday0 (mget σ 0)))), .int 0]) (rest := []) ky_yX0_hearersOf lk_RX6_151 C hX (gS_b0 hI hS) (hP.sub (sh1 := (shC G (fun q_ => ad (0 + q_)))) 0 12 (by omega) (shX_club G ad)) 8 (c_yX0_hearersOf l G (fun q_ => ad (0 + q_)) (hI.sub (m := 12) 0 (by omega)) (mget σ 0) (σ 9 (nN (x_placeOfToday0 (mget σ 0)))) 0 N hN hs) (by decide) (shC_8 G (fun q_ => ad (0 + q_)) _) ⟨rfl, rfl, by decide, by decide⟩ rfl hl.1 rfl (Nat.le_of_ble_eq_true rfl) ⟨Nat.zero_le _, Nat.zero_le _⟩ dX6_now_117) ?_
    exact g_iretM C hr hlk rfl (by rw [x_now, if_neg c1, if_neg c2, if_neg c3, if_neg c4, if_neg c5, if_neg c6, if_pos c7]) hP hS dX6_now_120
  have h8 := lv_neT (a := 0) c1 (by decide)
  have h9 := lv_neT (a := 1) c2 (by decide)
  have h10 := lv_neT (a := 2) c3 (by decide)
  have h11 := lv_neT (a := 3) c4 (by decide)
  have h12 := lv_neT (a := 4) c5 (by decide)
  have h13 := lv_neT (a := 5) c6 (by decide)
  have h14 := lv_neT (a := 6) c7 (by decide)
  refine lv_tableOut (tgt := 121) hx hb dX6_now_1 (by omega) (by decide) ?_
  refine lv_aload_n hx hb dX6_now_121 rfl (lv_at hl 0 rfl) ?_
  refine lv_ldc hx hb C.2.2.2.1 (C.2.2.2.2 _ kc_RX6_59) dX6_now_122 ?_
  refine g_wrI0 hS (g_runV (As := [.int (-1000001)]) (rest := []) ky_yX6_finding lk_RX6_60 C hX (gS_b0 hI hS) hP 44 (c_yX6_finding l G ad hI σ (-1000001)) (by decide) (shX_44 G ad _) ⟨rfl, rfl, by decide, by decide⟩ rfl hl.1 rfl (Nat.le_of_ble_eq_true rfl) ⟨Nat.zero_le _, Nat.zero_le _⟩ dX6_now_124) (fun H locs hP hS => ?_)
  exact g_iretM C hr hlk rfl (by rw [x_now, if_neg c1, if_neg c2, if_neg c3, if_neg c4, if_neg c5, if_neg c6, if_neg c7]) hP hS dX6_now_127
