def x_ahead_m1 (σ : gM) (glove : Int32) (what : Int32) (k : Int32) (σ1 : gM) : Int32 × gM := ((x_trait1 (mget (mput σ1 24 12 (x_passDays0 (mget σ1 24) (nN k) 0)) (24 + (nN glove))) what), (mput σ1 24 12 (x_passDays0 (mget σ1 24) (nN k) 0)))
def x_ahead (σ : gM) (glove : Int32) (what : Int32) (k : Int32) : Int32 × gM := if (x_has0 (mget σ 0) glove) = 0 then ((x_finding σ (-1000001)).1, (x_finding σ (-1000001)).2) else (if (x_canBeAskedAhead what) = 0 then ((x_finding σ (-1000001)).1, (x_finding σ (-1000001)).2) else (if (x_isWithin k 100) = 0 then ((x_finding σ (-1000001)).1, (x_finding σ (-1000001)).2) else (x_ahead_m1 σ glove what k (bec σ 24 0))))
def rm_yX6_ahead : Room := { frames := 5, cells := 0, slots := 0, locals := 119 }
set_option maxHeartbeats 4000000 in
set_option maxRecDepth 100000 in
theorem c_yX6_ahead (l : Launch) (G : gG) (ad : Nat → Nat) (hI : gI G.2.2.1 55 ad) (σ : gM) (glove : Int32) (what : Int32) (k : Int32) (N : Nat) (hN : N ≤ 8) (hs : σ 8 0 = nI N) : gMutI l yX6_ahead cX6_ahead 4 (some .int) rm_yX6_ahead G [.ref (ad 44), .int glove, .int what, .int k] 55 ad (shX G ad) σ (x_ahead σ glove what k) := by
  refine g_start [.ref (ad 44), .int glove, .int what, .int k] (by decide +kernel) (Nat.le_of_ble_eq_true rfl) ?_
  intro p e s m below meth c ls B Z hl
  obtain ⟨C, hr, hlk⟩ := B
  have hx := C.1
  have hb := C.2.1
  obtain ⟨hX, hP⟩ := Z
  have hS : va_S (gA 55 ad) s.heap s.heap [] := va_S.rf
  revert hP hS
  intro hP hS
  have hl : lv_has ls 4 [(0, .ref (ad 44)), (1, .int glove), (2, .int what), (3, .int k)] := hl
  refine lv_aload_n hx hb dX6_ahead_0 rfl (lv_at hl 0 rfl) ?_
  refine g_get fd_RX6_12 C hX hP 44 (by decide) (shX_44 G ad _) (v := .ref (ad 8)) rfl dX6_ahead_1 ?_
  refine lv_iload_n hx hb dX6_ahead_4 rfl (lv_at hl 1 rfl) ?_
  refine g_rd (g_runV (As := [.int glove]) (rest := []) ky_yX0_has lk_RX6_88 C hX (gS_b0 hI hS) (hP.sub (sh1 := (shC G (fun q_ => ad (0 + q_)))) 0 12 (by omega) (shX_club G ad)) 8 (c_yX0_has l G (fun q_ => ad (0 + q_)) (hI.sub (m := 12) 0 (by omega)) (mget σ 0) glove) (by decide) (shC_8 G (fun q_ => ad (0 + q_)) _) ⟨rfl, rfl, by decide, by decide⟩ rfl hl.1 rfl (Nat.le_of_ble_eq_true rfl) ⟨Nat.zero_le _, Nat.zero_le _⟩ dX6_ahead_5) ?_
  refine lv_if_eq (tgt := 27) hx hb dX6_ahead_8 (by decide) (fun c1 => ?_) (fun c1 => ?_)
  · refine lv_aload_n hx hb dX6_ahead_27 rfl (lv_at hl 0 rfl) ?_
    refine lv_ldc hx hb C.2.2.2.1 (C.2.2.2.2 _ kc_RX6_59) dX6_ahead_28 ?_
    refine g_wrI0 hS (g_runV (As := [.int (-1000001)]) (rest := []) ky_yX6_finding lk_RX6_60 C hX (gS_b0 hI hS) hP 44 (c_yX6_finding l G ad hI σ (-1000001)) (by decide) (shX_44 G ad _) ⟨rfl, rfl, by decide, by decide⟩ rfl hl.1 rfl (Nat.le_of_ble_eq_true rfl) ⟨Nat.zero_le _, Nat.zero_le _⟩ dX6_ahead_30) (fun H locs hP hS => ?_)
    exact g_iretM C hr hlk rfl (by rw [x_ahead, if_pos c1]) hP hS dX6_ahead_33
  · obtain ⟨hg1, hg2⟩ := has_of hN hs c1
    refine lv_iload_n hx hb dX6_ahead_11 rfl (lv_at hl 2 rfl) ?_
    refine g_rd (g_runS (As := [.int what]) (rest := []) ky_yX6_canBeAskedAhead lk_RX6_154 C (c_yX6_canBeAskedAhead l what) ⟨rfl, rfl, by decide, by decide⟩ rfl hl.1 rfl (Nat.le_of_ble_eq_true rfl) ⟨Nat.zero_le _, Nat.zero_le _⟩ dX6_ahead_12) ?_
    refine lv_if_eq (tgt := 27) hx hb dX6_ahead_15 (by decide) (fun c2 => ?_) (fun c2 => ?_)
    · refine lv_aload_n hx hb dX6_ahead_27 rfl (lv_at hl 0 rfl) ?_
      refine lv_ldc hx hb C.2.2.2.1 (C.2.2.2.2 _ kc_RX6_59) dX6_ahead_28 ?_
      refine g_wrI0 hS (g_runV (As := [.int (-1000001)]) (rest := []) ky_yX6_finding lk_RX6_60 C hX (gS_b0 hI hS) hP 44 (c_yX6_finding l G ad hI σ (-1000001)) (by decide) (shX_44 G ad _) ⟨rfl, rfl, by decide, by decide⟩ rfl hl.1 rfl (Nat.le_of_ble_eq_true rfl) ⟨Nat.zero_le _, Nat.zero_le _⟩ dX6_ahead_30) (fun H locs hP hS => ?_)
      exact g_iretM C hr hlk rfl (by rw [x_ahead, if_neg c1, if_pos c2]) hP hS dX6_ahead_33
    · refine lv_iload_n hx hb dX6_ahead_18 rfl (lv_at hl 3 rfl) ?_
      refine lv_bipush (v := 100) hx hb dX6_ahead_19 (by decide) ?_
      refine g_rd (g_runS (As := [.int k, .int 100]) (rest := []) ky_yX6_isWithin lk_RX6_51 C (c_yX6_isWithin l k 100) ⟨rfl, rfl, by decide, by decide⟩ rfl hl.1 rfl (Nat.le_of_ble_eq_true rfl) ⟨Nat.zero_le _, Nat.zero_le _⟩ dX6_ahead_21) ?_
      refine lv_if_ne (tgt := 34) hx hb dX6_ahead_24 (by decide) (fun c3 => ?_) (fun c3 => ?_)
      · obtain ⟨hk1, hk2⟩ := isW_of (M := 100) (by decide) c3
        refine lv_aload_n hx hb dX6_ahead_34 rfl (lv_at hl 0 rfl) ?_
        refine g_get fd_RX6_19 C hX hP 44 (by decide) (shX_44 G ad _) (v := .ref (ad 32)) rfl dX6_ahead_35 ?_
        refine lv_aload_n hx hb dX6_ahead_38 rfl (lv_at hl 0 rfl) ?_
        refine g_get fd_RX6_12 C hX hP 44 (by decide) (shX_44 G ad _) (v := .ref (ad 8)) rfl dX6_ahead_39 ?_
        refine g_wrVq (ι := (pkD 24 0)) (κ := (kpD 24 0)) (m1 := 24) (pkD_m (a := 24) (b := 0) (by decide) (by decide) (by decide)) (pkD_X G ad (a := 24) (b := 0) (by decide) (by decide)) hI hP hS (g_runV (As := [.ref (ad 8)]) (rest := []) ky_yX0_become lk_RX6_157 C hX (gS_b0 hI hS) (hP.pickE (sh1 := (shD G (fun q_ => ad ((pkD 24 0) q_)))) (pkD 24 0) 24 (fun i_ hi_ => ((pkD_m (a := 24) (b := 0) (by decide) (by decide) (by decide)) i_ hi_).1) (pkD_X G ad (a := 24) (b := 0) (by decide) (by decide))) 8 (c_yX0_become l G (fun q_ => ad ((pkD 24 0) q_)) (pk_I hI (pkD_m (a := 24) (b := 0) (by decide) (by decide) (by decide))) (mpick σ (pkD 24 0))  N hN hs) (by decide) (shD_8 G (fun q_ => ad ((pkD 24 0) q_)) _) ⟨rfl, rfl, by decide, by decide⟩ rfl hl.1 rfl (Nat.le_of_ble_eq_true rfl) ⟨Nat.zero_le _, Nat.zero_le _⟩ dX6_ahead_42) (fun H locs hP hS => ?_)
        have hP : gP G.1 55 ad (gE (shX G ad) (bec σ 24 0)) H := hP
        obtain ⟨σ1, eσ1⟩ : ∃ τ_ : gM, τ_ = (bec σ 24 0) := ⟨_, rfl⟩
        rw [← eσ1] at hP
        have hsT : σ1 32 0 = nI N := by rw [eσ1]; exact (bec_8 (a := 24) (b := 0) hN hs (j := 0) (by decide)).trans hs
        have hsC : σ1 8 0 = nI N := by rw [eσ1, bec_out (a := 24) (b := 0) (k := 8) hN hs (by decide)]; exact hs
        refine lv_aload_n hx hb dX6_ahead_45 rfl (lv_at hl 0 rfl) ?_
        refine g_get fd_RX6_19 C hX hP 44 (by decide) (shX_44 G ad _) (v := .ref (ad 32)) rfl dX6_ahead_46 ?_
        refine lv_iload_n hx hb dX6_ahead_49 rfl (lv_at hl 3 rfl) ?_
        refine lv_as (y := (nI (nN k))) hk1 ?_
        refine lv_iconst (v := 0) hx hb dX6_ahead_50 (by decide) ?_
        refine g_wrV (o := 24) (m1 := 12) (by omega) (shX_trial G ad) hI hP hS (g_runV (As := [.int (nI (nN k)), .int 0]) (rest := []) ky_yX0_passDays lk_RX6_129 C hX (gS_b0 hI hS) (hP.sub (sh1 := (shC G (fun q_ => ad (24 + q_)))) 24 12 (by omega) (shX_trial G ad)) 8 (c_yX0_passDays l G (fun q_ => ad (24 + q_)) (hI.sub (m := 12) 24 (by omega)) (mget σ1 24) (nN k) 0 N hN hsT (by omega)) (by decide) (shC_8 G (fun q_ => ad (24 + q_)) _) ⟨rfl, rfl, by decide, by decide⟩ rfl hl.1 rfl (Nat.le_of_ble_eq_true rfl) ⟨Nat.zero_le _, Nat.zero_le _⟩ dX6_ahead_51) (fun H locs hP hS => ?_)
        refine lv_aload_n hx hb dX6_ahead_54 rfl (lv_at hl 0 rfl) ?_
        refine g_get fd_RX6_19 C hX hP 44 (by decide) (shX_44 G ad _) (v := .ref (ad 32)) rfl dX6_ahead_55 ?_
        refine g_get fd_RX6_96 C hX hP 32 (by decide) (shX_32 G ad _) (v := .ref (ad 35)) rfl dX6_ahead_58 ?_
        refine lv_iload_n hx hb dX6_ahead_61 rfl (lv_at hl 1 rfl) ?_
        refine lv_as (y := (nI (nN glove))) hg1 ?_
        refine g_aald (t0 := 2) C hX hP 35 (by decide) (shX_35 G ad _) rfl (nN glove) (by omega) (by decide) rfl dX6_ahead_62 ?_
        refine lv_iload_n hx hb dX6_ahead_63 rfl (lv_at hl 2 rfl) ?_
        refine g_rd (g_runV (As := [.int what]) (rest := []) ky_yX1_trait lk_RX6_100 C hX (gS_b0 hI hS) (hP.sub (sh1 := shG) (24 + (nN glove)) 1 (by omega) (shX_tg G ad (by omega))) 0 (c_yX1_trait l G (fun q_ => ad ((24 + (nN glove)) + q_)) (hI.sub (m := 1) (24 + (nN glove)) (by omega)) (mget (mput σ1 24 12 (x_passDays0 (mget σ1 24) (nN k) 0)) (24 + (nN glove))) what) (by decide) (shG_g _) ⟨rfl, rfl, by decide, by decide⟩ rfl hl.1 rfl (Nat.le_of_ble_eq_true rfl) ⟨Nat.zero_le _, Nat.zero_le _⟩ dX6_ahead_64) ?_
        exact g_iretM C hr hlk rfl (by rw [x_ahead, if_neg c1, if_neg c2, if_neg c3, ← eσ1, x_ahead_m1]) hP hS dX6_ahead_67
      · refine lv_aload_n hx hb dX6_ahead_27 rfl (lv_at hl 0 rfl) ?_
        refine lv_ldc hx hb C.2.2.2.1 (C.2.2.2.2 _ kc_RX6_59) dX6_ahead_28 ?_
        refine g_wrI0 hS (g_runV (As := [.int (-1000001)]) (rest := []) ky_yX6_finding lk_RX6_60 C hX (gS_b0 hI hS) hP 44 (c_yX6_finding l G ad hI σ (-1000001)) (by decide) (shX_44 G ad _) ⟨rfl, rfl, by decide, by decide⟩ rfl hl.1 rfl (Nat.le_of_ble_eq_true rfl) ⟨Nat.zero_le _, Nat.zero_le _⟩ dX6_ahead_30) (fun H locs hP hS => ?_)
        exact g_iretM C hr hlk rfl (by rw [x_ahead, if_neg c1, if_neg c2, if_pos c3]) hP hS dX6_ahead_33

def x_isSoInTrial (σ : gM) (question : Int32) (g : Nat) (v : Int32) : Int32 := if question = 0 then (x_isIn v (σ (24 + g) 3)) else (if question = 1 then (if (x_topicsInHand0 (mget σ 24) g) < v then 0 else 1) else (if (v &&& ((x_knownToAnyone0 (mget σ 24)) ^^^ (-1))) = 0 then 1 else 0))
def rm_yX6_isSoInTrial : Room := { frames := 4, cells := 0, slots := 0, locals := 84 }
set_option maxHeartbeats 4000000 in
set_option maxRecDepth 100000 in
theorem c_yX6_isSoInTrial (l : Launch) (G : gG) (ad : Nat → Nat) (hI : gI G.2.2.1 55 ad) (σ : gM) (question : Int32) (g : Nat) (v : Int32) (N : Nat) (hN : N ≤ 8) (hsT : σ 32 0 = nI N) (hg : g < 8) : gRead l yX6_isSoInTrial cX6_isSoInTrial 4 (some .boolean) rm_yX6_isSoInTrial G [.ref (ad 44), .int question, .int (nI g), .int v] 55 ad (gE (shX G ad) σ) (x_isSoInTrial σ question g v) := by
  refine g_start [.ref (ad 44), .int question, .int (nI g), .int v] (by decide +kernel) (Nat.le_of_ble_eq_true rfl) ?_
  intro p e s m below meth c ls B Z hl
  obtain ⟨C, hr, hlk⟩ := B
  have hx := C.1
  have hb := C.2.1
  obtain ⟨hX, hP⟩ := Z
  have hS : va_S (gA 55 ad) s.heap s.heap [] := va_S.rf
  have hl : lv_has ls 4 [(0, .ref (ad 44)), (1, .int question), (2, .int (nI g)), (3, .int v)] := hl
  refine lv_iload_n hx hb dX6_isSoInTrial_0 rfl (lv_at hl 1 rfl) ?_
  by_cases c1 : question = 0
  · refine lv_as (y := 0) c1 ?_
    refine lv_lookup (tgt := 28) (off := 27) hx hb dX6_isSoInTrial_1 (by decide) (by decide +kernel) (by decide) ?_
    refine lv_iload_n hx hb dX6_isSoInTrial_28 rfl (lv_at hl 3 rfl) ?_
    refine lv_aload_n hx hb dX6_isSoInTrial_29 rfl (lv_at hl 0 rfl) ?_
    refine g_get fd_RX6_19 C hX hP 44 (by decide) (shX_44 G ad _) (v := .ref (ad 32)) rfl dX6_isSoInTrial_30 ?_
    refine g_get fd_RX6_96 C hX hP 32 (by decide) (shX_32 G ad _) (v := .ref (ad 35)) rfl dX6_isSoInTrial_33 ?_
    refine lv_iload_n hx hb dX6_isSoInTrial_36 rfl (lv_at hl 2 rfl) ?_
    refine g_aald (t0 := 2) C hX hP 35 (by decide) (shX_35 G ad _) rfl g (by omega) (by decide) rfl dX6_isSoInTrial_37 ?_
    refine g_get fd_RX6_174 C hX hP (24 + g) (by omega) (shX_t G ad (by omega) _) (v := .int (σ (24 + g) 3)) rfl dX6_isSoInTrial_38 ?_
    refine g_rd (g_runS (As := [.int v, .int (σ (24 + g) 3)]) (rest := []) ky_yX6_isIn lk_RX6_177 C (c_yX6_isIn l v (σ (24 + g) 3)) ⟨rfl, rfl, by decide, by decide⟩ rfl hl.1 rfl (Nat.le_of_ble_eq_true rfl) ⟨Nat.zero_le _, Nat.zero_le _⟩ dX6_isSoInTrial_41) ?_
    exact g_iret C hr hlk (nb_of (xb_isIn _ _)) (by rw [x_isSoInTrial, if_pos c1]) rfl rfl dX6_isSoInTrial_44
  by_cases c2 : question = 1
  · refine lv_as (y := 1) c2 ?_
    refine lv_lookup (tgt := 45) (off := 44) hx hb dX6_isSoInTrial_1 (by decide) (by decide +kernel) (by decide) ?_
    refine lv_aload_n hx hb dX6_isSoInTrial_45 rfl (lv_at hl 0 rfl) ?_
    refine g_get fd_RX6_19 C hX hP 44 (by decide) (shX_44 G ad _) (v := .ref (ad 32)) rfl dX6_isSoInTrial_46 ?_
    refine lv_iload_n hx hb dX6_isSoInTrial_49 rfl (lv_at hl 2 rfl) ?_
    refine g_rd (g_runV (As := [.int (nI g)]) (rest := []) ky_yX0_topicsInHand lk_RX6_180 C hX (gS_b0 hI hS) (hP.sub (sh1 := (shC G (fun q_ => ad (24 + q_)))) 24 12 (by omega) (shX_trial G ad)) 8 (c_yX0_topicsInHand l G (fun q_ => ad (24 + q_)) (hI.sub (m := 12) 24 (by omega)) (mget σ 24) g hg) (by decide) (shC_8 G (fun q_ => ad (24 + q_)) _) ⟨rfl, rfl, by decide, by decide⟩ rfl hl.1 rfl (Nat.le_of_ble_eq_true rfl) ⟨Nat.zero_le _, Nat.zero_le _⟩ dX6_isSoInTrial_50) ?_
    refine lv_iload_n hx hb dX6_isSoInTrial_53 rfl (lv_at hl 3 rfl) ?_
    refine lv_icmp_lt (tgt := 61) hx hb dX6_isSoInTrial_54 (by decide) (fun c3 => ?_) (fun c3 => ?_)
    · refine lv_iconst (v := 0) hx hb dX6_isSoInTrial_61 (by decide) ?_
      exact g_iret C hr hlk rfl (by rw [x_isSoInTrial, if_neg c1, if_pos c2, if_pos c3]) rfl rfl dX6_isSoInTrial_62
    · refine lv_iconst (v := 1) hx hb dX6_isSoInTrial_57 (by decide) ?_
      refine lv_goto (tgt := 62) hx hb dX6_isSoInTrial_58 (by decide) ?_
      exact g_iret C hr hlk rfl (by rw [x_isSoInTrial, if_neg c1, if_pos c2, if_neg c3]) rfl rfl dX6_isSoInTrial_62
  refine lv_lookup (tgt := 63) (off := 62) hx hb dX6_isSoInTrial_1 (by decide) (by rw [show (_ : List (Int × Int)) = [(0, 27), (1, 44)] from rfl, lv_osw c1 (by decide), lv_osw c2 (by decide)]; rfl) (by decide) ?_
  refine lv_iload_n hx hb dX6_isSoInTrial_63 rfl (lv_at hl 3 rfl) ?_
  refine lv_aload_n hx hb dX6_isSoInTrial_64 rfl (lv_at hl 0 rfl) ?_
  refine g_get fd_RX6_19 C hX hP 44 (by decide) (shX_44 G ad _) (v := .ref (ad 32)) rfl dX6_isSoInTrial_65 ?_
  refine g_rd (g_runV (As := []) (rest := [.int v]) ky_yX0_knownToAnyone lk_RX6_139 C hX (gS_b0 hI hS) (hP.sub (sh1 := (shC G (fun q_ => ad (24 + q_)))) 24 12 (by omega) (shX_trial G ad)) 8 (c_yX0_knownToAnyone l G (fun q_ => ad (24 + q_)) (hI.sub (m := 12) 24 (by omega)) (mget σ 24)  N hN hsT) (by decide) (shC_8 G (fun q_ => ad (24 + q_)) _) ⟨rfl, rfl, by decide, by decide⟩ rfl hl.1 rfl (Nat.le_of_ble_eq_true rfl) ⟨Nat.zero_le _, Nat.zero_le _⟩ dX6_isSoInTrial_68) ?_
  refine lv_iconst (v := (-1)) hx hb dX6_isSoInTrial_71 (by decide) ?_
  refine lv_ixor hx hb dX6_isSoInTrial_72 ?_
  refine lv_iand hx hb dX6_isSoInTrial_73 ?_
  refine lv_if_ne (tgt := 81) hx hb dX6_isSoInTrial_74 (by decide) (fun c4 => ?_) (fun c4 => ?_)
  · refine lv_iconst (v := 0) hx hb dX6_isSoInTrial_81 (by decide) ?_
    exact g_iret C hr hlk rfl (by rw [x_isSoInTrial, if_neg c1, if_neg c2, if_neg c4]) rfl rfl dX6_isSoInTrial_82
  · refine lv_iconst (v := 1) hx hb dX6_isSoInTrial_77 (by decide) ?_
    refine lv_goto (tgt := 82) hx hb dX6_isSoInTrial_78 (by decide) ?_
    exact g_iret C hr hlk rfl (by rw [x_isSoInTrial, if_neg c1, if_neg c2, if_pos c4]) rfl rfl dX6_isSoInTrial_82

def x_daysUntil_L14 (σ : gM) (question : Int32) (g : Nat) (v : Int32) (σ1 : gM) : Nat → Nat → gM → Int32 × gM
  | 0, i, τ => ((x_finding τ (-1000004)).1, (x_finding τ (-1000004)).2)
  | n14 + 1, i, τ => if (x_isSoInTrial τ question g v) = 0 then (x_daysUntil_L14 σ question g v σ1 n14 (i + 1) (mput τ 24 12 (x_passDay0 (mget τ 24) 0))) else ((nI i), τ)
def x_daysUntil_m1 (σ : gM) (question : Int32) (g : Nat) (v : Int32) (σ1 : gM) : Int32 × gM := (x_daysUntil_L14 σ question g v σ1 (200 + 1) 0 σ1)
def x_daysUntil (σ : gM) (question : Int32) (g : Nat) (v : Int32) : Int32 × gM := (x_daysUntil_m1 σ question g v (bec σ 24 0))
def rm_yX6_daysUntil : Room := { frames := 5, cells := 0, slots := 0, locals := 107 }
set_option maxHeartbeats 4000000 in
set_option maxRecDepth 100000 in
theorem c_yX6_daysUntil (l : Launch) (G : gG) (ad : Nat → Nat) (hI : gI G.2.2.1 55 ad) (σ : gM) (question : Int32) (g : Nat) (v : Int32) (N : Nat) (hN : N ≤ 8) (hs : σ 8 0 = nI N) (hg : g < 8) : gMutI l yX6_daysUntil cX6_daysUntil 5 (some .int) rm_yX6_daysUntil G [.ref (ad 44), .int question, .int (nI g), .int v] 55 ad (shX G ad) σ (x_daysUntil σ question g v) := by
  refine g_start [.ref (ad 44), .int question, .int (nI g), .int v] (by decide +kernel) (Nat.le_of_ble_eq_true rfl) ?_
  intro p e s m below meth c ls B Z hl
  obtain ⟨C, hr, hlk⟩ := B
  have hx := C.1
  have hb := C.2.1
  obtain ⟨hX, hP⟩ := Z
  have hS : va_S (gA 55 ad) s.heap s.heap [] := va_S.rf
  revert hP hS
  intro hP hS
  have hl : lv_has ls 5 [(0, .ref (ad 44)), (1, .int question), (2, .int (nI g)), (3, .int v)] := hl
  refine lv_aload_n hx hb dX6_daysUntil_0 rfl (lv_at hl 0 rfl) ?_
  refine g_get fd_RX6_19 C hX hP 44 (by decide) (shX_44 G ad _) (v := .ref (ad 32)) rfl dX6_daysUntil_1 ?_
  refine lv_aload_n hx hb dX6_daysUntil_4 rfl (lv_at hl 0 rfl) ?_
  refine g_get fd_RX6_12 C hX hP 44 (by decide) (shX_44 G ad _) (v := .ref (ad 8)) rfl dX6_daysUntil_5 ?_
  refine g_wrVq (ι := (pkD 24 0)) (κ := (kpD 24 0)) (m1 := 24) (pkD_m (a := 24) (b := 0) (by decide) (by decide) (by decide)) (pkD_X G ad (a := 24) (b := 0) (by decide) (by decide)) hI hP hS (g_runV (As := [.ref (ad 8)]) (rest := []) ky_yX0_become lk_RX6_157 C hX (gS_b0 hI hS) (hP.pickE (sh1 := (shD G (fun q_ => ad ((pkD 24 0) q_)))) (pkD 24 0) 24 (fun i_ hi_ => ((pkD_m (a := 24) (b := 0) (by decide) (by decide) (by decide)) i_ hi_).1) (pkD_X G ad (a := 24) (b := 0) (by decide) (by decide))) 8 (c_yX0_become l G (fun q_ => ad ((pkD 24 0) q_)) (pk_I hI (pkD_m (a := 24) (b := 0) (by decide) (by decide) (by decide))) (mpick σ (pkD 24 0))  N hN hs) (by decide) (shD_8 G (fun q_ => ad ((pkD 24 0) q_)) _) ⟨rfl, rfl, by decide, by decide⟩ rfl hl.1 rfl (Nat.le_of_ble_eq_true rfl) ⟨Nat.zero_le _, Nat.zero_le _⟩ dX6_daysUntil_8) (fun H locs hP hS => ?_)
  have hP : gP G.1 55 ad (gE (shX G ad) (bec σ 24 0)) H := hP
  obtain ⟨σ1, eσ1⟩ : ∃ τ_ : gM, τ_ = (bec σ 24 0) := ⟨_, rfl⟩
  rw [← eσ1] at hP
  have hsT : σ1 32 0 = nI N := by rw [eσ1]; exact (bec_8 (a := 24) (b := 0) hN hs (j := 0) (by decide)).trans hs
  have hsC : σ1 8 0 = nI N := by rw [eσ1, bec_out (a := 24) (b := 0) (k := 8) hN hs (by decide)]; exact hs
  refine lv_iconst (v := 0) hx hb dX6_daysUntil_11 (by decide) ?_
  refine lv_istore (lv' := [(4, .int 0), (0, .ref (ad 44)), (1, .int question), (2, .int (nI g)), (3, .int v)]) hx hb dX6_daysUntil_12 hl (by decide) rfl (fun ls hl => ?_)
  suffices loop14 : ∀ (n14 : Nat) (i : Nat) (τ : gM) (H : Heap) (locs : List Loc) (ls : Array Slot), (i + n14 = 200 + 1) → (τ 32 0 = nI N) → x_daysUntil σ question g v = (x_daysUntil_L14 σ question g v σ1 n14 i τ) → gP G.1 55 ad (gE (shX G ad) τ) H → va_S (gA 55 ad) s.heap H locs → lv_has ls 5 [(4, .int (nI i)), (0, .ref (ad 44)), (1, .int question), (2, .int (nI g)), (3, .int v)] → W p l e rm_yX6_daysUntil s m ([.ref (ad 44), .int question, .int (nI g), .int v] : List Value).toArray below meth c H locs 0 0 (MQ below (va_Qi (fun (x : Int32) (τ : gM) => x_daysUntil σ question g v = (x, τ)) (fun τ t => gP G.1 55 ad (gE (shX G ad) τ) t.heap) (gA 55 ad)) ([.ref (ad 44), .int question, .int (nI g), .int v] : List Value).toArray s 0 0 (gA 55 ad)) (F0 m 14 ls []) by
    exact loop14 (200 + 1) 0 σ1 _ _ _ (by omega) hsT (by rw [x_daysUntil, ← eσ1, x_daysUntil_m1]) hP hS (lv_sub hl [0, 1, 2, 3, 4] rfl)
  intro n14
  induction n14 with
  | zero =>
    intro i τ H locs ls hi14 hT hres14 hP hS hl
    refine lv_iload hx hb dX6_daysUntil_14 (lv_at hl 0 rfl) ?_
    refine lv_sipush (v := 200) hx hb dX6_daysUntil_16 (by decide) ?_
    refine lv_icmp_gt (tgt := 49) hx hb dX6_daysUntil_19 (by decide) (fun c1 => ?_) (fun c1 => ?_)
    · refine lv_aload_n hx hb dX6_daysUntil_49 rfl (lv_at hl 1 rfl) ?_
      refine lv_ldc hx hb C.2.2.2.1 (C.2.2.2.2 _ kc_RX6_173) dX6_daysUntil_50 ?_
      refine g_wrI0 hS (g_runV (As := [.int (-1000004)]) (rest := []) ky_yX6_finding lk_RX6_60 C hX (gS_b0 hI hS) hP 44 (c_yX6_finding l G ad hI τ (-1000004)) (by decide) (shX_44 G ad _) ⟨rfl, rfl, by decide, by decide⟩ rfl hl.1 rfl (Nat.le_of_ble_eq_true rfl) ⟨Nat.zero_le _, Nat.zero_le _⟩ dX6_daysUntil_52) (fun H locs hP hS => ?_)
      exact g_iretM C hr hlk rfl (by rw [hres14, x_daysUntil_L14]) hP hS dX6_daysUntil_55
    · exact absurd (show nI 200 < nI i from nI_lt (by omega) (by omega)) c1
  | succ n14 ih14 =>
    intro i τ H locs ls hi14 hT hres14 hP hS hl
    refine lv_iload hx hb dX6_daysUntil_14 (lv_at hl 0 rfl) ?_
    refine lv_sipush (v := 200) hx hb dX6_daysUntil_16 (by decide) ?_
    refine lv_icmp_gt (tgt := 49) hx hb dX6_daysUntil_19 (by decide) (fun c2 => ?_) (fun c2 => ?_)
    · exact absurd (show nI 200 < nI i from c2) (nI_nlt (by omega) (by omega))
    · refine lv_aload_n hx hb dX6_daysUntil_22 rfl (lv_at hl 1 rfl) ?_
      refine lv_iload_n hx hb dX6_daysUntil_23 rfl (lv_at hl 2 rfl) ?_
      refine lv_iload_n hx hb dX6_daysUntil_24 rfl (lv_at hl 3 rfl) ?_
      refine lv_iload_n hx hb dX6_daysUntil_25 rfl (lv_at hl 4 rfl) ?_
      refine g_rd (g_runV (As := [.int question, .int (nI g), .int v]) (rest := []) ky_yX6_isSoInTrial lk_RX6_165 C hX (gS_b0 hI hS) hP 44 (c_yX6_isSoInTrial l G ad hI τ question g v N hN hT hg) (by decide) (shX_44 G ad _) ⟨rfl, rfl, by decide, by decide⟩ rfl hl.1 rfl (Nat.le_of_ble_eq_true rfl) ⟨Nat.zero_le _, Nat.zero_le _⟩ dX6_daysUntil_26) ?_
      refine lv_if_eq (tgt := 35) hx hb dX6_daysUntil_29 (by decide) (fun c3 => ?_) (fun c3 => ?_)
      · refine lv_aload_n hx hb dX6_daysUntil_35 rfl (lv_at hl 1 rfl) ?_
        refine g_get fd_RX6_19 C hX hP 44 (by decide) (shX_44 G ad _) (v := .ref (ad 32)) rfl dX6_daysUntil_36 ?_
        refine lv_iconst (v := 0) hx hb dX6_daysUntil_39 (by decide) ?_
        refine g_wrV (o := 24) (m1 := 12) (by omega) (shX_trial G ad) hI hP hS (g_runV (As := [.int 0]) (rest := []) ky_yX0_passDay lk_RX6_169 C hX (gS_b0 hI hS) (hP.sub (sh1 := (shC G (fun q_ => ad (24 + q_)))) 24 12 (by omega) (shX_trial G ad)) 8 (c_yX0_passDay l G (fun q_ => ad (24 + q_)) (hI.sub (m := 12) 24 (by omega)) (mget τ 24) 0 N hN hT) (by decide) (shC_8 G (fun q_ => ad (24 + q_)) _) ⟨rfl, rfl, by decide, by decide⟩ rfl hl.1 rfl (Nat.le_of_ble_eq_true rfl) ⟨Nat.zero_le _, Nat.zero_le _⟩ dX6_daysUntil_40) (fun H locs hP hS => ?_)
        refine lv_iinc (v := (nI (i + 1))) (lv' := [(4, .int (nI (i + 1))), (0, .ref (ad 44)), (1, .int question), (2, .int (nI g)), (3, .int v)]) hx hb dX6_daysUntil_43 hl (k := 0) rfl (by exact nI_1 _) (by decide) rfl (fun ls hl => ?_)
        refine lv_goto (tgt := 14) hx hb dX6_daysUntil_46 (by decide) ?_
        exact ih14 (i + 1) (mput τ 24 12 (x_passDay0 (mget τ 24) 0)) _ _ _ (by omega) (by exact pd_8 (σ := mget τ 24) hN hT 0) (by rw [hres14, x_daysUntil_L14, if_pos c3]) hP hS (lv_sub hl [0, 1, 2, 3, 4] rfl)
      · refine lv_iload hx hb dX6_daysUntil_32 (lv_at hl 0 rfl) ?_
        exact g_iretM C hr hlk rfl (by rw [hres14, x_daysUntil_L14, if_neg c3]) hP hS dX6_daysUntil_34

def x_hears (σ : gM) (glove : Int32) (v : Int32) : Int32 × gM := if (x_has0 (mget σ 0) glove) = 0 then ((x_finding σ (-1000001)).1, (x_finding σ (-1000001)).2) else (if (x_isWithin v 15) = 0 then ((x_finding σ (-1000001)).1, (x_finding σ (-1000001)).2) else ((x_daysUntil σ 0 (nN glove) v).1, (x_daysUntil σ 0 (nN glove) v).2))
def rm_yX6_hears : Room := { frames := 6, cells := 0, slots := 0, locals := 131 }
set_option maxHeartbeats 4000000 in
set_option maxRecDepth 100000 in
theorem c_yX6_hears (l : Launch) (G : gG) (ad : Nat → Nat) (hI : gI G.2.2.1 55 ad) (σ : gM) (glove : Int32) (v : Int32) (N : Nat) (hN : N ≤ 8) (hs : σ 8 0 = nI N) : gMutI l yX6_hears cX6_hears 3 (some .int) rm_yX6_hears G [.ref (ad 44), .int glove, .int v] 55 ad (shX G ad) σ (x_hears σ glove v) := by
  refine g_start [.ref (ad 44), .int glove, .int v] (by decide +kernel) (Nat.le_of_ble_eq_true rfl) ?_
  intro p e s m below meth c ls B Z hl
  obtain ⟨C, hr, hlk⟩ := B
  have hx := C.1
  have hb := C.2.1
  obtain ⟨hX, hP⟩ := Z
  have hS : va_S (gA 55 ad) s.heap s.heap [] := va_S.rf
  revert hP hS
  intro hP hS
  have hl : lv_has ls 3 [(0, .ref (ad 44)), (1, .int glove), (2, .int v)] := hl
  refine lv_aload_n hx hb dX6_hears_0 rfl (lv_at hl 0 rfl) ?_
  refine g_get fd_RX6_12 C hX hP 44 (by decide) (shX_44 G ad _) (v := .ref (ad 8)) rfl dX6_hears_1 ?_
  refine lv_iload_n hx hb dX6_hears_4 rfl (lv_at hl 1 rfl) ?_
  refine g_rd (g_runV (As := [.int glove]) (rest := []) ky_yX0_has lk_RX6_88 C hX (gS_b0 hI hS) (hP.sub (sh1 := (shC G (fun q_ => ad (0 + q_)))) 0 12 (by omega) (shX_club G ad)) 8 (c_yX0_has l G (fun q_ => ad (0 + q_)) (hI.sub (m := 12) 0 (by omega)) (mget σ 0) glove) (by decide) (shC_8 G (fun q_ => ad (0 + q_)) _) ⟨rfl, rfl, by decide, by decide⟩ rfl hl.1 rfl (Nat.le_of_ble_eq_true rfl) ⟨Nat.zero_le _, Nat.zero_le _⟩ dX6_hears_5) ?_
  refine lv_if_eq (tgt := 20) hx hb dX6_hears_8 (by decide) (fun c1 => ?_) (fun c1 => ?_)
  · refine lv_aload_n hx hb dX6_hears_20 rfl (lv_at hl 0 rfl) ?_
    refine lv_ldc hx hb C.2.2.2.1 (C.2.2.2.2 _ kc_RX6_59) dX6_hears_21 ?_
    refine g_wrI0 hS (g_runV (As := [.int (-1000001)]) (rest := []) ky_yX6_finding lk_RX6_60 C hX (gS_b0 hI hS) hP 44 (c_yX6_finding l G ad hI σ (-1000001)) (by decide) (shX_44 G ad _) ⟨rfl, rfl, by decide, by decide⟩ rfl hl.1 rfl (Nat.le_of_ble_eq_true rfl) ⟨Nat.zero_le _, Nat.zero_le _⟩ dX6_hears_23) (fun H locs hP hS => ?_)
    exact g_iretM C hr hlk rfl (by rw [x_hears, if_pos c1]) hP hS dX6_hears_26
  · obtain ⟨hg1, hg2⟩ := has_of hN hs c1
    refine lv_iload_n hx hb dX6_hears_11 rfl (lv_at hl 2 rfl) ?_
    refine lv_bipush (v := 15) hx hb dX6_hears_12 (by decide) ?_
    refine g_rd (g_runS (As := [.int v, .int 15]) (rest := []) ky_yX6_isWithin lk_RX6_51 C (c_yX6_isWithin l v 15) ⟨rfl, rfl, by decide, by decide⟩ rfl hl.1 rfl (Nat.le_of_ble_eq_true rfl) ⟨Nat.zero_le _, Nat.zero_le _⟩ dX6_hears_14) ?_
    refine lv_if_ne (tgt := 27) hx hb dX6_hears_17 (by decide) (fun c2 => ?_) (fun c2 => ?_)
    · refine lv_aload_n hx hb dX6_hears_27 rfl (lv_at hl 0 rfl) ?_
      refine lv_iconst (v := 0) hx hb dX6_hears_28 (by decide) ?_
      refine lv_iload_n hx hb dX6_hears_29 rfl (lv_at hl 1 rfl) ?_
      refine lv_as (y := (nI (nN glove))) hg1 ?_
      refine lv_iload_n hx hb dX6_hears_30 rfl (lv_at hl 2 rfl) ?_
      refine g_wrI0 hS (g_runV (As := [.int 0, .int (nI (nN glove)), .int v]) (rest := []) ky_yX6_daysUntil lk_RX6_161 C hX (gS_b0 hI hS) hP 44 (c_yX6_daysUntil l G ad hI σ 0 (nN glove) v N hN hs (by omega)) (by decide) (shX_44 G ad _) ⟨rfl, rfl, by decide, by decide⟩ rfl hl.1 rfl (Nat.le_of_ble_eq_true rfl) ⟨Nat.zero_le _, Nat.zero_le _⟩ dX6_hears_31) (fun H locs hP hS => ?_)
      exact g_iretM C hr hlk rfl (by rw [x_hears, if_neg c1, if_neg c2]) hP hS dX6_hears_34
    · refine lv_aload_n hx hb dX6_hears_20 rfl (lv_at hl 0 rfl) ?_
      refine lv_ldc hx hb C.2.2.2.1 (C.2.2.2.2 _ kc_RX6_59) dX6_hears_21 ?_
      refine g_wrI0 hS (g_runV (As := [.int (-1000001)]) (rest := []) ky_yX6_finding lk_RX6_60 C hX (gS_b0 hI hS) hP 44 (c_yX6_finding l G ad hI σ (-1000001)) (by decide) (shX_44 G ad _) ⟨rfl, rfl, by decide, by decide⟩ rfl hl.1 rfl (Nat.le_of_ble_eq_true rfl) ⟨Nat.zero_le _, Nat.zero_le _⟩ dX6_hears_23) (fun H locs hP hS => ?_)
      exact g_iretM C hr hlk rfl (by rw [x_hears, if_neg c1, if_pos c2]) hP hS dX6_hears_26

def x_wise (σ : gM) (glove : Int32) (v : Int32) : Int32 × gM := if (x_has0 (mget σ 0) glove) = 0 then ((x_finding σ (-1000001)).1, (x_finding σ (-1000001)).2) else (if (x_isWithin v 16) = 0 then ((x_finding σ (-1000001)).1, (x_finding σ (-1000001)).2) else ((x_daysUntil σ 1 (nN glove) v).1, (x_daysUntil σ 1 (nN glove) v).2))
def rm_yX6_wise : Room := { frames := 6, cells := 0, slots := 0, locals := 131 }
set_option maxHeartbeats 4000000 in
set_option maxRecDepth 100000 in
theorem c_yX6_wise (l : Launch) (G : gG) (ad : Nat → Nat) (hI : gI G.2.2.1 55 ad) (σ : gM) (glove : Int32) (v : Int32) (N : Nat) (hN : N ≤ 8) (hs : σ 8 0 = nI N) : gMutI l yX6_wise cX6_wise 3 (some .int) rm_yX6_wise G [.ref (ad 44), .int glove, .int v] 55 ad (shX G ad) σ (x_wise σ glove v) := by
  refine g_start [.ref (ad 44), .int glove, .int v] (by decide +kernel) (Nat.le_of_ble_eq_true rfl) ?_
  intro p e s m below meth c ls B Z hl
  obtain ⟨C, hr, hlk⟩ := B
  have hx := C.1
  have hb := C.2.1
  obtain ⟨hX, hP⟩ := Z
  have hS : va_S (gA 55 ad) s.heap s.heap [] := va_S.rf
  revert hP hS
  intro hP hS
  have hl : lv_has ls 3 [(0, .ref (ad 44)), (1, .int glove), (2, .int v)] := hl
  refine lv_aload_n hx hb dX6_wise_0 rfl (lv_at hl 0 rfl) ?_
  refine g_get fd_RX6_12 C hX hP 44 (by decide) (shX_44 G ad _) (v := .ref (ad 8)) rfl dX6_wise_1 ?_
  refine lv_iload_n hx hb dX6_wise_4 rfl (lv_at hl 1 rfl) ?_
  refine g_rd (g_runV (As := [.int glove]) (rest := []) ky_yX0_has lk_RX6_88 C hX (gS_b0 hI hS) (hP.sub (sh1 := (shC G (fun q_ => ad (0 + q_)))) 0 12 (by omega) (shX_club G ad)) 8 (c_yX0_has l G (fun q_ => ad (0 + q_)) (hI.sub (m := 12) 0 (by omega)) (mget σ 0) glove) (by decide) (shC_8 G (fun q_ => ad (0 + q_)) _) ⟨rfl, rfl, by decide, by decide⟩ rfl hl.1 rfl (Nat.le_of_ble_eq_true rfl) ⟨Nat.zero_le _, Nat.zero_le _⟩ dX6_wise_5) ?_
  refine lv_if_eq (tgt := 20) hx hb dX6_wise_8 (by decide) (fun c1 => ?_) (fun c1 => ?_)
  · refine lv_aload_n hx hb dX6_wise_20 rfl (lv_at hl 0 rfl) ?_
    refine lv_ldc hx hb C.2.2.2.1 (C.2.2.2.2 _ kc_RX6_59) dX6_wise_21 ?_
    refine g_wrI0 hS (g_runV (As := [.int (-1000001)]) (rest := []) ky_yX6_finding lk_RX6_60 C hX (gS_b0 hI hS) hP 44 (c_yX6_finding l G ad hI σ (-1000001)) (by decide) (shX_44 G ad _) ⟨rfl, rfl, by decide, by decide⟩ rfl hl.1 rfl (Nat.le_of_ble_eq_true rfl) ⟨Nat.zero_le _, Nat.zero_le _⟩ dX6_wise_23) (fun H locs hP hS => ?_)
    exact g_iretM C hr hlk rfl (by rw [x_wise, if_pos c1]) hP hS dX6_wise_26
  · obtain ⟨hg1, hg2⟩ := has_of hN hs c1
    refine lv_iload_n hx hb dX6_wise_11 rfl (lv_at hl 2 rfl) ?_
    refine lv_bipush (v := 16) hx hb dX6_wise_12 (by decide) ?_
    refine g_rd (g_runS (As := [.int v, .int 16]) (rest := []) ky_yX6_isWithin lk_RX6_51 C (c_yX6_isWithin l v 16) ⟨rfl, rfl, by decide, by decide⟩ rfl hl.1 rfl (Nat.le_of_ble_eq_true rfl) ⟨Nat.zero_le _, Nat.zero_le _⟩ dX6_wise_14) ?_
    refine lv_if_ne (tgt := 27) hx hb dX6_wise_17 (by decide) (fun c2 => ?_) (fun c2 => ?_)
    · refine lv_aload_n hx hb dX6_wise_27 rfl (lv_at hl 0 rfl) ?_
      refine lv_iconst (v := 1) hx hb dX6_wise_28 (by decide) ?_
      refine lv_iload_n hx hb dX6_wise_29 rfl (lv_at hl 1 rfl) ?_
      refine lv_as (y := (nI (nN glove))) hg1 ?_
      refine lv_iload_n hx hb dX6_wise_30 rfl (lv_at hl 2 rfl) ?_
      refine g_wrI0 hS (g_runV (As := [.int 1, .int (nI (nN glove)), .int v]) (rest := []) ky_yX6_daysUntil lk_RX6_161 C hX (gS_b0 hI hS) hP 44 (c_yX6_daysUntil l G ad hI σ 1 (nN glove) v N hN hs (by omega)) (by decide) (shX_44 G ad _) ⟨rfl, rfl, by decide, by decide⟩ rfl hl.1 rfl (Nat.le_of_ble_eq_true rfl) ⟨Nat.zero_le _, Nat.zero_le _⟩ dX6_wise_31) (fun H locs hP hS => ?_)
      exact g_iretM C hr hlk rfl (by rw [x_wise, if_neg c1, if_neg c2]) hP hS dX6_wise_34
    · refine lv_aload_n hx hb dX6_wise_20 rfl (lv_at hl 0 rfl) ?_
      refine lv_ldc hx hb C.2.2.2.1 (C.2.2.2.2 _ kc_RX6_59) dX6_wise_21 ?_
      refine g_wrI0 hS (g_runV (As := [.int (-1000001)]) (rest := []) ky_yX6_finding lk_RX6_60 C hX (gS_b0 hI hS) hP 44 (c_yX6_finding l G ad hI σ (-1000001)) (by decide) (shX_44 G ad _) ⟨rfl, rfl, by decide, by decide⟩ rfl hl.1 rfl (Nat.le_of_ble_eq_true rfl) ⟨Nat.zero_le _, Nat.zero_le _⟩ dX6_wise_23) (fun H locs hP hS => ?_)
      exact g_iretM C hr hlk rfl (by rw [x_wise, if_neg c1, if_pos c2]) hP hS dX6_wise_26

def x_out (σ : gM) (topics : Int32) : Int32 × gM := if (x_isWithin topics 65535) = 0 then ((x_finding σ (-1000001)).1, (x_finding σ (-1000001)).2) else ((x_daysUntil σ 2 0 topics).1, (x_daysUntil σ 2 0 topics).2)
def rm_yX6_out : Room := { frames := 6, cells := 0, slots := 0, locals := 131 }
set_option maxHeartbeats 4000000 in
set_option maxRecDepth 100000 in
theorem c_yX6_out (l : Launch) (G : gG) (ad : Nat → Nat) (hI : gI G.2.2.1 55 ad) (σ : gM) (topics : Int32) (N : Nat) (hN : N ≤ 8) (hs : σ 8 0 = nI N) : gMutI l yX6_out cX6_out 2 (some .int) rm_yX6_out G [.ref (ad 44), .int topics] 55 ad (shX G ad) σ (x_out σ topics) := by
  refine g_start [.ref (ad 44), .int topics] (by decide +kernel) (Nat.le_of_ble_eq_true rfl) ?_
  intro p e s m below meth c ls B Z hl
  obtain ⟨C, hr, hlk⟩ := B
  have hx := C.1
  have hb := C.2.1
  obtain ⟨hX, hP⟩ := Z
  have hS : va_S (gA 55 ad) s.heap s.heap [] := va_S.rf
  revert hP hS
  intro hP hS
  have hl : lv_has ls 2 [(0, .ref (ad 44)), (1, .int topics)] := hl
  refine lv_iload_n hx hb dX6_out_0 rfl (lv_at hl 1 rfl) ?_
  refine lv_ldc hx hb C.2.2.2.1 (C.2.2.2.2 _ kc_RX6_138) dX6_out_1 ?_
  refine g_rd (g_runS (As := [.int topics, .int 65535]) (rest := []) ky_yX6_isWithin lk_RX6_51 C (c_yX6_isWithin l topics 65535) ⟨rfl, rfl, by decide, by decide⟩ rfl hl.1 rfl (Nat.le_of_ble_eq_true rfl) ⟨Nat.zero_le _, Nat.zero_le _⟩ dX6_out_3) ?_
  refine lv_if_ne (tgt := 16) hx hb dX6_out_6 (by decide) (fun c1 => ?_) (fun c1 => ?_)
  · refine lv_aload_n hx hb dX6_out_16 rfl (lv_at hl 0 rfl) ?_
    refine lv_iconst (v := 2) hx hb dX6_out_17 (by decide) ?_
    refine lv_iconst (v := 0) hx hb dX6_out_18 (by decide) ?_
    refine lv_iload_n hx hb dX6_out_19 rfl (lv_at hl 1 rfl) ?_
    refine g_wrI0 hS (g_runV (As := [.int 2, .int 0, .int topics]) (rest := []) ky_yX6_daysUntil lk_RX6_161 C hX (gS_b0 hI hS) hP 44 (c_yX6_daysUntil l G ad hI σ 2 0 topics N hN hs (by decide)) (by decide) (shX_44 G ad _) ⟨rfl, rfl, by decide, by decide⟩ rfl hl.1 rfl (Nat.le_of_ble_eq_true rfl) ⟨Nat.zero_le _, Nat.zero_le _⟩ dX6_out_20) (fun H locs hP hS => ?_)
    exact g_iretM C hr hlk rfl (by rw [x_out, if_neg c1]) hP hS dX6_out_23
  · refine lv_aload_n hx hb dX6_out_9 rfl (lv_at hl 0 rfl) ?_
    refine lv_ldc hx hb C.2.2.2.1 (C.2.2.2.2 _ kc_RX6_59) dX6_out_10 ?_
    refine g_wrI0 hS (g_runV (As := [.int (-1000001)]) (rest := []) ky_yX6_finding lk_RX6_60 C hX (gS_b0 hI hS) hP 44 (c_yX6_finding l G ad hI σ (-1000001)) (by decide) (shX_44 G ad _) ⟨rfl, rfl, by decide, by decide⟩ rfl hl.1 rfl (Nat.le_of_ble_eq_true rfl) ⟨Nat.zero_le _, Nat.zero_le _⟩ dX6_out_12) (fun H locs hP hS => ?_)
    exact g_iretM C hr hlk rfl (by rw [x_out, if_pos c1]) hP hS dX6_out_15

def x_tryOut_m1 (σ : gM) (g : Nat) (trait : Int32) (v : Int32) (σ1 : gM) : gM := (mput σ1 (24 + g) 1 (x_setTrait1 (mget σ1 (24 + g)) trait v))
def x_tryOut (σ : gM) (g : Nat) (trait : Int32) (v : Int32) : gM := (x_tryOut_m1 σ g trait v (bec σ 24 0))
def rm_yX6_tryOut : Room := { frames := 2, cells := 0, slots := 0, locals := 102 }
set_option maxHeartbeats 4000000 in
set_option maxRecDepth 100000 in
theorem c_yX6_tryOut (l : Launch) (G : gG) (ad : Nat → Nat) (hI : gI G.2.2.1 55 ad) (σ : gM) (g : Nat) (trait : Int32) (v : Int32) (N : Nat) (hN : N ≤ 8) (hs : σ 8 0 = nI N) (hg : g < 8) : gMutV l yX6_tryOut cX6_tryOut 4 none rm_yX6_tryOut G [.ref (ad 44), .int (nI g), .int trait, .int v] 55 ad (shX G ad) σ (x_tryOut σ g trait v) := by
  refine g_start [.ref (ad 44), .int (nI g), .int trait, .int v] (by decide +kernel) (Nat.le_of_ble_eq_true rfl) ?_
  intro p e s m below meth c ls B Z hl
  obtain ⟨C, hr, hlk⟩ := B
  have hx := C.1
  have hb := C.2.1
  obtain ⟨hX, hP⟩ := Z
  have hS : va_S (gA 55 ad) s.heap s.heap [] := va_S.rf
  revert hP hS
  intro hP hS
  have hl : lv_has ls 4 [(0, .ref (ad 44)), (1, .int (nI g)), (2, .int trait), (3, .int v)] := hl
  refine lv_aload_n hx hb dX6_tryOut_0 rfl (lv_at hl 0 rfl) ?_
  refine g_get fd_RX6_19 C hX hP 44 (by decide) (shX_44 G ad _) (v := .ref (ad 32)) rfl dX6_tryOut_1 ?_
  refine lv_aload_n hx hb dX6_tryOut_4 rfl (lv_at hl 0 rfl) ?_
  refine g_get fd_RX6_12 C hX hP 44 (by decide) (shX_44 G ad _) (v := .ref (ad 8)) rfl dX6_tryOut_5 ?_
  refine g_wrVq (ι := (pkD 24 0)) (κ := (kpD 24 0)) (m1 := 24) (pkD_m (a := 24) (b := 0) (by decide) (by decide) (by decide)) (pkD_X G ad (a := 24) (b := 0) (by decide) (by decide)) hI hP hS (g_runV (As := [.ref (ad 8)]) (rest := []) ky_yX0_become lk_RX6_157 C hX (gS_b0 hI hS) (hP.pickE (sh1 := (shD G (fun q_ => ad ((pkD 24 0) q_)))) (pkD 24 0) 24 (fun i_ hi_ => ((pkD_m (a := 24) (b := 0) (by decide) (by decide) (by decide)) i_ hi_).1) (pkD_X G ad (a := 24) (b := 0) (by decide) (by decide))) 8 (c_yX0_become l G (fun q_ => ad ((pkD 24 0) q_)) (pk_I hI (pkD_m (a := 24) (b := 0) (by decide) (by decide) (by decide))) (mpick σ (pkD 24 0))  N hN hs) (by decide) (shD_8 G (fun q_ => ad ((pkD 24 0) q_)) _) ⟨rfl, rfl, by decide, by decide⟩ rfl hl.1 rfl (Nat.le_of_ble_eq_true rfl) ⟨Nat.zero_le _, Nat.zero_le _⟩ dX6_tryOut_8) (fun H locs hP hS => ?_)
  have hP : gP G.1 55 ad (gE (shX G ad) (bec σ 24 0)) H := hP
  obtain ⟨σ1, eσ1⟩ : ∃ τ_ : gM, τ_ = (bec σ 24 0) := ⟨_, rfl⟩
  rw [← eσ1] at hP
  have hsT : σ1 32 0 = nI N := by rw [eσ1]; exact (bec_8 (a := 24) (b := 0) hN hs (j := 0) (by decide)).trans hs
  have hsC : σ1 8 0 = nI N := by rw [eσ1, bec_out (a := 24) (b := 0) (k := 8) hN hs (by decide)]; exact hs
  refine lv_aload_n hx hb dX6_tryOut_11 rfl (lv_at hl 0 rfl) ?_
  refine g_get fd_RX6_19 C hX hP 44 (by decide) (shX_44 G ad _) (v := .ref (ad 32)) rfl dX6_tryOut_12 ?_
  refine g_get fd_RX6_96 C hX hP 32 (by decide) (shX_32 G ad _) (v := .ref (ad 35)) rfl dX6_tryOut_15 ?_
  refine lv_iload_n hx hb dX6_tryOut_18 rfl (lv_at hl 1 rfl) ?_
  refine g_aald (t0 := 2) C hX hP 35 (by decide) (shX_35 G ad _) rfl g (by omega) (by decide) rfl dX6_tryOut_19 ?_
  refine lv_iload_n hx hb dX6_tryOut_20 rfl (lv_at hl 2 rfl) ?_
  refine lv_iload_n hx hb dX6_tryOut_21 rfl (lv_at hl 3 rfl) ?_
  refine g_wrV (o := (24 + g)) (m1 := 1) (by omega) (shX_tg G ad (by omega)) hI hP hS (g_runV (As := [.int trait, .int v]) (rest := []) ky_yX1_setTrait lk_RX6_106 C hX (gS_b0 hI hS) (hP.sub (sh1 := shG) (24 + g) 1 (by omega) (shX_tg G ad (by omega))) 0 (c_yX1_setTrait l G (fun q_ => ad ((24 + g) + q_)) (hI.sub (m := 1) (24 + g) (by omega)) (mget σ1 (24 + g)) trait v) (by decide) (shG_g _) ⟨rfl, rfl, by decide, by decide⟩ rfl hl.1 rfl (Nat.le_of_ble_eq_true rfl) ⟨Nat.zero_le _, Nat.zero_le _⟩ dX6_tryOut_22) (fun H locs hP hS => ?_)
  exact g_vretM C hr hlk (by rw [x_tryOut, ← eσ1, x_tryOut_m1]) hP hS dX6_tryOut_25

theorem to_out {σ : gM} {N g k : Nat} (hN : N ≤ 8) (hs : σ 8 0 = nI N) (hg : g < 8) (hk : k < 24 ∨ 36 ≤ k) (t v : Int32) : (x_tryOut σ g t v) k = σ k := by
  unfold x_tryOut x_tryOut_m1
  rw [mput_out _ _ (by omega)]
  exact bec_out (b := 0) hN hs (by omega)
theorem to_8 {σ : gM} {N g : Nat} (hN : N ≤ 8) (hs : σ 8 0 = nI N) (hg : g < 8) (t v : Int32) : (x_tryOut σ g t v) 8 0 = nI N := by
  rw [to_out hN hs hg (Or.inl (by decide))]
  exact hs
theorem to_32 {σ : gM} {N g : Nat} (hN : N ≤ 8) (hs : σ 8 0 = nI N) (hg : g < 8) (t v : Int32) : (x_tryOut σ g t v) 32 0 = nI N := by
  unfold x_tryOut x_tryOut_m1
  rw [mput_out _ _ (by omega)]
  exact (bec_8 (a := 24) (b := 0) hN hs (j := 0) (by decide)).trans hs

def x_bestFor_L9 (σ : gM) (g : Nat) (trait : Int32) (most : Nat) (k : Nat) : Nat → Nat → Int32 → Int32 → gM → Int32 × gM
  | 0, i, best, top, τ => (best, τ)
  | n9 + 1, i, best, top, τ => if (x_topicsInHand0 (mget (mput (x_tryOut τ g trait (nI i)) 24 12 (x_passDays0 (mget (x_tryOut τ g trait (nI i)) 24) k 0)) 24) g) ≤ top then (x_bestFor_L9 σ g trait most k n9 (i + 1) best top ((mput (x_tryOut τ g trait (nI i)) 24 12 (x_passDays0 (mget (x_tryOut τ g trait (nI i)) 24) k 0)))) else (x_bestFor_L9 σ g trait most k n9 (i + 1) (nI i) ((x_topicsInHand0 (mget (mput (x_tryOut τ g trait (nI i)) 24 12 (x_passDays0 (mget (x_tryOut τ g trait (nI i)) 24) k 0)) 24) g)) ((mput (x_tryOut τ g trait (nI i)) 24 12 (x_passDays0 (mget (x_tryOut τ g trait (nI i)) 24) k 0))))
def x_bestFor (σ : gM) (g : Nat) (trait : Int32) (most : Nat) (k : Nat) : Int32 × gM := (x_bestFor_L9 σ g trait most k (most + 1) 0 0 (-1) σ)
def rm_yX6_bestFor : Room := { frames := 5, cells := 0, slots := 0, locals := 125 }
set_option maxHeartbeats 4000000 in
set_option maxRecDepth 100000 in
theorem c_yX6_bestFor (l : Launch) (G : gG) (ad : Nat → Nat) (hI : gI G.2.2.1 55 ad) (σ : gM) (g : Nat) (trait : Int32) (most : Nat) (k : Nat) (N : Nat) (hN : N ≤ 8) (hs : σ 8 0 = nI N) (hg : g < 8) (hm : most < 100) (hk : k < 1000) : gMutI l yX6_bestFor cX6_bestFor 9 (some .int) rm_yX6_bestFor G [.ref (ad 44), .int (nI g), .int trait, .int (nI most), .int (nI k)] 55 ad (shX G ad) σ (x_bestFor σ g trait most k) := by
  refine g_start [.ref (ad 44), .int (nI g), .int trait, .int (nI most), .int (nI k)] (by decide +kernel) (Nat.le_of_ble_eq_true rfl) ?_
  intro p e s m below meth c ls B Z hl
  obtain ⟨C, hr, hlk⟩ := B
  have hx := C.1
  have hb := C.2.1
  obtain ⟨hX, hP⟩ := Z
  have hS : va_S (gA 55 ad) s.heap s.heap [] := va_S.rf
  revert hP hS
  intro hP hS
  have hl : lv_has ls 9 [(0, .ref (ad 44)), (1, .int (nI g)), (2, .int trait), (3, .int (nI most)), (4, .int (nI k))] := hl
  refine lv_iconst (v := 0) hx hb dX6_bestFor_0 (by decide) ?_
  refine lv_istore (lv' := [(5, .int 0), (0, .ref (ad 44)), (1, .int (nI g)), (2, .int trait), (3, .int (nI most)), (4, .int (nI k))]) hx hb dX6_bestFor_1 hl (by decide) rfl (fun ls hl => ?_)
  refine lv_iconst (v := (-1)) hx hb dX6_bestFor_3 (by decide) ?_
  refine lv_istore (lv' := [(6, .int (-1)), (5, .int 0), (0, .ref (ad 44)), (1, .int (nI g)), (2, .int trait), (3, .int (nI most)), (4, .int (nI k))]) hx hb dX6_bestFor_4 hl (by decide) rfl (fun ls hl => ?_)
  refine lv_iconst (v := 0) hx hb dX6_bestFor_6 (by decide) ?_
  refine lv_istore (lv' := [(7, .int 0), (6, .int (-1)), (5, .int 0), (0, .ref (ad 44)), (1, .int (nI g)), (2, .int trait), (3, .int (nI most)), (4, .int (nI k))]) hx hb dX6_bestFor_7 hl (by decide) rfl (fun ls hl => ?_)
  suffices loop9 : ∀ (n9 : Nat) (i : Nat) (best : Int32) (top : Int32) (τ : gM) (H : Heap) (locs : List Loc) (ls : Array Slot), (i + n9 = most + 1) → (τ 8 0 = nI N) → x_bestFor σ g trait most k = (x_bestFor_L9 σ g trait most k n9 i best top τ) → gP G.1 55 ad (gE (shX G ad) τ) H → va_S (gA 55 ad) s.heap H locs → lv_has ls 9 [(7, .int (nI i)), (6, .int top), (5, .int best), (0, .ref (ad 44)), (1, .int (nI g)), (2, .int trait), (3, .int (nI most)), (4, .int (nI k))] → W p l e rm_yX6_bestFor s m ([.ref (ad 44), .int (nI g), .int trait, .int (nI most), .int (nI k)] : List Value).toArray below meth c H locs 0 0 (MQ below (va_Qi (fun (x : Int32) (τ : gM) => x_bestFor σ g trait most k = (x, τ)) (fun τ t => gP G.1 55 ad (gE (shX G ad) τ) t.heap) (gA 55 ad)) ([.ref (ad 44), .int (nI g), .int trait, .int (nI most), .int (nI k)] : List Value).toArray s 0 0 (gA 55 ad)) (F0 m 9 ls []) by
    exact loop9 (most + 1) 0 0 (-1) σ _ _ _ (by omega) hs (by rw [x_bestFor]) hP hS (lv_sub hl [0, 1, 2, 3, 4, 5, 6, 7] rfl)
  intro n9
  induction n9 with
  | zero =>
    intro i best top τ H locs ls hi9 hC hres9 hP hS hl
    refine lv_iload hx hb dX6_bestFor_9 (lv_at hl 0 rfl) ?_
    refine lv_iload_n hx hb dX6_bestFor_11 rfl (lv_at hl 6 rfl) ?_
    refine lv_icmp_gt (tgt := 64) hx hb dX6_bestFor_12 (by decide) (fun c1 => ?_) (fun c1 => ?_)
    · refine lv_iload hx hb dX6_bestFor_64 (lv_at hl 2 rfl) ?_
      exact g_iretM C hr hlk rfl (by rw [hres9, x_bestFor_L9]) hP hS dX6_bestFor_66
    · exact absurd (show nI most < nI i from nI_lt (by omega) (by omega)) c1
  | succ n9 ih9 =>
    intro i best top τ H locs ls hi9 hC hres9 hP hS hl
    refine lv_iload hx hb dX6_bestFor_9 (lv_at hl 0 rfl) ?_
    refine lv_iload_n hx hb dX6_bestFor_11 rfl (lv_at hl 6 rfl) ?_
    refine lv_icmp_gt (tgt := 64) hx hb dX6_bestFor_12 (by decide) (fun c2 => ?_) (fun c2 => ?_)
    · exact absurd (show nI most < nI i from c2) (nI_nlt (by omega) (by omega))
    · refine lv_aload_n hx hb dX6_bestFor_15 rfl (lv_at hl 3 rfl) ?_
      refine lv_iload_n hx hb dX6_bestFor_16 rfl (lv_at hl 4 rfl) ?_
      refine lv_iload_n hx hb dX6_bestFor_17 rfl (lv_at hl 5 rfl) ?_
      refine lv_iload hx hb dX6_bestFor_18 (lv_at hl 0 rfl) ?_
      refine g_wrV0 hS (g_runV (As := [.int (nI g), .int trait, .int (nI i)]) (rest := []) ky_yX6_tryOut lk_RX6_187 C hX (gS_b0 hI hS) hP 44 (c_yX6_tryOut l G ad hI τ g trait (nI i) N hN hC hg) (by decide) (shX_44 G ad _) ⟨rfl, rfl, by decide, by decide⟩ rfl hl.1 rfl (Nat.le_of_ble_eq_true rfl) ⟨Nat.zero_le _, Nat.zero_le _⟩ dX6_bestFor_20) (fun H locs hP hS => ?_)
      refine lv_aload_n hx hb dX6_bestFor_23 rfl (lv_at hl 3 rfl) ?_
      refine g_get fd_RX6_19 C hX hP 44 (by decide) (shX_44 G ad _) (v := .ref (ad 32)) rfl dX6_bestFor_24 ?_
      refine lv_iload hx hb dX6_bestFor_27 (lv_at hl 7 rfl) ?_
      refine lv_iconst (v := 0) hx hb dX6_bestFor_29 (by decide) ?_
      refine g_wrV (o := 24) (m1 := 12) (by omega) (shX_trial G ad) hI hP hS (g_runV (As := [.int (nI k), .int 0]) (rest := []) ky_yX0_passDays lk_RX6_129 C hX (gS_b0 hI hS) (hP.sub (sh1 := (shC G (fun q_ => ad (24 + q_)))) 24 12 (by omega) (shX_trial G ad)) 8 (c_yX0_passDays l G (fun q_ => ad (24 + q_)) (hI.sub (m := 12) 24 (by omega)) (mget (x_tryOut τ g trait (nI i)) 24) k 0 N hN (by exact to_32 hN hC hg _ _) hk) (by decide) (shC_8 G (fun q_ => ad (24 + q_)) _) ⟨rfl, rfl, by decide, by decide⟩ rfl hl.1 rfl (Nat.le_of_ble_eq_true rfl) ⟨Nat.zero_le _, Nat.zero_le _⟩ dX6_bestFor_30) (fun H locs hP hS => ?_)
      refine lv_aload_n hx hb dX6_bestFor_33 rfl (lv_at hl 3 rfl) ?_
      refine g_get fd_RX6_19 C hX hP 44 (by decide) (shX_44 G ad _) (v := .ref (ad 32)) rfl dX6_bestFor_34 ?_
      refine lv_iload_n hx hb dX6_bestFor_37 rfl (lv_at hl 4 rfl) ?_
      refine g_rd (g_runV (As := [.int (nI g)]) (rest := []) ky_yX0_topicsInHand lk_RX6_180 C hX (gS_b0 hI hS) (hP.sub (sh1 := (shC G (fun q_ => ad (24 + q_)))) 24 12 (by omega) (shX_trial G ad)) 8 (c_yX0_topicsInHand l G (fun q_ => ad (24 + q_)) (hI.sub (m := 12) 24 (by omega)) (mget (mput (x_tryOut τ g trait (nI i)) 24 12 (x_passDays0 (mget (x_tryOut τ g trait (nI i)) 24) k 0)) 24) g hg) (by decide) (shC_8 G (fun q_ => ad (24 + q_)) _) ⟨rfl, rfl, by decide, by decide⟩ rfl hl.1 rfl (Nat.le_of_ble_eq_true rfl) ⟨Nat.zero_le _, Nat.zero_le _⟩ dX6_bestFor_38) ?_
      refine lv_istore (lv' := [(8, .int (x_topicsInHand0 (mget (mput (x_tryOut τ g trait (nI i)) 24 12 (x_passDays0 (mget (x_tryOut τ g trait (nI i)) 24) k 0)) 24) g)), (7, .int (nI i)), (6, .int top), (5, .int best), (0, .ref (ad 44)), (1, .int (nI g)), (2, .int trait), (3, .int (nI most)), (4, .int (nI k))]) hx hb dX6_bestFor_41 hl (by decide) rfl (fun ls hl => ?_)
      refine lv_iload hx hb dX6_bestFor_43 (lv_at hl 0 rfl) ?_
      refine lv_iload hx hb dX6_bestFor_45 (lv_at hl 2 rfl) ?_
      refine lv_icmp_le (tgt := 58) hx hb dX6_bestFor_47 (by decide) (fun c3 => ?_) (fun c3 => ?_)
      · refine lv_iinc (v := (nI (i + 1))) (lv' := [(7, .int (nI (i + 1))), (8, .int (x_topicsInHand0 (mget (mput (x_tryOut τ g trait (nI i)) 24 12 (x_passDays0 (mget (x_tryOut τ g trait (nI i)) 24) k 0)) 24) g)), (6, .int top), (5, .int best), (0, .ref (ad 44)), (1, .int (nI g)), (2, .int trait), (3, .int (nI most)), (4, .int (nI k))]) hx hb dX6_bestFor_58 hl (k := 1) rfl (by exact nI_1 _) (by decide) rfl (fun ls hl => ?_)
        refine lv_goto (tgt := 9) hx hb dX6_bestFor_61 (by decide) ?_
        exact ih9 (i + 1) best top ((mput (x_tryOut τ g trait (nI i)) 24 12 (x_passDays0 (mget (x_tryOut τ g trait (nI i)) 24) k 0))) _ _ _ (by omega) (by rw [mput_out _ _ (by decide)]; exact to_8 hN hC hg _ _) (by rw [hres9, x_bestFor_L9, if_pos c3]) hP hS (lv_sub hl [0, 2, 3, 4, 5, 6, 7, 8] rfl)
      · refine lv_iload hx hb dX6_bestFor_50 (lv_at hl 1 rfl) ?_
        refine lv_istore (lv' := [(5, .int (nI i)), (8, .int (x_topicsInHand0 (mget (mput (x_tryOut τ g trait (nI i)) 24 12 (x_passDays0 (mget (x_tryOut τ g trait (nI i)) 24) k 0)) 24) g)), (7, .int (nI i)), (6, .int top), (0, .ref (ad 44)), (1, .int (nI g)), (2, .int trait), (3, .int (nI most)), (4, .int (nI k))]) hx hb dX6_bestFor_52 hl (by decide) rfl (fun ls hl => ?_)
        refine lv_iload hx hb dX6_bestFor_54 (lv_at hl 1 rfl) ?_
        refine lv_istore (lv' := [(6, .int (x_topicsInHand0 (mget (mput (x_tryOut τ g trait (nI i)) 24 12 (x_passDays0 (mget (x_tryOut τ g trait (nI i)) 24) k 0)) 24) g)), (5, .int (nI i)), (8, .int (x_topicsInHand0 (mget (mput (x_tryOut τ g trait (nI i)) 24 12 (x_passDays0 (mget (x_tryOut τ g trait (nI i)) 24) k 0)) 24) g)), (7, .int (nI i)), (0, .ref (ad 44)), (1, .int (nI g)), (2, .int trait), (3, .int (nI most)), (4, .int (nI k))]) hx hb dX6_bestFor_56 hl (by decide) rfl (fun ls hl => ?_)
        refine lv_iinc (v := (nI (i + 1))) (lv' := [(7, .int (nI (i + 1))), (6, .int (x_topicsInHand0 (mget (mput (x_tryOut τ g trait (nI i)) 24 12 (x_passDays0 (mget (x_tryOut τ g trait (nI i)) 24) k 0)) 24) g)), (5, .int (nI i)), (8, .int (x_topicsInHand0 (mget (mput (x_tryOut τ g trait (nI i)) 24 12 (x_passDays0 (mget (x_tryOut τ g trait (nI i)) 24) k 0)) 24) g)), (0, .ref (ad 44)), (1, .int (nI g)), (2, .int trait), (3, .int (nI most)), (4, .int (nI k))]) hx hb dX6_bestFor_58 hl (k := 3) rfl (by exact nI_1 _) (by decide) rfl (fun ls hl => ?_)
        refine lv_goto (tgt := 9) hx hb dX6_bestFor_61 (by decide) ?_
        exact ih9 (i + 1) (nI i) ((x_topicsInHand0 (mget (mput (x_tryOut τ g trait (nI i)) 24 12 (x_passDays0 (mget (x_tryOut τ g trait (nI i)) 24) k 0)) 24) g)) ((mput (x_tryOut τ g trait (nI i)) 24 12 (x_passDays0 (mget (x_tryOut τ g trait (nI i)) 24) k 0))) _ _ _ (by omega) (by rw [mput_out _ _ (by decide)]; exact to_8 hN hC hg _ _) (by rw [hres9, x_bestFor_L9, if_neg c3]) hP hS (lv_sub hl [0, 1, 2, 4, 5, 6, 7, 8] rfl)

def x_leave (σ : gM) (glove : Int32) (k : Int32) : Int32 × gM := if (x_has0 (mget σ 0) glove) = 0 then ((x_finding σ (-1000001)).1, (x_finding σ (-1000001)).2) else (if (x_isWithin k 60) = 0 then ((x_finding σ (-1000001)).1, (x_finding σ (-1000001)).2) else ((x_bestFor σ (nN glove) 1 5 (nN k)).1, (x_bestFor σ (nN glove) 1 5 (nN k)).2))
def rm_yX6_leave : Room := { frames := 6, cells := 0, slots := 0, locals := 153 }
set_option maxHeartbeats 4000000 in
set_option maxRecDepth 100000 in
theorem c_yX6_leave (l : Launch) (G : gG) (ad : Nat → Nat) (hI : gI G.2.2.1 55 ad) (σ : gM) (glove : Int32) (k : Int32) (N : Nat) (hN : N ≤ 8) (hs : σ 8 0 = nI N) : gMutI l yX6_leave cX6_leave 3 (some .int) rm_yX6_leave G [.ref (ad 44), .int glove, .int k] 55 ad (shX G ad) σ (x_leave σ glove k) := by
  refine g_start [.ref (ad 44), .int glove, .int k] (by decide +kernel) (Nat.le_of_ble_eq_true rfl) ?_
  intro p e s m below meth c ls B Z hl
  obtain ⟨C, hr, hlk⟩ := B
  have hx := C.1
  have hb := C.2.1
  obtain ⟨hX, hP⟩ := Z
  have hS : va_S (gA 55 ad) s.heap s.heap [] := va_S.rf
  revert hP hS
  intro hP hS
  have hl : lv_has ls 3 [(0, .ref (ad 44)), (1, .int glove), (2, .int k)] := hl
  refine lv_aload_n hx hb dX6_leave_0 rfl (lv_at hl 0 rfl) ?_
  refine g_get fd_RX6_12 C hX hP 44 (by decide) (shX_44 G ad _) (v := .ref (ad 8)) rfl dX6_leave_1 ?_
  refine lv_iload_n hx hb dX6_leave_4 rfl (lv_at hl 1 rfl) ?_
  refine g_rd (g_runV (As := [.int glove]) (rest := []) ky_yX0_has lk_RX6_88 C hX (gS_b0 hI hS) (hP.sub (sh1 := (shC G (fun q_ => ad (0 + q_)))) 0 12 (by omega) (shX_club G ad)) 8 (c_yX0_has l G (fun q_ => ad (0 + q_)) (hI.sub (m := 12) 0 (by omega)) (mget σ 0) glove) (by decide) (shC_8 G (fun q_ => ad (0 + q_)) _) ⟨rfl, rfl, by decide, by decide⟩ rfl hl.1 rfl (Nat.le_of_ble_eq_true rfl) ⟨Nat.zero_le _, Nat.zero_le _⟩ dX6_leave_5) ?_
  refine lv_if_eq (tgt := 20) hx hb dX6_leave_8 (by decide) (fun c1 => ?_) (fun c1 => ?_)
  · refine lv_aload_n hx hb dX6_leave_20 rfl (lv_at hl 0 rfl) ?_
    refine lv_ldc hx hb C.2.2.2.1 (C.2.2.2.2 _ kc_RX6_59) dX6_leave_21 ?_
    refine g_wrI0 hS (g_runV (As := [.int (-1000001)]) (rest := []) ky_yX6_finding lk_RX6_60 C hX (gS_b0 hI hS) hP 44 (c_yX6_finding l G ad hI σ (-1000001)) (by decide) (shX_44 G ad _) ⟨rfl, rfl, by decide, by decide⟩ rfl hl.1 rfl (Nat.le_of_ble_eq_true rfl) ⟨Nat.zero_le _, Nat.zero_le _⟩ dX6_leave_23) (fun H locs hP hS => ?_)
    exact g_iretM C hr hlk rfl (by rw [x_leave, if_pos c1]) hP hS dX6_leave_26
  · obtain ⟨hg1, hg2⟩ := has_of hN hs c1
    refine lv_iload_n hx hb dX6_leave_11 rfl (lv_at hl 2 rfl) ?_
    refine lv_bipush (v := 60) hx hb dX6_leave_12 (by decide) ?_
    refine g_rd (g_runS (As := [.int k, .int 60]) (rest := []) ky_yX6_isWithin lk_RX6_51 C (c_yX6_isWithin l k 60) ⟨rfl, rfl, by decide, by decide⟩ rfl hl.1 rfl (Nat.le_of_ble_eq_true rfl) ⟨Nat.zero_le _, Nat.zero_le _⟩ dX6_leave_14) ?_
    refine lv_if_ne (tgt := 27) hx hb dX6_leave_17 (by decide) (fun c2 => ?_) (fun c2 => ?_)
    · obtain ⟨hk1, hk2⟩ := isW_of (M := 60) (by decide) c2
      refine lv_aload_n hx hb dX6_leave_27 rfl (lv_at hl 0 rfl) ?_
      refine lv_iload_n hx hb dX6_leave_28 rfl (lv_at hl 1 rfl) ?_
      refine lv_as (y := (nI (nN glove))) hg1 ?_
      refine lv_iconst (v := 1) hx hb dX6_leave_29 (by decide) ?_
      refine lv_iconst (v := 5) hx hb dX6_leave_30 (by decide) ?_
      refine lv_iload_n hx hb dX6_leave_31 rfl (lv_at hl 2 rfl) ?_
      refine lv_as (y := (nI (nN k))) hk1 ?_
      refine g_wrI0 hS (g_runV (As := [.int (nI (nN glove)), .int 1, .int 5, .int (nI (nN k))]) (rest := []) ky_yX6_bestFor lk_RX6_183 C hX (gS_b0 hI hS) hP 44 (c_yX6_bestFor l G ad hI σ (nN glove) 1 5 (nN k) N hN hs (by omega) (by decide) (by omega)) (by decide) (shX_44 G ad _) ⟨rfl, rfl, by decide, by decide⟩ rfl hl.1 rfl (Nat.le_of_ble_eq_true rfl) ⟨Nat.zero_le _, Nat.zero_le _⟩ dX6_leave_32) (fun H locs hP hS => ?_)
      exact g_iretM C hr hlk rfl (by rw [x_leave, if_neg c1, if_neg c2]) hP hS dX6_leave_35
    · refine lv_aload_n hx hb dX6_leave_20 rfl (lv_at hl 0 rfl) ?_
      refine lv_ldc hx hb C.2.2.2.1 (C.2.2.2.2 _ kc_RX6_59) dX6_leave_21 ?_
      refine g_wrI0 hS (g_runV (As := [.int (-1000001)]) (rest := []) ky_yX6_finding lk_RX6_60 C hX (gS_b0 hI hS) hP 44 (c_yX6_finding l G ad hI σ (-1000001)) (by decide) (shX_44 G ad _) ⟨rfl, rfl, by decide, by decide⟩ rfl hl.1 rfl (Nat.le_of_ble_eq_true rfl) ⟨Nat.zero_le _, Nat.zero_le _⟩ dX6_leave_23) (fun H locs hP hS => ?_)
      exact g_iretM C hr hlk rfl (by rw [x_leave, if_neg c1, if_pos c2]) hP hS dX6_leave_26

def x_kindFor (σ : gM) (glove : Int32) (k : Int32) : Int32 × gM := if (x_has0 (mget σ 0) glove) = 0 then ((x_finding σ (-1000001)).1, (x_finding σ (-1000001)).2) else (if (x_isWithin k 60) = 0 then ((x_finding σ (-1000001)).1, (x_finding σ (-1000001)).2) else ((x_bestFor σ (nN glove) 0 6 (nN k)).1, (x_bestFor σ (nN glove) 0 6 (nN k)).2))
def rm_yX6_kindFor : Room := { frames := 6, cells := 0, slots := 0, locals := 153 }
set_option maxHeartbeats 4000000 in
set_option maxRecDepth 100000 in
theorem c_yX6_kindFor (l : Launch) (G : gG) (ad : Nat → Nat) (hI : gI G.2.2.1 55 ad) (σ : gM) (glove : Int32) (k : Int32) (N : Nat) (hN : N ≤ 8) (hs : σ 8 0 = nI N) : gMutI l yX6_kindFor cX6_kindFor 3 (some .int) rm_yX6_kindFor G [.ref (ad 44), .int glove, .int k] 55 ad (shX G ad) σ (x_kindFor σ glove k) := by
  refine g_start [.ref (ad 44), .int glove, .int k] (by decide +kernel) (Nat.le_of_ble_eq_true rfl) ?_
  intro p e s m below meth c ls B Z hl
  obtain ⟨C, hr, hlk⟩ := B
  have hx := C.1
  have hb := C.2.1
  obtain ⟨hX, hP⟩ := Z
  have hS : va_S (gA 55 ad) s.heap s.heap [] := va_S.rf
  revert hP hS
  intro hP hS
  have hl : lv_has ls 3 [(0, .ref (ad 44)), (1, .int glove), (2, .int k)] := hl
  refine lv_aload_n hx hb dX6_kindFor_0 rfl (lv_at hl 0 rfl) ?_
  refine g_get fd_RX6_12 C hX hP 44 (by decide) (shX_44 G ad _) (v := .ref (ad 8)) rfl dX6_kindFor_1 ?_
  refine lv_iload_n hx hb dX6_kindFor_4 rfl (lv_at hl 1 rfl) ?_
  refine g_rd (g_runV (As := [.int glove]) (rest := []) ky_yX0_has lk_RX6_88 C hX (gS_b0 hI hS) (hP.sub (sh1 := (shC G (fun q_ => ad (0 + q_)))) 0 12 (by omega) (shX_club G ad)) 8 (c_yX0_has l G (fun q_ => ad (0 + q_)) (hI.sub (m := 12) 0 (by omega)) (mget σ 0) glove) (by decide) (shC_8 G (fun q_ => ad (0 + q_)) _) ⟨rfl, rfl, by decide, by decide⟩ rfl hl.1 rfl (Nat.le_of_ble_eq_true rfl) ⟨Nat.zero_le _, Nat.zero_le _⟩ dX6_kindFor_5) ?_
  refine lv_if_eq (tgt := 20) hx hb dX6_kindFor_8 (by decide) (fun c1 => ?_) (fun c1 => ?_)
  · refine lv_aload_n hx hb dX6_kindFor_20 rfl (lv_at hl 0 rfl) ?_
    refine lv_ldc hx hb C.2.2.2.1 (C.2.2.2.2 _ kc_RX6_59) dX6_kindFor_21 ?_
    refine g_wrI0 hS (g_runV (As := [.int (-1000001)]) (rest := []) ky_yX6_finding lk_RX6_60 C hX (gS_b0 hI hS) hP 44 (c_yX6_finding l G ad hI σ (-1000001)) (by decide) (shX_44 G ad _) ⟨rfl, rfl, by decide, by decide⟩ rfl hl.1 rfl (Nat.le_of_ble_eq_true rfl) ⟨Nat.zero_le _, Nat.zero_le _⟩ dX6_kindFor_23) (fun H locs hP hS => ?_)
    exact g_iretM C hr hlk rfl (by rw [x_kindFor, if_pos c1]) hP hS dX6_kindFor_26
  · obtain ⟨hg1, hg2⟩ := has_of hN hs c1
    refine lv_iload_n hx hb dX6_kindFor_11 rfl (lv_at hl 2 rfl) ?_
    refine lv_bipush (v := 60) hx hb dX6_kindFor_12 (by decide) ?_
    refine g_rd (g_runS (As := [.int k, .int 60]) (rest := []) ky_yX6_isWithin lk_RX6_51 C (c_yX6_isWithin l k 60) ⟨rfl, rfl, by decide, by decide⟩ rfl hl.1 rfl (Nat.le_of_ble_eq_true rfl) ⟨Nat.zero_le _, Nat.zero_le _⟩ dX6_kindFor_14) ?_
    refine lv_if_ne (tgt := 27) hx hb dX6_kindFor_17 (by decide) (fun c2 => ?_) (fun c2 => ?_)
    · obtain ⟨hk1, hk2⟩ := isW_of (M := 60) (by decide) c2
      refine lv_aload_n hx hb dX6_kindFor_27 rfl (lv_at hl 0 rfl) ?_
      refine lv_iload_n hx hb dX6_kindFor_28 rfl (lv_at hl 1 rfl) ?_
      refine lv_as (y := (nI (nN glove))) hg1 ?_
      refine lv_iconst (v := 0) hx hb dX6_kindFor_29 (by decide) ?_
      refine lv_bipush (v := 6) hx hb dX6_kindFor_30 (by decide) ?_
      refine lv_iload_n hx hb dX6_kindFor_32 rfl (lv_at hl 2 rfl) ?_
      refine lv_as (y := (nI (nN k))) hk1 ?_
      refine g_wrI0 hS (g_runV (As := [.int (nI (nN glove)), .int 0, .int 6, .int (nI (nN k))]) (rest := []) ky_yX6_bestFor lk_RX6_183 C hX (gS_b0 hI hS) hP 44 (c_yX6_bestFor l G ad hI σ (nN glove) 0 6 (nN k) N hN hs (by omega) (by decide) (by omega)) (by decide) (shX_44 G ad _) ⟨rfl, rfl, by decide, by decide⟩ rfl hl.1 rfl (Nat.le_of_ble_eq_true rfl) ⟨Nat.zero_le _, Nat.zero_le _⟩ dX6_kindFor_33) (fun H locs hP hS => ?_)
      exact g_iretM C hr hlk rfl (by rw [x_kindFor, if_neg c1, if_neg c2]) hP hS dX6_kindFor_36
    · refine lv_aload_n hx hb dX6_kindFor_20 rfl (lv_at hl 0 rfl) ?_
      refine lv_ldc hx hb C.2.2.2.1 (C.2.2.2.2 _ kc_RX6_59) dX6_kindFor_21 ?_
      refine g_wrI0 hS (g_runV (As := [.int (-1000001)]) (rest := []) ky_yX6_finding lk_RX6_60 C hX (gS_b0 hI hS) hP 44 (c_yX6_finding l G ad hI σ (-1000001)) (by decide) (shX_44 G ad _) ⟨rfl, rfl, by decide, by decide⟩ rfl hl.1 rfl (Nat.le_of_ble_eq_true rfl) ⟨Nat.zero_le _, Nat.zero_le _⟩ dX6_kindFor_23) (fun H locs hP hS => ?_)
      exact g_iretM C hr hlk rfl (by rw [x_kindFor, if_neg c1, if_pos c2]) hP hS dX6_kindFor_26

def x_openFor_L39 (σ : gM) (glove : Int32) (v : Int32) (k : Int32) : Nat → Nat → gM → Int32 × gM
  | 0, i, τ => ((x_finding τ (-1000004)).1, (x_finding τ (-1000004)).2)
  | n39 + 1, i, τ => if (x_topicsInHand0 (mget (mput (x_tryOut τ (nN glove) 2 (nI i)) 24 12 (x_passDays0 (mget (x_tryOut τ (nN glove) 2 (nI i)) 24) (nN k) 0)) 24) (nN glove)) < v then (x_openFor_L39 σ glove v k n39 (i + 1) ((mput (x_tryOut τ (nN glove) 2 (nI i)) 24 12 (x_passDays0 (mget (x_tryOut τ (nN glove) 2 (nI i)) 24) (nN k) 0)))) else ((nI i), (mput (x_tryOut τ (nN glove) 2 (nI i)) 24 12 (x_passDays0 (mget (x_tryOut τ (nN glove) 2 (nI i)) 24) (nN k) 0)))
def x_openFor (σ : gM) (glove : Int32) (v : Int32) (k : Int32) : Int32 × gM := if (x_has0 (mget σ 0) glove) = 0 then ((x_finding σ (-1000001)).1, (x_finding σ (-1000001)).2) else (if (x_isWithin v 16) = 0 then ((x_finding σ (-1000001)).1, (x_finding σ (-1000001)).2) else (if (x_isWithin k 60) = 0 then ((x_finding σ (-1000001)).1, (x_finding σ (-1000001)).2) else (x_openFor_L39 σ glove v k (9 + 1) 0 σ)))
def rm_yX6_openFor : Room := { frames := 5, cells := 0, slots := 0, locals := 125 }
set_option maxHeartbeats 4000000 in
set_option maxRecDepth 100000 in
theorem c_yX6_openFor (l : Launch) (G : gG) (ad : Nat → Nat) (hI : gI G.2.2.1 55 ad) (σ : gM) (glove : Int32) (v : Int32) (k : Int32) (N : Nat) (hN : N ≤ 8) (hs : σ 8 0 = nI N) : gMutI l yX6_openFor cX6_openFor 5 (some .int) rm_yX6_openFor G [.ref (ad 44), .int glove, .int v, .int k] 55 ad (shX G ad) σ (x_openFor σ glove v k) := by
  refine g_start [.ref (ad 44), .int glove, .int v, .int k] (by decide +kernel) (Nat.le_of_ble_eq_true rfl) ?_
  intro p e s m below meth c ls B Z hl
  obtain ⟨C, hr, hlk⟩ := B
  have hx := C.1
  have hb := C.2.1
  obtain ⟨hX, hP⟩ := Z
  have hS : va_S (gA 55 ad) s.heap s.heap [] := va_S.rf
  revert hP hS
  intro hP hS
  have hl : lv_has ls 5 [(0, .ref (ad 44)), (1, .int glove), (2, .int v), (3, .int k)] := hl
  refine lv_aload_n hx hb dX6_openFor_0 rfl (lv_at hl 0 rfl) ?_
  refine g_get fd_RX6_12 C hX hP 44 (by decide) (shX_44 G ad _) (v := .ref (ad 8)) rfl dX6_openFor_1 ?_
  refine lv_iload_n hx hb dX6_openFor_4 rfl (lv_at hl 1 rfl) ?_
  refine g_rd (g_runV (As := [.int glove]) (rest := []) ky_yX0_has lk_RX6_88 C hX (gS_b0 hI hS) (hP.sub (sh1 := (shC G (fun q_ => ad (0 + q_)))) 0 12 (by omega) (shX_club G ad)) 8 (c_yX0_has l G (fun q_ => ad (0 + q_)) (hI.sub (m := 12) 0 (by omega)) (mget σ 0) glove) (by decide) (shC_8 G (fun q_ => ad (0 + q_)) _) ⟨rfl, rfl, by decide, by decide⟩ rfl hl.1 rfl (Nat.le_of_ble_eq_true rfl) ⟨Nat.zero_le _, Nat.zero_le _⟩ dX6_openFor_5) ?_
  refine lv_if_eq (tgt := 29) hx hb dX6_openFor_8 (by decide) (fun c1 => ?_) (fun c1 => ?_)
  · refine lv_aload_n hx hb dX6_openFor_29 rfl (lv_at hl 0 rfl) ?_
    refine lv_ldc hx hb C.2.2.2.1 (C.2.2.2.2 _ kc_RX6_59) dX6_openFor_30 ?_
    refine g_wrI0 hS (g_runV (As := [.int (-1000001)]) (rest := []) ky_yX6_finding lk_RX6_60 C hX (gS_b0 hI hS) hP 44 (c_yX6_finding l G ad hI σ (-1000001)) (by decide) (shX_44 G ad _) ⟨rfl, rfl, by decide, by decide⟩ rfl hl.1 rfl (Nat.le_of_ble_eq_true rfl) ⟨Nat.zero_le _, Nat.zero_le _⟩ dX6_openFor_32) (fun H locs hP hS => ?_)
    exact g_iretM C hr hlk rfl (by rw [x_openFor, if_pos c1]) hP hS dX6_openFor_35
  · obtain ⟨hg1, hg2⟩ := has_of hN hs c1
    refine lv_iload_n hx hb dX6_openFor_11 rfl (lv_at hl 2 rfl) ?_
    refine lv_bipush (v := 16) hx hb dX6_openFor_12 (by decide) ?_
    refine g_rd (g_runS (As := [.int v, .int 16]) (rest := []) ky_yX6_isWithin lk_RX6_51 C (c_yX6_isWithin l v 16) ⟨rfl, rfl, by decide, by decide⟩ rfl hl.1 rfl (Nat.le_of_ble_eq_true rfl) ⟨Nat.zero_le _, Nat.zero_le _⟩ dX6_openFor_14) ?_
    refine lv_if_eq (tgt := 29) hx hb dX6_openFor_17 (by decide) (fun c2 => ?_) (fun c2 => ?_)
    · refine lv_aload_n hx hb dX6_openFor_29 rfl (lv_at hl 0 rfl) ?_
      refine lv_ldc hx hb C.2.2.2.1 (C.2.2.2.2 _ kc_RX6_59) dX6_openFor_30 ?_
      refine g_wrI0 hS (g_runV (As := [.int (-1000001)]) (rest := []) ky_yX6_finding lk_RX6_60 C hX (gS_b0 hI hS) hP 44 (c_yX6_finding l G ad hI σ (-1000001)) (by decide) (shX_44 G ad _) ⟨rfl, rfl, by decide, by decide⟩ rfl hl.1 rfl (Nat.le_of_ble_eq_true rfl) ⟨Nat.zero_le _, Nat.zero_le _⟩ dX6_openFor_32) (fun H locs hP hS => ?_)
      exact g_iretM C hr hlk rfl (by rw [x_openFor, if_neg c1, if_pos c2]) hP hS dX6_openFor_35
    · refine lv_iload_n hx hb dX6_openFor_20 rfl (lv_at hl 3 rfl) ?_
      refine lv_bipush (v := 60) hx hb dX6_openFor_21 (by decide) ?_
      refine g_rd (g_runS (As := [.int k, .int 60]) (rest := []) ky_yX6_isWithin lk_RX6_51 C (c_yX6_isWithin l k 60) ⟨rfl, rfl, by decide, by decide⟩ rfl hl.1 rfl (Nat.le_of_ble_eq_true rfl) ⟨Nat.zero_le _, Nat.zero_le _⟩ dX6_openFor_23) ?_
      refine lv_if_ne (tgt := 36) hx hb dX6_openFor_26 (by decide) (fun c3 => ?_) (fun c3 => ?_)
      · obtain ⟨hk1, hk2⟩ := isW_of (M := 60) (by decide) c3
        refine lv_iconst (v := 0) hx hb dX6_openFor_36 (by decide) ?_
        refine lv_istore (lv' := [(4, .int 0), (0, .ref (ad 44)), (1, .int glove), (2, .int v), (3, .int k)]) hx hb dX6_openFor_37 hl (by decide) rfl (fun ls hl => ?_)
        suffices loop39 : ∀ (n39 : Nat) (i : Nat) (τ : gM) (H : Heap) (locs : List Loc) (ls : Array Slot), (i + n39 = 9 + 1) → (τ 8 0 = nI N) → x_openFor σ glove v k = (x_openFor_L39 σ glove v k n39 i τ) → gP G.1 55 ad (gE (shX G ad) τ) H → va_S (gA 55 ad) s.heap H locs → lv_has ls 5 [(4, .int (nI i)), (0, .ref (ad 44)), (1, .int glove), (2, .int v), (3, .int k)] → W p l e rm_yX6_openFor s m ([.ref (ad 44), .int glove, .int v, .int k] : List Value).toArray below meth c H locs 0 0 (MQ below (va_Qi (fun (x : Int32) (τ : gM) => x_openFor σ glove v k = (x, τ)) (fun τ t => gP G.1 55 ad (gE (shX G ad) τ) t.heap) (gA 55 ad)) ([.ref (ad 44), .int glove, .int v, .int k] : List Value).toArray s 0 0 (gA 55 ad)) (F0 m 39 ls []) by
          exact loop39 (9 + 1) 0 σ _ _ _ (by omega) hs (by rw [x_openFor, if_neg c1, if_neg c2, if_neg c3]) hP hS (lv_sub hl [0, 1, 2, 3, 4] rfl)
        intro n39
        induction n39 with
        | zero =>
          intro i τ H locs ls hi39 hC hres39 hP hS hl
          refine lv_iload hx hb dX6_openFor_39 (lv_at hl 0 rfl) ?_
          refine lv_bipush (v := 9) hx hb dX6_openFor_41 (by decide) ?_
          refine lv_icmp_gt (tgt := 84) hx hb dX6_openFor_43 (by decide) (fun c4 => ?_) (fun c4 => ?_)
          · refine lv_aload_n hx hb dX6_openFor_84 rfl (lv_at hl 1 rfl) ?_
            refine lv_ldc hx hb C.2.2.2.1 (C.2.2.2.2 _ kc_RX6_173) dX6_openFor_85 ?_
            refine g_wrI0 hS (g_runV (As := [.int (-1000004)]) (rest := []) ky_yX6_finding lk_RX6_60 C hX (gS_b0 hI hS) hP 44 (c_yX6_finding l G ad hI τ (-1000004)) (by decide) (shX_44 G ad _) ⟨rfl, rfl, by decide, by decide⟩ rfl hl.1 rfl (Nat.le_of_ble_eq_true rfl) ⟨Nat.zero_le _, Nat.zero_le _⟩ dX6_openFor_87) (fun H locs hP hS => ?_)
            exact g_iretM C hr hlk rfl (by rw [hres39, x_openFor_L39]) hP hS dX6_openFor_90
          · exact absurd (show nI 9 < nI i from nI_lt (by omega) (by omega)) c4
        | succ n39 ih39 =>
          intro i τ H locs ls hi39 hC hres39 hP hS hl
          refine lv_iload hx hb dX6_openFor_39 (lv_at hl 0 rfl) ?_
          refine lv_bipush (v := 9) hx hb dX6_openFor_41 (by decide) ?_
          refine lv_icmp_gt (tgt := 84) hx hb dX6_openFor_43 (by decide) (fun c5 => ?_) (fun c5 => ?_)
          · exact absurd (show nI 9 < nI i from c5) (nI_nlt (by omega) (by omega))
          · refine lv_aload_n hx hb dX6_openFor_46 rfl (lv_at hl 1 rfl) ?_
            refine lv_iload_n hx hb dX6_openFor_47 rfl (lv_at hl 2 rfl) ?_
            refine lv_as (y := (nI (nN glove))) hg1 ?_
            refine lv_iconst (v := 2) hx hb dX6_openFor_48 (by decide) ?_
            refine lv_iload hx hb dX6_openFor_49 (lv_at hl 0 rfl) ?_
            refine g_wrV0 hS (g_runV (As := [.int (nI (nN glove)), .int 2, .int (nI i)]) (rest := []) ky_yX6_tryOut lk_RX6_187 C hX (gS_b0 hI hS) hP 44 (c_yX6_tryOut l G ad hI τ (nN glove) 2 (nI i) N hN hC (by omega)) (by decide) (shX_44 G ad _) ⟨rfl, rfl, by decide, by decide⟩ rfl hl.1 rfl (Nat.le_of_ble_eq_true rfl) ⟨Nat.zero_le _, Nat.zero_le _⟩ dX6_openFor_51) (fun H locs hP hS => ?_)
            refine lv_aload_n hx hb dX6_openFor_54 rfl (lv_at hl 1 rfl) ?_
            refine g_get fd_RX6_19 C hX hP 44 (by decide) (shX_44 G ad _) (v := .ref (ad 32)) rfl dX6_openFor_55 ?_
            refine lv_iload_n hx hb dX6_openFor_58 rfl (lv_at hl 4 rfl) ?_
            refine lv_as (y := (nI (nN k))) hk1 ?_
            refine lv_iconst (v := 0) hx hb dX6_openFor_59 (by decide) ?_
            refine g_wrV (o := 24) (m1 := 12) (by omega) (shX_trial G ad) hI hP hS (g_runV (As := [.int (nI (nN k)), .int 0]) (rest := []) ky_yX0_passDays lk_RX6_129 C hX (gS_b0 hI hS) (hP.sub (sh1 := (shC G (fun q_ => ad (24 + q_)))) 24 12 (by omega) (shX_trial G ad)) 8 (c_yX0_passDays l G (fun q_ => ad (24 + q_)) (hI.sub (m := 12) 24 (by omega)) (mget (x_tryOut τ (nN glove) 2 (nI i)) 24) (nN k) 0 N hN (by exact to_32 hN hC (by omega) _ _) (by omega)) (by decide) (shC_8 G (fun q_ => ad (24 + q_)) _) ⟨rfl, rfl, by decide, by decide⟩ rfl hl.1 rfl (Nat.le_of_ble_eq_true rfl) ⟨Nat.zero_le _, Nat.zero_le _⟩ dX6_openFor_60) (fun H locs hP hS => ?_)
            refine lv_aload_n hx hb dX6_openFor_63 rfl (lv_at hl 1 rfl) ?_
            refine g_get fd_RX6_19 C hX hP 44 (by decide) (shX_44 G ad _) (v := .ref (ad 32)) rfl dX6_openFor_64 ?_
            refine lv_iload_n hx hb dX6_openFor_67 rfl (lv_at hl 2 rfl) ?_
            refine lv_as (y := (nI (nN glove))) hg1 ?_
            refine g_rd (g_runV (As := [.int (nI (nN glove))]) (rest := []) ky_yX0_topicsInHand lk_RX6_180 C hX (gS_b0 hI hS) (hP.sub (sh1 := (shC G (fun q_ => ad (24 + q_)))) 24 12 (by omega) (shX_trial G ad)) 8 (c_yX0_topicsInHand l G (fun q_ => ad (24 + q_)) (hI.sub (m := 12) 24 (by omega)) (mget (mput (x_tryOut τ (nN glove) 2 (nI i)) 24 12 (x_passDays0 (mget (x_tryOut τ (nN glove) 2 (nI i)) 24) (nN k) 0)) 24) (nN glove) (by omega)) (by decide) (shC_8 G (fun q_ => ad (24 + q_)) _) ⟨rfl, rfl, by decide, by decide⟩ rfl hl.1 rfl (Nat.le_of_ble_eq_true rfl) ⟨Nat.zero_le _, Nat.zero_le _⟩ dX6_openFor_68) ?_
            refine lv_iload_n hx hb dX6_openFor_71 rfl (lv_at hl 3 rfl) ?_
            refine lv_icmp_lt (tgt := 78) hx hb dX6_openFor_72 (by decide) (fun c6 => ?_) (fun c6 => ?_)
            · refine lv_iinc (v := (nI (i + 1))) (lv' := [(4, .int (nI (i + 1))), (0, .ref (ad 44)), (1, .int glove), (2, .int v), (3, .int k)]) hx hb dX6_openFor_78 hl (k := 0) rfl (by exact nI_1 _) (by decide) rfl (fun ls hl => ?_)
              refine lv_goto (tgt := 39) hx hb dX6_openFor_81 (by decide) ?_
              exact ih39 (i + 1) ((mput (x_tryOut τ (nN glove) 2 (nI i)) 24 12 (x_passDays0 (mget (x_tryOut τ (nN glove) 2 (nI i)) 24) (nN k) 0))) _ _ _ (by omega) (by rw [mput_out _ _ (by decide)]; exact to_8 hN hC (by omega) _ _) (by rw [hres39, x_openFor_L39, if_pos c6]) hP hS (lv_sub hl [0, 1, 2, 3, 4] rfl)
            · refine lv_iload hx hb dX6_openFor_75 (lv_at hl 0 rfl) ?_
              exact g_iretM C hr hlk rfl (by rw [hres39, x_openFor_L39, if_neg c6]) hP hS dX6_openFor_77
      · refine lv_aload_n hx hb dX6_openFor_29 rfl (lv_at hl 0 rfl) ?_
        refine lv_ldc hx hb C.2.2.2.1 (C.2.2.2.2 _ kc_RX6_59) dX6_openFor_30 ?_
        refine g_wrI0 hS (g_runV (As := [.int (-1000001)]) (rest := []) ky_yX6_finding lk_RX6_60 C hX (gS_b0 hI hS) hP 44 (c_yX6_finding l G ad hI σ (-1000001)) (by decide) (shX_44 G ad _) ⟨rfl, rfl, by decide, by decide⟩ rfl hl.1 rfl (Nat.le_of_ble_eq_true rfl) ⟨Nat.zero_le _, Nat.zero_le _⟩ dX6_openFor_32) (fun H locs hP hS => ?_)
        exact g_iretM C hr hlk rfl (by rw [x_openFor, if_neg c1, if_neg c2, if_pos c3]) hP hS dX6_openFor_35

def x_lower_L41 (σ : gM) (pl : Int32) : Nat → Int32 → Int32 × gM
  | 0, loud => ((x_finding σ (-1000004)).1, (x_finding σ (-1000004)).2)
  | n41 + 1, loud => if (x_hearersOf0 (mget σ 0) (((σ 9 (nN pl)) - (x_loudOf (σ 9 (nN pl)))) + loud) 0) = 0 then (loud, σ) else (x_lower_L41 σ pl n41 (loud + (-1)))
def x_lower (σ : gM) (pl : Int32) : Int32 × gM := if (x_isWithin pl 5) = 0 then ((x_finding σ (-1000001)).1, (x_finding σ (-1000001)).2) else (x_lower_L41 σ pl 10 9)
def rm_yX6_lower : Room := { frames := 3, cells := 0, slots := 0, locals := 72 }
set_option maxHeartbeats 4000000 in
set_option maxRecDepth 100000 in
theorem c_yX6_lower (l : Launch) (G : gG) (ad : Nat → Nat) (hI : gI G.2.2.1 55 ad) (σ : gM) (pl : Int32) (N : Nat) (hN : N ≤ 8) (hs : σ 8 0 = nI N) : gMutI l yX6_lower cX6_lower 4 (some .int) rm_yX6_lower G [.ref (ad 44), .int pl] 55 ad (shX G ad) σ (x_lower σ pl) := by
  refine g_start [.ref (ad 44), .int pl] (by decide +kernel) (Nat.le_of_ble_eq_true rfl) ?_
  intro p e s m below meth c ls B Z hl
  obtain ⟨C, hr, hlk⟩ := B
  have hx := C.1
  have hb := C.2.1
  obtain ⟨hX, hP⟩ := Z
  have hS : va_S (gA 55 ad) s.heap s.heap [] := va_S.rf
  revert hP hS
  intro hP hS
  have hl : lv_has ls 4 [(0, .ref (ad 44)), (1, .int pl)] := hl
  refine lv_iload_n hx hb dX6_lower_0 rfl (lv_at hl 1 rfl) ?_
  refine lv_iconst (v := 5) hx hb dX6_lower_1 (by decide) ?_
  refine g_rd (g_runS (As := [.int pl, .int 5]) (rest := []) ky_yX6_isWithin lk_RX6_51 C (c_yX6_isWithin l pl 5) ⟨rfl, rfl, by decide, by decide⟩ rfl hl.1 rfl (Nat.le_of_ble_eq_true rfl) ⟨Nat.zero_le _, Nat.zero_le _⟩ dX6_lower_2) ?_
  refine lv_if_ne (tgt := 15) hx hb dX6_lower_5 (by decide) (fun c1 => ?_) (fun c1 => ?_)
  · obtain ⟨hp1, hp2⟩ := isW_of (M := 5) (by decide) c1
    refine lv_aload_n hx hb dX6_lower_15 rfl (lv_at hl 0 rfl) ?_
    refine g_get fd_RX6_12 C hX hP 44 (by decide) (shX_44 G ad _) (v := .ref (ad 8)) rfl dX6_lower_16 ?_
    refine g_get fd_RX6_64 C hX hP 8 (by decide) (shX_8 G ad _) (v := .ref (ad 9)) rfl dX6_lower_19 ?_
    refine lv_iload_n hx hb dX6_lower_22 rfl (lv_at hl 1 rfl) ?_
    refine lv_as (y := (nI (nN pl))) hp1 ?_
    refine g_iald C hX hP 9 (by decide) (shX_9 G ad _) (nN pl) (by omega) (by decide) dX6_lower_23 ?_
    refine lv_aload_n hx hb dX6_lower_24 rfl (lv_at hl 0 rfl) ?_
    refine g_get fd_RX6_12 C hX hP 44 (by decide) (shX_44 G ad _) (v := .ref (ad 8)) rfl dX6_lower_25 ?_
    refine g_get fd_RX6_64 C hX hP 8 (by decide) (shX_8 G ad _) (v := .ref (ad 9)) rfl dX6_lower_28 ?_
    refine lv_iload_n hx hb dX6_lower_31 rfl (lv_at hl 1 rfl) ?_
    refine lv_as (y := (nI (nN pl))) hp1 ?_
    refine g_iald C hX hP 9 (by decide) (shX_9 G ad _) (nN pl) (by omega) (by decide) dX6_lower_32 ?_
    refine g_rd (g_runS (As := [.int (σ 9 (nN pl))]) (rest := [.int (σ 9 (nN pl))]) ky_yX6_loudOf lk_RX6_191 C (c_yX6_loudOf l (σ 9 (nN pl))) ⟨rfl, rfl, by decide, by decide⟩ rfl hl.1 rfl (Nat.le_of_ble_eq_true rfl) ⟨Nat.zero_le _, Nat.zero_le _⟩ dX6_lower_33) ?_
    refine lv_isub hx hb dX6_lower_36 ?_
    refine lv_istore_n (lv' := [(2, .int ((σ 9 (nN pl)) - (x_loudOf (σ 9 (nN pl))))), (0, .ref (ad 44)), (1, .int pl)]) hx hb dX6_lower_37 rfl hl (by decide) rfl (fun ls hl => ?_)
    refine lv_bipush (v := 9) hx hb dX6_lower_38 (by decide) ?_
    refine lv_istore_n (lv' := [(3, .int 9), (2, .int ((σ 9 (nN pl)) - (x_loudOf (σ 9 (nN pl))))), (0, .ref (ad 44)), (1, .int pl)]) hx hb dX6_lower_40 rfl hl (by decide) rfl (fun ls hl => ?_)
    suffices loop41 : ∀ (n41 : Nat) (loud : Int32) (H : Heap) (locs : List Loc) (ls : Array Slot), (loud = nI n41 - 1) → (n41 ≤ 10) → x_lower σ pl = (x_lower_L41 σ pl n41 loud) → gP G.1 55 ad (gE (shX G ad) σ) H → va_S (gA 55 ad) s.heap H locs → lv_has ls 4 [(3, .int loud), (2, .int ((σ 9 (nN pl)) - (x_loudOf (σ 9 (nN pl))))), (0, .ref (ad 44)), (1, .int pl)] → W p l e rm_yX6_lower s m ([.ref (ad 44), .int pl] : List Value).toArray below meth c H locs 0 0 (MQ below (va_Qi (fun (x : Int32) (τ : gM) => x_lower σ pl = (x, τ)) (fun τ t => gP G.1 55 ad (gE (shX G ad) τ) t.heap) (gA 55 ad)) ([.ref (ad 44), .int pl] : List Value).toArray s 0 0 (gA 55 ad)) (F0 m 41 ls []) by
      exact loop41 10 9 _ _ _ (by decide) (by decide) (by rw [x_lower, if_neg c1]) hP hS (lv_sub hl [0, 1, 2, 3] rfl)
    intro n41
    induction n41 with
    | zero =>
      intro loud H locs ls hl41 hm41 hres41 hP hS hl
      refine lv_iload_n hx hb dX6_lower_41 rfl (lv_at hl 0 rfl) ?_
      refine lv_if_lt (tgt := 67) hx hb dX6_lower_42 (by decide) (fun c2 => ?_) (fun c2 => ?_)
      · refine lv_aload_n hx hb dX6_lower_67 rfl (lv_at hl 2 rfl) ?_
        refine lv_ldc hx hb C.2.2.2.1 (C.2.2.2.2 _ kc_RX6_173) dX6_lower_68 ?_
        refine g_wrI0 hS (g_runV (As := [.int (-1000004)]) (rest := []) ky_yX6_finding lk_RX6_60 C hX (gS_b0 hI hS) hP 44 (c_yX6_finding l G ad hI σ (-1000004)) (by decide) (shX_44 G ad _) ⟨rfl, rfl, by decide, by decide⟩ rfl hl.1 rfl (Nat.le_of_ble_eq_true rfl) ⟨Nat.zero_le _, Nat.zero_le _⟩ dX6_lower_70) (fun H locs hP hS => ?_)
        exact g_iretM C hr hlk rfl (by rw [hres41, x_lower_L41]) hP hS dX6_lower_73
      · exact absurd (show loud < 0 by rw [hl41]; decide) c2
    | succ n41 ih41 =>
      intro loud H locs ls hl41 hm41 hres41 hP hS hl
      refine lv_iload_n hx hb dX6_lower_41 rfl (lv_at hl 0 rfl) ?_
      refine lv_if_lt (tgt := 67) hx hb dX6_lower_42 (by decide) (fun c3 => ?_) (fun c3 => ?_)
      · exact absurd (show nI n41 < 0 by rw [← nI_pred, ← hl41]; exact c3) (nI_pos (by omega))
      · refine lv_aload_n hx hb dX6_lower_45 rfl (lv_at hl 2 rfl) ?_
        refine g_get fd_RX6_12 C hX hP 44 (by decide) (shX_44 G ad _) (v := .ref (ad 8)) rfl dX6_lower_46 ?_
        refine lv_iload_n hx hb dX6_lower_49 rfl (lv_at hl 1 rfl) ?_
        refine lv_iload_n hx hb dX6_lower_50 rfl (lv_at hl 0 rfl) ?_
        refine lv_iadd hx hb dX6_lower_51 ?_
        refine lv_iconst (v := 0) hx hb dX6_lower_52 (by decide) ?_
        refine g_rd (g_runV (As := [.int (((σ 9 (nN pl)) - (x_loudOf (σ 9 (nN pl)))) + loud), .int 0]) (rest := []) ky_yX0_hearersOf lk_RX6_151 C hX (gS_b0 hI hS) (hP.sub (sh1 := (shC G (fun q_ => ad (0 + q_)))) 0 12 (by omega) (shX_club G ad)) 8 (c_yX0_hearersOf l G (fun q_ => ad (0 + q_)) (hI.sub (m := 12) 0 (by omega)) (mget σ 0) (((σ 9 (nN pl)) - (x_loudOf (σ 9 (nN pl)))) + loud) 0 N hN hs) (by decide) (shC_8 G (fun q_ => ad (0 + q_)) _) ⟨rfl, rfl, by decide, by decide⟩ rfl hl.1 rfl (Nat.le_of_ble_eq_true rfl) ⟨Nat.zero_le _, Nat.zero_le _⟩ dX6_lower_53) ?_
        refine lv_if_ne (tgt := 61) hx hb dX6_lower_56 (by decide) (fun c4 => ?_) (fun c4 => ?_)
        · refine lv_iinc (v := (loud + (-1))) (lv' := [(3, .int (loud + (-1))), (2, .int ((σ 9 (nN pl)) - (x_loudOf (σ 9 (nN pl))))), (0, .ref (ad 44)), (1, .int pl)]) hx hb dX6_lower_61 hl (k := 0) rfl rfl (by decide) rfl (fun ls hl => ?_)
          refine lv_goto (tgt := 41) hx hb dX6_lower_64 (by decide) ?_
          exact ih41 (loud + (-1)) _ _ _ (by rw [hl41, nI_pred, Int32.sub_eq_add_neg]) (by omega) (by rw [hres41, x_lower_L41, if_neg c4]) hP hS (lv_sub hl [0, 1, 2, 3] rfl)
        · refine lv_iload_n hx hb dX6_lower_59 rfl (lv_at hl 0 rfl) ?_
          exact g_iretM C hr hlk rfl (by rw [hres41, x_lower_L41, if_pos c4]) hP hS dX6_lower_60
  · refine lv_aload_n hx hb dX6_lower_8 rfl (lv_at hl 0 rfl) ?_
    refine lv_ldc hx hb C.2.2.2.1 (C.2.2.2.2 _ kc_RX6_59) dX6_lower_9 ?_
    refine g_wrI0 hS (g_runV (As := [.int (-1000001)]) (rest := []) ky_yX6_finding lk_RX6_60 C hX (gS_b0 hI hS) hP 44 (c_yX6_finding l G ad hI σ (-1000001)) (by decide) (shX_44 G ad _) ⟨rfl, rfl, by decide, by decide⟩ rfl hl.1 rfl (Nat.le_of_ble_eq_true rfl) ⟨Nat.zero_le _, Nat.zero_le _⟩ dX6_lower_11) (fun H locs hP hS => ?_)
    exact g_iretM C hr hlk rfl (by rw [x_lower, if_pos c1]) hP hS dX6_lower_14

def x_cover_L20 (σ : gM) (topics : Int32) : Nat → Nat → Int32 → Int32 × gM
  | 0, i, best => if best = (-1) then ((x_finding σ (-1000004)).1, (x_finding σ (-1000004)).2) else (best, σ)
  | n20 + 1, i, best => if (x_isFewer (nI i) best) = 0 then (x_cover_L20 σ topics n20 (i + 1) best) else (if (topics &&& (((x_knownBy0 (mget σ 0) (nI i)) ||| (x_knownByHandsOf0 (mget σ 0) (nI i))) ^^^ (-1))) = 0 then (x_cover_L20 σ topics n20 (i + 1) (nI i)) else (x_cover_L20 σ topics n20 (i + 1) best))
def x_cover (σ : gM) (topics : Int32) : Int32 × gM := if (x_isWithin topics 65535) = 0 then ((x_finding σ (-1000001)).1, (x_finding σ (-1000001)).2) else (x_cover_L20 σ topics (2 ^ nN (σ 8 0)) 0 (-1))
def rm_yX6_cover : Room := { frames := 2, cells := 0, slots := 0, locals := 44 }
set_option maxHeartbeats 4000000 in
set_option maxRecDepth 100000 in
theorem c_yX6_cover (l : Launch) (G : gG) (ad : Nat → Nat) (hI : gI G.2.2.1 55 ad) (σ : gM) (topics : Int32) (N : Nat) (hN : N ≤ 8) (hs : σ 8 0 = nI N) : gMutI l yX6_cover cX6_cover 4 (some .int) rm_yX6_cover G [.ref (ad 44), .int topics] 55 ad (shX G ad) σ (x_cover σ topics) := by
  refine g_start [.ref (ad 44), .int topics] (by decide +kernel) (Nat.le_of_ble_eq_true rfl) ?_
  intro p e s m below meth c ls B Z hl
  obtain ⟨C, hr, hlk⟩ := B
  have hx := C.1
  have hb := C.2.1
  obtain ⟨hX, hP⟩ := Z
  have hS : va_S (gA 55 ad) s.heap s.heap [] := va_S.rf
  revert hP hS
  intro hP hS
  have hl : lv_has ls 4 [(0, .ref (ad 44)), (1, .int topics)] := hl
  obtain ⟨P, hP2⟩ : ∃ P, P = 2 ^ N := ⟨_, rfl⟩
  have hP3 : P ≤ 256 := by rw [hP2]; exact pow8 hN
  refine lv_iload_n hx hb dX6_cover_0 rfl (lv_at hl 1 rfl) ?_
  refine lv_ldc hx hb C.2.2.2.1 (C.2.2.2.2 _ kc_RX6_138) dX6_cover_1 ?_
  refine g_rd (g_runS (As := [.int topics, .int 65535]) (rest := []) ky_yX6_isWithin lk_RX6_51 C (c_yX6_isWithin l topics 65535) ⟨rfl, rfl, by decide, by decide⟩ rfl hl.1 rfl (Nat.le_of_ble_eq_true rfl) ⟨Nat.zero_le _, Nat.zero_le _⟩ dX6_cover_3) ?_
  refine lv_if_ne (tgt := 16) hx hb dX6_cover_6 (by decide) (fun c1 => ?_) (fun c1 => ?_)
  · refine lv_iconst (v := (-1)) hx hb dX6_cover_16 (by decide) ?_
    refine lv_istore_n (lv' := [(2, .int (-1)), (0, .ref (ad 44)), (1, .int topics)]) hx hb dX6_cover_17 rfl hl (by decide) rfl (fun ls hl => ?_)
    refine lv_iconst (v := 0) hx hb dX6_cover_18 (by decide) ?_
    refine lv_istore_n (lv' := [(3, .int 0), (2, .int (-1)), (0, .ref (ad 44)), (1, .int topics)]) hx hb dX6_cover_19 rfl hl (by decide) rfl (fun ls hl => ?_)
    suffices loop20 : ∀ (n20 : Nat) (i : Nat) (best : Int32) (H : Heap) (locs : List Loc) (ls : Array Slot), (i + n20 = P) → x_cover σ topics = (x_cover_L20 σ topics n20 i best) → gP G.1 55 ad (gE (shX G ad) σ) H → va_S (gA 55 ad) s.heap H locs → lv_has ls 4 [(3, .int (nI i)), (2, .int best), (0, .ref (ad 44)), (1, .int topics)] → W p l e rm_yX6_cover s m ([.ref (ad 44), .int topics] : List Value).toArray below meth c H locs 0 0 (MQ below (va_Qi (fun (x : Int32) (τ : gM) => x_cover σ topics = (x, τ)) (fun τ t => gP G.1 55 ad (gE (shX G ad) τ) t.heap) (gA 55 ad)) ([.ref (ad 44), .int topics] : List Value).toArray s 0 0 (gA 55 ad)) (F0 m 20 ls []) by
      exact loop20 P 0 (-1) _ _ _ (by omega) (by rw [x_cover, if_neg c1, hs, nN_nI (by omega), ← hP2]) hP hS (lv_sub hl [0, 1, 2, 3] rfl)
    intro n20
    induction n20 with
    | zero =>
      intro i best H locs ls hi20 hres20 hP hS hl
      refine lv_iload_n hx hb dX6_cover_20 rfl (lv_at hl 0 rfl) ?_
      refine lv_iconst (v := 1) hx hb dX6_cover_21 (by decide) ?_
      refine lv_aload_n hx hb dX6_cover_22 rfl (lv_at hl 2 rfl) ?_
      refine g_get fd_RX6_12 C hX hP 44 (by decide) (shX_44 G ad _) (v := .ref (ad 8)) rfl dX6_cover_23 ?_
      refine g_get fd_RX6_80 C hX hP 8 (by decide) (shX_8 G ad _) (v := .int (σ 8 0)) rfl dX6_cover_26 ?_
      refine g_ishl hx hb dX6_cover_29 ?_
      refine lv_as (y := (nI P)) (by rw [hs, shl1 hN, hP2]) ?_
      refine lv_icmp_ge (tgt := 73) hx hb dX6_cover_30 (by decide) (fun c2 => ?_) (fun c2 => ?_)
      · refine lv_iload_n hx hb dX6_cover_73 rfl (lv_at hl 1 rfl) ?_
        refine lv_iconst (v := (-1)) hx hb dX6_cover_74 (by decide) ?_
        refine lv_icmp_ne (tgt := 87) hx hb dX6_cover_75 (by decide) (fun c3 => ?_) (fun c3 => ?_)
        · refine lv_iload_n hx hb dX6_cover_87 rfl (lv_at hl 1 rfl) ?_
          exact g_iretM C hr hlk rfl (by rw [hres20, x_cover_L20, if_neg c3]) hP hS dX6_cover_88
        · refine lv_aload_n hx hb dX6_cover_78 rfl (lv_at hl 2 rfl) ?_
          refine lv_ldc hx hb C.2.2.2.1 (C.2.2.2.2 _ kc_RX6_173) dX6_cover_79 ?_
          refine g_wrI0 hS (g_runV (As := [.int (-1000004)]) (rest := []) ky_yX6_finding lk_RX6_60 C hX (gS_b0 hI hS) hP 44 (c_yX6_finding l G ad hI σ (-1000004)) (by decide) (shX_44 G ad _) ⟨rfl, rfl, by decide, by decide⟩ rfl hl.1 rfl (Nat.le_of_ble_eq_true rfl) ⟨Nat.zero_le _, Nat.zero_le _⟩ dX6_cover_81) (fun H locs hP hS => ?_)
          refine lv_goto (tgt := 88) hx hb dX6_cover_84 (by decide) ?_
          exact g_iretM C hr hlk rfl (by rw [hres20, x_cover_L20, if_pos c3]) hP hS dX6_cover_88
      · exact absurd (show nI (P) ≤ nI i from nI_le (by omega) (by omega)) c2
    | succ n20 ih20 =>
      intro i best H locs ls hi20 hres20 hP hS hl
      refine lv_iload_n hx hb dX6_cover_20 rfl (lv_at hl 0 rfl) ?_
      refine lv_iconst (v := 1) hx hb dX6_cover_21 (by decide) ?_
      refine lv_aload_n hx hb dX6_cover_22 rfl (lv_at hl 2 rfl) ?_
      refine g_get fd_RX6_12 C hX hP 44 (by decide) (shX_44 G ad _) (v := .ref (ad 8)) rfl dX6_cover_23 ?_
      refine g_get fd_RX6_80 C hX hP 8 (by decide) (shX_8 G ad _) (v := .int (σ 8 0)) rfl dX6_cover_26 ?_
      refine g_ishl hx hb dX6_cover_29 ?_
      refine lv_as (y := (nI P)) (by rw [hs, shl1 hN, hP2]) ?_
      refine lv_icmp_ge (tgt := 73) hx hb dX6_cover_30 (by decide) (fun c4 => ?_) (fun c4 => ?_)
      · exact absurd (show nI (P) ≤ nI i from c4) (nI_ge (by omega) (by omega))
      · refine lv_iload_n hx hb dX6_cover_33 rfl (lv_at hl 0 rfl) ?_
        refine lv_iload_n hx hb dX6_cover_34 rfl (lv_at hl 1 rfl) ?_
        refine g_rd (g_runS (As := [.int (nI i), .int best]) (rest := []) ky_yX6_isFewer lk_RX6_194 C (c_yX6_isFewer l (nI i) best) ⟨rfl, rfl, by decide, by decide⟩ rfl hl.1 rfl (Nat.le_of_ble_eq_true rfl) ⟨Nat.zero_le _, Nat.zero_le _⟩ dX6_cover_35) ?_
        refine lv_if_eq (tgt := 67) hx hb dX6_cover_38 (by decide) (fun c5 => ?_) (fun c5 => ?_)
        · refine lv_iinc (v := (nI (i + 1))) (lv' := [(3, .int (nI (i + 1))), (2, .int best), (0, .ref (ad 44)), (1, .int topics)]) hx hb dX6_cover_67 hl (k := 0) rfl (by exact nI_1 _) (by decide) rfl (fun ls hl => ?_)
          refine lv_goto (tgt := 20) hx hb dX6_cover_70 (by decide) ?_
          exact ih20 (i + 1) best _ _ _ (by omega) (by rw [hres20, x_cover_L20, if_pos c5]) hP hS (lv_sub hl [0, 1, 2, 3] rfl)
        · refine lv_iload_n hx hb dX6_cover_41 rfl (lv_at hl 3 rfl) ?_
          refine lv_aload_n hx hb dX6_cover_42 rfl (lv_at hl 2 rfl) ?_
          refine g_get fd_RX6_12 C hX hP 44 (by decide) (shX_44 G ad _) (v := .ref (ad 8)) rfl dX6_cover_43 ?_
          refine lv_iload_n hx hb dX6_cover_46 rfl (lv_at hl 0 rfl) ?_
          refine g_rd (g_runV (As := [.int (nI i)]) (rest := [.int topics]) ky_yX0_knownBy lk_RX6_74 C hX (gS_b0 hI hS) (hP.sub (sh1 := (shC G (fun q_ => ad (0 + q_)))) 0 12 (by omega) (shX_club G ad)) 8 (c_yX0_knownBy l G (fun q_ => ad (0 + q_)) (hI.sub (m := 12) 0 (by omega)) (mget σ 0) (nI i) N hN hs) (by decide) (shC_8 G (fun q_ => ad (0 + q_)) _) ⟨rfl, rfl, by decide, by decide⟩ rfl hl.1 rfl (Nat.le_of_ble_eq_true rfl) ⟨Nat.zero_le _, Nat.zero_le _⟩ dX6_cover_47) ?_
          refine lv_aload_n hx hb dX6_cover_50 rfl (lv_at hl 2 rfl) ?_
          refine g_get fd_RX6_12 C hX hP 44 (by decide) (shX_44 G ad _) (v := .ref (ad 8)) rfl dX6_cover_51 ?_
          refine lv_iload_n hx hb dX6_cover_54 rfl (lv_at hl 0 rfl) ?_
          refine g_rd (g_runV (As := [.int (nI i)]) (rest := [.int (x_knownBy0 (mget σ 0) (nI i)), .int topics]) ky_yX0_knownByHandsOf lk_RX6_197 C hX (gS_b0 hI hS) (hP.sub (sh1 := (shC G (fun q_ => ad (0 + q_)))) 0 12 (by omega) (shX_club G ad)) 8 (c_yX0_knownByHandsOf l G (fun q_ => ad (0 + q_)) (hI.sub (m := 12) 0 (by omega)) (mget σ 0) (nI i) N hN hs) (by decide) (shC_8 G (fun q_ => ad (0 + q_)) _) ⟨rfl, rfl, by decide, by decide⟩ rfl hl.1 rfl (Nat.le_of_ble_eq_true rfl) ⟨Nat.zero_le _, Nat.zero_le _⟩ dX6_cover_55) ?_
          refine lv_ior hx hb dX6_cover_58 ?_
          refine lv_iconst (v := (-1)) hx hb dX6_cover_59 (by decide) ?_
          refine lv_ixor hx hb dX6_cover_60 ?_
          refine lv_iand hx hb dX6_cover_61 ?_
          refine lv_if_ne (tgt := 67) hx hb dX6_cover_62 (by decide) (fun c6 => ?_) (fun c6 => ?_)
          · refine lv_iinc (v := (nI (i + 1))) (lv' := [(3, .int (nI (i + 1))), (2, .int best), (0, .ref (ad 44)), (1, .int topics)]) hx hb dX6_cover_67 hl (k := 0) rfl (by exact nI_1 _) (by decide) rfl (fun ls hl => ?_)
            refine lv_goto (tgt := 20) hx hb dX6_cover_70 (by decide) ?_
            exact ih20 (i + 1) best _ _ _ (by omega) (by rw [hres20, x_cover_L20, if_neg c5, if_neg c6]) hP hS (lv_sub hl [0, 1, 2, 3] rfl)
          · refine lv_iload_n hx hb dX6_cover_65 rfl (lv_at hl 0 rfl) ?_
            refine lv_istore_n (lv' := [(2, .int (nI i)), (3, .int (nI i)), (0, .ref (ad 44)), (1, .int topics)]) hx hb dX6_cover_66 rfl hl (by decide) rfl (fun ls hl => ?_)
            refine lv_iinc (v := (nI (i + 1))) (lv' := [(3, .int (nI (i + 1))), (2, .int (nI i)), (0, .ref (ad 44)), (1, .int topics)]) hx hb dX6_cover_67 hl (k := 1) rfl (by exact nI_1 _) (by decide) rfl (fun ls hl => ?_)
            refine lv_goto (tgt := 20) hx hb dX6_cover_70 (by decide) ?_
            exact ih20 (i + 1) (nI i) _ _ _ (by omega) (by rw [hres20, x_cover_L20, if_neg c5, if_pos c6]) hP hS (lv_sub hl [0, 1, 2, 3] rfl)
  · refine lv_aload_n hx hb dX6_cover_9 rfl (lv_at hl 0 rfl) ?_
    refine lv_ldc hx hb C.2.2.2.1 (C.2.2.2.2 _ kc_RX6_59) dX6_cover_10 ?_
    refine g_wrI0 hS (g_runV (As := [.int (-1000001)]) (rest := []) ky_yX6_finding lk_RX6_60 C hX (gS_b0 hI hS) hP 44 (c_yX6_finding l G ad hI σ (-1000001)) (by decide) (shX_44 G ad _) ⟨rfl, rfl, by decide, by decide⟩ rfl hl.1 rfl (Nat.le_of_ble_eq_true rfl) ⟨Nat.zero_le _, Nat.zero_le _⟩ dX6_cover_12) (fun H locs hP hS => ?_)
    exact g_iretM C hr hlk rfl (by rw [x_cover, if_pos c1]) hP hS dX6_cover_15

def x_comesToKnowWithout_m1 (σ : gM) (gone : Int32) (g : Nat) (topic : Int32) (k : Nat) (σ1 : gM) : Int32 × gM := ((x_isIn topic (((mput σ1 24 12 (x_passDays0 (mget σ1 24) k gone)) (24 + g) 3) ||| ((mput σ1 24 12 (x_passDays0 (mget σ1 24) k gone)) (24 + g) 5))), (mput σ1 24 12 (x_passDays0 (mget σ1 24) k gone)))
def x_comesToKnowWithout (σ : gM) (gone : Int32) (g : Nat) (topic : Int32) (k : Nat) : Int32 × gM := (x_comesToKnowWithout_m1 σ gone g topic k (bec σ 24 0))
def rm_yX6_comesToKnowWithout : Room := { frames := 5, cells := 0, slots := 0, locals := 119 }
set_option maxHeartbeats 4000000 in
set_option maxRecDepth 100000 in
theorem c_yX6_comesToKnowWithout (l : Launch) (G : gG) (ad : Nat → Nat) (hI : gI G.2.2.1 55 ad) (σ : gM) (gone : Int32) (g : Nat) (topic : Int32) (k : Nat) (N : Nat) (hN : N ≤ 8) (hs : σ 8 0 = nI N) (hg : g < 8) (hk : k < 1000) : gMutI l yX6_comesToKnowWithout cX6_comesToKnowWithout 6 (some .boolean) rm_yX6_comesToKnowWithout G [.ref (ad 44), .int gone, .int (nI g), .int topic, .int (nI k)] 55 ad (shX G ad) σ (x_comesToKnowWithout σ gone g topic k) := by
  refine g_start [.ref (ad 44), .int gone, .int (nI g), .int topic, .int (nI k)] (by decide +kernel) (Nat.le_of_ble_eq_true rfl) ?_
  intro p e s m below meth c ls B Z hl
  obtain ⟨C, hr, hlk⟩ := B
  have hx := C.1
  have hb := C.2.1
  obtain ⟨hX, hP⟩ := Z
  have hS : va_S (gA 55 ad) s.heap s.heap [] := va_S.rf
  revert hP hS
  intro hP hS
  have hl : lv_has ls 6 [(0, .ref (ad 44)), (1, .int gone), (2, .int (nI g)), (3, .int topic), (4, .int (nI k))] := hl
  refine lv_aload_n hx hb dX6_comesToKnowWithout_0 rfl (lv_at hl 0 rfl) ?_
  refine g_get fd_RX6_19 C hX hP 44 (by decide) (shX_44 G ad _) (v := .ref (ad 32)) rfl dX6_comesToKnowWithout_1 ?_
  refine lv_aload_n hx hb dX6_comesToKnowWithout_4 rfl (lv_at hl 0 rfl) ?_
  refine g_get fd_RX6_12 C hX hP 44 (by decide) (shX_44 G ad _) (v := .ref (ad 8)) rfl dX6_comesToKnowWithout_5 ?_
  refine g_wrVq (ι := (pkD 24 0)) (κ := (kpD 24 0)) (m1 := 24) (pkD_m (a := 24) (b := 0) (by decide) (by decide) (by decide)) (pkD_X G ad (a := 24) (b := 0) (by decide) (by decide)) hI hP hS (g_runV (As := [.ref (ad 8)]) (rest := []) ky_yX0_become lk_RX6_157 C hX (gS_b0 hI hS) (hP.pickE (sh1 := (shD G (fun q_ => ad ((pkD 24 0) q_)))) (pkD 24 0) 24 (fun i_ hi_ => ((pkD_m (a := 24) (b := 0) (by decide) (by decide) (by decide)) i_ hi_).1) (pkD_X G ad (a := 24) (b := 0) (by decide) (by decide))) 8 (c_yX0_become l G (fun q_ => ad ((pkD 24 0) q_)) (pk_I hI (pkD_m (a := 24) (b := 0) (by decide) (by decide) (by decide))) (mpick σ (pkD 24 0))  N hN hs) (by decide) (shD_8 G (fun q_ => ad ((pkD 24 0) q_)) _) ⟨rfl, rfl, by decide, by decide⟩ rfl hl.1 rfl (Nat.le_of_ble_eq_true rfl) ⟨Nat.zero_le _, Nat.zero_le _⟩ dX6_comesToKnowWithout_8) (fun H locs hP hS => ?_)
  have hP : gP G.1 55 ad (gE (shX G ad) (bec σ 24 0)) H := hP
  obtain ⟨σ1, eσ1⟩ : ∃ τ_ : gM, τ_ = (bec σ 24 0) := ⟨_, rfl⟩
  rw [← eσ1] at hP
  have hsT : σ1 32 0 = nI N := by rw [eσ1]; exact (bec_8 (a := 24) (b := 0) hN hs (j := 0) (by decide)).trans hs
  have hsC : σ1 8 0 = nI N := by rw [eσ1, bec_out (a := 24) (b := 0) (k := 8) hN hs (by decide)]; exact hs
  refine lv_aload_n hx hb dX6_comesToKnowWithout_11 rfl (lv_at hl 0 rfl) ?_
  refine g_get fd_RX6_19 C hX hP 44 (by decide) (shX_44 G ad _) (v := .ref (ad 32)) rfl dX6_comesToKnowWithout_12 ?_
  refine lv_iload hx hb dX6_comesToKnowWithout_15 (lv_at hl 4 rfl) ?_
  refine lv_iload_n hx hb dX6_comesToKnowWithout_17 rfl (lv_at hl 1 rfl) ?_
  refine g_wrV (o := 24) (m1 := 12) (by omega) (shX_trial G ad) hI hP hS (g_runV (As := [.int (nI k), .int gone]) (rest := []) ky_yX0_passDays lk_RX6_129 C hX (gS_b0 hI hS) (hP.sub (sh1 := (shC G (fun q_ => ad (24 + q_)))) 24 12 (by omega) (shX_trial G ad)) 8 (c_yX0_passDays l G (fun q_ => ad (24 + q_)) (hI.sub (m := 12) 24 (by omega)) (mget σ1 24) k gone N hN hsT hk) (by decide) (shC_8 G (fun q_ => ad (24 + q_)) _) ⟨rfl, rfl, by decide, by decide⟩ rfl hl.1 rfl (Nat.le_of_ble_eq_true rfl) ⟨Nat.zero_le _, Nat.zero_le _⟩ dX6_comesToKnowWithout_18) (fun H locs hP hS => ?_)
  refine lv_aload_n hx hb dX6_comesToKnowWithout_21 rfl (lv_at hl 0 rfl) ?_
  refine g_get fd_RX6_19 C hX hP 44 (by decide) (shX_44 G ad _) (v := .ref (ad 32)) rfl dX6_comesToKnowWithout_22 ?_
  refine g_get fd_RX6_96 C hX hP 32 (by decide) (shX_32 G ad _) (v := .ref (ad 35)) rfl dX6_comesToKnowWithout_25 ?_
  refine lv_iload_n hx hb dX6_comesToKnowWithout_28 rfl (lv_at hl 2 rfl) ?_
  refine g_aald (t0 := 2) C hX hP 35 (by decide) (shX_35 G ad _) rfl g (by omega) (by decide) rfl dX6_comesToKnowWithout_29 ?_
  refine lv_astore (lv' := [(5, .ref (ad (24 + g))), (0, .ref (ad 44)), (1, .int gone), (2, .int (nI g)), (3, .int topic), (4, .int (nI k))]) hx hb dX6_comesToKnowWithout_30 hl (by decide) rfl (fun ls hl => ?_)
  refine lv_iload_n hx hb dX6_comesToKnowWithout_32 rfl (lv_at hl 4 rfl) ?_
  refine lv_aload hx hb dX6_comesToKnowWithout_33 (lv_at hl 0 rfl) ?_
  refine g_get fd_RX6_174 C hX hP (24 + g) (by omega) (shX_t G ad (by omega) _) (v := .int ((mput σ1 24 12 (x_passDays0 (mget σ1 24) k gone)) (24 + g) 3)) rfl dX6_comesToKnowWithout_35 ?_
  refine lv_aload hx hb dX6_comesToKnowWithout_38 (lv_at hl 0 rfl) ?_
  refine g_get fd_RX6_118 C hX hP (24 + g) (by omega) (shX_t G ad (by omega) _) (v := .int ((mput σ1 24 12 (x_passDays0 (mget σ1 24) k gone)) (24 + g) 5)) rfl dX6_comesToKnowWithout_40 ?_
  refine lv_ior hx hb dX6_comesToKnowWithout_43 ?_
  refine g_rd (g_runS (As := [.int topic, .int (((mput σ1 24 12 (x_passDays0 (mget σ1 24) k gone)) (24 + g) 3) ||| ((mput σ1 24 12 (x_passDays0 (mget σ1 24) k gone)) (24 + g) 5))]) (rest := []) ky_yX6_isIn lk_RX6_177 C (c_yX6_isIn l topic (((mput σ1 24 12 (x_passDays0 (mget σ1 24) k gone)) (24 + g) 3) ||| ((mput σ1 24 12 (x_passDays0 (mget σ1 24) k gone)) (24 + g) 5))) ⟨rfl, rfl, by decide, by decide⟩ rfl hl.1 rfl (Nat.le_of_ble_eq_true rfl) ⟨Nat.zero_le _, Nat.zero_le _⟩ dX6_comesToKnowWithout_44) ?_
  exact g_iretM C hr hlk (nb_of (xb_isIn _ _)) (by rw [x_comesToKnowWithout, ← eσ1, x_comesToKnowWithout_m1]) hP hS dX6_comesToKnowWithout_47

theorem ck_out {σ : gM} {N g j : Nat} (hN : N ≤ 8) (hs : σ 8 0 = nI N) (hj : j < 24 ∨ 36 ≤ j) (gone topic : Int32) (k : Nat) : (x_comesToKnowWithout σ gone g topic k).2 j = σ j := by
  unfold x_comesToKnowWithout x_comesToKnowWithout_m1
  show (mput (bec σ 24 0) 24 12 _) j = σ j
  rw [mput_out _ _ (by omega)]
  exact bec_out (b := 0) hN hs (by omega)

def x_away_L42 (σ : gM) (glove : Int32) (topic : Int32) (k : Int32) : Nat → Nat → Int32 → gM → Int32 × gM
  | 0, i, best, τ => if best = (-1) then ((x_finding τ (-1000004)).1, (x_finding τ (-1000004)).2) else (best, τ)
  | n42 + 1, i, best, τ => if (x_isFewer (nI i) best) = 0 then (x_away_L42 σ glove topic k n42 (i + 1) best τ) else (if (x_isIn glove (nI i)) = 0 then (if (x_comesToKnowWithout τ (nI i) (nN glove) topic (nN k)).1 = 0 then (x_away_L42 σ glove topic k n42 (i + 1) best ((x_comesToKnowWithout τ (nI i) (nN glove) topic (nN k)).2)) else (x_away_L42 σ glove topic k n42 (i + 1) (nI i) ((x_comesToKnowWithout τ (nI i) (nN glove) topic (nN k)).2))) else (x_away_L42 σ glove topic k n42 (i + 1) best τ))
def x_away (σ : gM) (glove : Int32) (topic : Int32) (k : Int32) : Int32 × gM := if (x_has0 (mget σ 0) glove) = 0 then ((x_finding σ (-1000001)).1, (x_finding σ (-1000001)).2) else (if (x_isWithin topic 15) = 0 then ((x_finding σ (-1000001)).1, (x_finding σ (-1000001)).2) else (if (x_isWithin k 20) = 0 then ((x_finding σ (-1000001)).1, (x_finding σ (-1000001)).2) else (x_away_L42 σ glove topic k (2 ^ nN (σ 8 0)) 0 (-1) σ)))
def rm_yX6_away : Room := { frames := 6, cells := 0, slots := 0, locals := 144 }
set_option maxHeartbeats 4000000 in
set_option maxRecDepth 100000 in
theorem c_yX6_away (l : Launch) (G : gG) (ad : Nat → Nat) (hI : gI G.2.2.1 55 ad) (σ : gM) (glove : Int32) (topic : Int32) (k : Int32) (N : Nat) (hN : N ≤ 8) (hs : σ 8 0 = nI N) : gMutI l yX6_away cX6_away 6 (some .int) rm_yX6_away G [.ref (ad 44), .int glove, .int topic, .int k] 55 ad (shX G ad) σ (x_away σ glove topic k) := by
  refine g_start [.ref (ad 44), .int glove, .int topic, .int k] (by decide +kernel) (Nat.le_of_ble_eq_true rfl) ?_
  intro p e s m below meth c ls B Z hl
  obtain ⟨C, hr, hlk⟩ := B
  have hx := C.1
  have hb := C.2.1
  obtain ⟨hX, hP⟩ := Z
  have hS : va_S (gA 55 ad) s.heap s.heap [] := va_S.rf
  revert hP hS
  intro hP hS
  have hl : lv_has ls 6 [(0, .ref (ad 44)), (1, .int glove), (2, .int topic), (3, .int k)] := hl
  obtain ⟨P, hP2⟩ : ∃ P, P = 2 ^ N := ⟨_, rfl⟩
  have hP3 : P ≤ 256 := by rw [hP2]; exact pow8 hN
  refine lv_aload_n hx hb dX6_away_0 rfl (lv_at hl 0 rfl) ?_
  refine g_get fd_RX6_12 C hX hP 44 (by decide) (shX_44 G ad _) (v := .ref (ad 8)) rfl dX6_away_1 ?_
  refine lv_iload_n hx hb dX6_away_4 rfl (lv_at hl 1 rfl) ?_
  refine g_rd (g_runV (As := [.int glove]) (rest := []) ky_yX0_has lk_RX6_88 C hX (gS_b0 hI hS) (hP.sub (sh1 := (shC G (fun q_ => ad (0 + q_)))) 0 12 (by omega) (shX_club G ad)) 8 (c_yX0_has l G (fun q_ => ad (0 + q_)) (hI.sub (m := 12) 0 (by omega)) (mget σ 0) glove) (by decide) (shC_8 G (fun q_ => ad (0 + q_)) _) ⟨rfl, rfl, by decide, by decide⟩ rfl hl.1 rfl (Nat.le_of_ble_eq_true rfl) ⟨Nat.zero_le _, Nat.zero_le _⟩ dX6_away_5) ?_
  refine lv_if_eq (tgt := 29) hx hb dX6_away_8 (by decide) (fun c1 => ?_) (fun c1 => ?_)
  · refine lv_aload_n hx hb dX6_away_29 rfl (lv_at hl 0 rfl) ?_
    refine lv_ldc hx hb C.2.2.2.1 (C.2.2.2.2 _ kc_RX6_59) dX6_away_30 ?_
    refine g_wrI0 hS (g_runV (As := [.int (-1000001)]) (rest := []) ky_yX6_finding lk_RX6_60 C hX (gS_b0 hI hS) hP 44 (c_yX6_finding l G ad hI σ (-1000001)) (by decide) (shX_44 G ad _) ⟨rfl, rfl, by decide, by decide⟩ rfl hl.1 rfl (Nat.le_of_ble_eq_true rfl) ⟨Nat.zero_le _, Nat.zero_le _⟩ dX6_away_32) (fun H locs hP hS => ?_)
    exact g_iretM C hr hlk rfl (by rw [x_away, if_pos c1]) hP hS dX6_away_35
  · obtain ⟨hg1, hg2⟩ := has_of hN hs c1
    refine lv_iload_n hx hb dX6_away_11 rfl (lv_at hl 2 rfl) ?_
    refine lv_bipush (v := 15) hx hb dX6_away_12 (by decide) ?_
    refine g_rd (g_runS (As := [.int topic, .int 15]) (rest := []) ky_yX6_isWithin lk_RX6_51 C (c_yX6_isWithin l topic 15) ⟨rfl, rfl, by decide, by decide⟩ rfl hl.1 rfl (Nat.le_of_ble_eq_true rfl) ⟨Nat.zero_le _, Nat.zero_le _⟩ dX6_away_14) ?_
    refine lv_if_eq (tgt := 29) hx hb dX6_away_17 (by decide) (fun c2 => ?_) (fun c2 => ?_)
    · refine lv_aload_n hx hb dX6_away_29 rfl (lv_at hl 0 rfl) ?_
      refine lv_ldc hx hb C.2.2.2.1 (C.2.2.2.2 _ kc_RX6_59) dX6_away_30 ?_
      refine g_wrI0 hS (g_runV (As := [.int (-1000001)]) (rest := []) ky_yX6_finding lk_RX6_60 C hX (gS_b0 hI hS) hP 44 (c_yX6_finding l G ad hI σ (-1000001)) (by decide) (shX_44 G ad _) ⟨rfl, rfl, by decide, by decide⟩ rfl hl.1 rfl (Nat.le_of_ble_eq_true rfl) ⟨Nat.zero_le _, Nat.zero_le _⟩ dX6_away_32) (fun H locs hP hS => ?_)
      exact g_iretM C hr hlk rfl (by rw [x_away, if_neg c1, if_pos c2]) hP hS dX6_away_35
    · refine lv_iload_n hx hb dX6_away_20 rfl (lv_at hl 3 rfl) ?_
      refine lv_bipush (v := 20) hx hb dX6_away_21 (by decide) ?_
      refine g_rd (g_runS (As := [.int k, .int 20]) (rest := []) ky_yX6_isWithin lk_RX6_51 C (c_yX6_isWithin l k 20) ⟨rfl, rfl, by decide, by decide⟩ rfl hl.1 rfl (Nat.le_of_ble_eq_true rfl) ⟨Nat.zero_le _, Nat.zero_le _⟩ dX6_away_23) ?_
      refine lv_if_ne (tgt := 36) hx hb dX6_away_26 (by decide) (fun c3 => ?_) (fun c3 => ?_)
      · obtain ⟨hk1, hk2⟩ := isW_of (M := 20) (by decide) c3
        refine lv_iconst (v := (-1)) hx hb dX6_away_36 (by decide) ?_
        refine lv_istore (lv' := [(4, .int (-1)), (0, .ref (ad 44)), (1, .int glove), (2, .int topic), (3, .int k)]) hx hb dX6_away_37 hl (by decide) rfl (fun ls hl => ?_)
        refine lv_iconst (v := 0) hx hb dX6_away_39 (by decide) ?_
        refine lv_istore (lv' := [(5, .int 0), (4, .int (-1)), (0, .ref (ad 44)), (1, .int glove), (2, .int topic), (3, .int k)]) hx hb dX6_away_40 hl (by decide) rfl (fun ls hl => ?_)
        suffices loop42 : ∀ (n42 : Nat) (i : Nat) (best : Int32) (τ : gM) (H : Heap) (locs : List Loc) (ls : Array Slot), (i + n42 = P) → (τ 8 0 = nI N) → x_away σ glove topic k = (x_away_L42 σ glove topic k n42 i best τ) → gP G.1 55 ad (gE (shX G ad) τ) H → va_S (gA 55 ad) s.heap H locs → lv_has ls 6 [(5, .int (nI i)), (4, .int best), (0, .ref (ad 44)), (1, .int glove), (2, .int topic), (3, .int k)] → W p l e rm_yX6_away s m ([.ref (ad 44), .int glove, .int topic, .int k] : List Value).toArray below meth c H locs 0 0 (MQ below (va_Qi (fun (x : Int32) (τ : gM) => x_away σ glove topic k = (x, τ)) (fun τ t => gP G.1 55 ad (gE (shX G ad) τ) t.heap) (gA 55 ad)) ([.ref (ad 44), .int glove, .int topic, .int k] : List Value).toArray s 0 0 (gA 55 ad)) (F0 m 42 ls []) by
          exact loop42 P 0 (-1) σ _ _ _ (by omega) hs (by rw [x_away, if_neg c1, if_neg c2, if_neg c3, hs, nN_nI (by omega), ← hP2]) hP hS (lv_sub hl [0, 1, 2, 3, 4, 5] rfl)
        intro n42
        induction n42 with
        | zero =>
          intro i best τ H locs ls hi42 hC hres42 hP hS hl
          refine lv_iload hx hb dX6_away_42 (lv_at hl 0 rfl) ?_
          refine lv_iconst (v := 1) hx hb dX6_away_44 (by decide) ?_
          refine lv_aload_n hx hb dX6_away_45 rfl (lv_at hl 2 rfl) ?_
          refine g_get fd_RX6_12 C hX hP 44 (by decide) (shX_44 G ad _) (v := .ref (ad 8)) rfl dX6_away_46 ?_
          refine g_get fd_RX6_80 C hX hP 8 (by decide) (shX_8 G ad _) (v := .int (τ 8 0)) rfl dX6_away_49 ?_
          refine g_ishl hx hb dX6_away_52 ?_
          refine lv_as (y := (nI P)) (by rw [hC, shl1 hN, hP2]) ?_
          refine lv_icmp_ge (tgt := 97) hx hb dX6_away_53 (by decide) (fun c4 => ?_) (fun c4 => ?_)
          · refine lv_iload hx hb dX6_away_97 (lv_at hl 1 rfl) ?_
            refine lv_iconst (v := (-1)) hx hb dX6_away_99 (by decide) ?_
            refine lv_icmp_ne (tgt := 112) hx hb dX6_away_100 (by decide) (fun c5 => ?_) (fun c5 => ?_)
            · refine lv_iload hx hb dX6_away_112 (lv_at hl 1 rfl) ?_
              exact g_iretM C hr hlk rfl (by rw [hres42, x_away_L42, if_neg c5]) hP hS dX6_away_114
            · refine lv_aload_n hx hb dX6_away_103 rfl (lv_at hl 2 rfl) ?_
              refine lv_ldc hx hb C.2.2.2.1 (C.2.2.2.2 _ kc_RX6_173) dX6_away_104 ?_
              refine g_wrI0 hS (g_runV (As := [.int (-1000004)]) (rest := []) ky_yX6_finding lk_RX6_60 C hX (gS_b0 hI hS) hP 44 (c_yX6_finding l G ad hI τ (-1000004)) (by decide) (shX_44 G ad _) ⟨rfl, rfl, by decide, by decide⟩ rfl hl.1 rfl (Nat.le_of_ble_eq_true rfl) ⟨Nat.zero_le _, Nat.zero_le _⟩ dX6_away_106) (fun H locs hP hS => ?_)
              refine lv_goto (tgt := 114) hx hb dX6_away_109 (by decide) ?_
              exact g_iretM C hr hlk rfl (by rw [hres42, x_away_L42, if_pos c5]) hP hS dX6_away_114
          · exact absurd (show nI (P) ≤ nI i from nI_le (by omega) (by omega)) c4
        | succ n42 ih42 =>
          intro i best τ H locs ls hi42 hC hres42 hP hS hl
          refine lv_iload hx hb dX6_away_42 (lv_at hl 0 rfl) ?_
          refine lv_iconst (v := 1) hx hb dX6_away_44 (by decide) ?_
          refine lv_aload_n hx hb dX6_away_45 rfl (lv_at hl 2 rfl) ?_
          refine g_get fd_RX6_12 C hX hP 44 (by decide) (shX_44 G ad _) (v := .ref (ad 8)) rfl dX6_away_46 ?_
          refine g_get fd_RX6_80 C hX hP 8 (by decide) (shX_8 G ad _) (v := .int (τ 8 0)) rfl dX6_away_49 ?_
          refine g_ishl hx hb dX6_away_52 ?_
          refine lv_as (y := (nI P)) (by rw [hC, shl1 hN, hP2]) ?_
          refine lv_icmp_ge (tgt := 97) hx hb dX6_away_53 (by decide) (fun c6 => ?_) (fun c6 => ?_)
          · exact absurd (show nI (P) ≤ nI i from c6) (nI_ge (by omega) (by omega))
          · refine lv_iload hx hb dX6_away_56 (lv_at hl 0 rfl) ?_
            refine lv_iload hx hb dX6_away_58 (lv_at hl 1 rfl) ?_
            refine g_rd (g_runS (As := [.int (nI i), .int best]) (rest := []) ky_yX6_isFewer lk_RX6_194 C (c_yX6_isFewer l (nI i) best) ⟨rfl, rfl, by decide, by decide⟩ rfl hl.1 rfl (Nat.le_of_ble_eq_true rfl) ⟨Nat.zero_le _, Nat.zero_le _⟩ dX6_away_60) ?_
            refine lv_if_eq (tgt := 91) hx hb dX6_away_63 (by decide) (fun c7 => ?_) (fun c7 => ?_)
            · refine lv_iinc (v := (nI (i + 1))) (lv' := [(5, .int (nI (i + 1))), (4, .int best), (0, .ref (ad 44)), (1, .int glove), (2, .int topic), (3, .int k)]) hx hb dX6_away_91 hl (k := 0) rfl (by exact nI_1 _) (by decide) rfl (fun ls hl => ?_)
              refine lv_goto (tgt := 42) hx hb dX6_away_94 (by decide) ?_
              exact ih42 (i + 1) best τ _ _ _ (by omega) hC (by rw [hres42, x_away_L42, if_pos c7]) hP hS (lv_sub hl [0, 1, 2, 3, 4, 5] rfl)
            · refine lv_iload_n hx hb dX6_away_66 rfl (lv_at hl 3 rfl) ?_
              refine lv_iload hx hb dX6_away_67 (lv_at hl 0 rfl) ?_
              refine g_rd (g_runS (As := [.int glove, .int (nI i)]) (rest := []) ky_yX6_isIn lk_RX6_177 C (c_yX6_isIn l glove (nI i)) ⟨rfl, rfl, by decide, by decide⟩ rfl hl.1 rfl (Nat.le_of_ble_eq_true rfl) ⟨Nat.zero_le _, Nat.zero_le _⟩ dX6_away_69) ?_
              refine lv_if_ne (tgt := 91) hx hb dX6_away_72 (by decide) (fun c8 => ?_) (fun c8 => ?_)
              · refine lv_iinc (v := (nI (i + 1))) (lv' := [(5, .int (nI (i + 1))), (4, .int best), (0, .ref (ad 44)), (1, .int glove), (2, .int topic), (3, .int k)]) hx hb dX6_away_91 hl (k := 0) rfl (by exact nI_1 _) (by decide) rfl (fun ls hl => ?_)
                refine lv_goto (tgt := 42) hx hb dX6_away_94 (by decide) ?_
                exact ih42 (i + 1) best τ _ _ _ (by omega) hC (by rw [hres42, x_away_L42, if_neg c7, if_neg c8]) hP hS (lv_sub hl [0, 1, 2, 3, 4, 5] rfl)
              · refine lv_aload_n hx hb dX6_away_75 rfl (lv_at hl 2 rfl) ?_
                refine lv_iload hx hb dX6_away_76 (lv_at hl 0 rfl) ?_
                refine lv_iload_n hx hb dX6_away_78 rfl (lv_at hl 3 rfl) ?_
                refine lv_as (y := (nI (nN glove))) hg1 ?_
                refine lv_iload_n hx hb dX6_away_79 rfl (lv_at hl 4 rfl) ?_
                refine lv_iload_n hx hb dX6_away_80 rfl (lv_at hl 5 rfl) ?_
                refine lv_as (y := (nI (nN k))) hk1 ?_
                refine g_wrI0 hS (g_runV (As := [.int (nI i), .int (nI (nN glove)), .int topic, .int (nI (nN k))]) (rest := []) ky_yX6_comesToKnowWithout lk_RX6_200 C hX (gS_b0 hI hS) hP 44 (c_yX6_comesToKnowWithout l G ad hI τ (nI i) (nN glove) topic (nN k) N hN hC (by omega) (by omega)) (by decide) (shX_44 G ad _) ⟨rfl, rfl, by decide, by decide⟩ rfl hl.1 rfl (Nat.le_of_ble_eq_true rfl) ⟨Nat.zero_le _, Nat.zero_le _⟩ dX6_away_81) (fun H locs hP hS => ?_)
                refine lv_if_eq (tgt := 91) hx hb dX6_away_84 (by decide) (fun c9 => ?_) (fun c9 => ?_)
                · refine lv_iinc (v := (nI (i + 1))) (lv' := [(5, .int (nI (i + 1))), (4, .int best), (0, .ref (ad 44)), (1, .int glove), (2, .int topic), (3, .int k)]) hx hb dX6_away_91 hl (k := 0) rfl (by exact nI_1 _) (by decide) rfl (fun ls hl => ?_)
                  refine lv_goto (tgt := 42) hx hb dX6_away_94 (by decide) ?_
                  exact ih42 (i + 1) best ((x_comesToKnowWithout τ (nI i) (nN glove) topic (nN k)).2) _ _ _ (by omega) (by rw [ck_out hN hC (Or.inl (by decide))]; exact hC) (by rw [hres42, x_away_L42, if_neg c7, if_pos c8, if_pos c9]) hP hS (lv_sub hl [0, 1, 2, 3, 4, 5] rfl)
                · refine lv_iload hx hb dX6_away_87 (lv_at hl 0 rfl) ?_
                  refine lv_istore (lv' := [(4, .int (nI i)), (5, .int (nI i)), (0, .ref (ad 44)), (1, .int glove), (2, .int topic), (3, .int k)]) hx hb dX6_away_89 hl (by decide) rfl (fun ls hl => ?_)
                  refine lv_iinc (v := (nI (i + 1))) (lv' := [(5, .int (nI (i + 1))), (4, .int (nI i)), (0, .ref (ad 44)), (1, .int glove), (2, .int topic), (3, .int k)]) hx hb dX6_away_91 hl (k := 1) rfl (by exact nI_1 _) (by decide) rfl (fun ls hl => ?_)
                  refine lv_goto (tgt := 42) hx hb dX6_away_94 (by decide) ?_
                  exact ih42 (i + 1) (nI i) ((x_comesToKnowWithout τ (nI i) (nN glove) topic (nN k)).2) _ _ _ (by omega) (by rw [ck_out hN hC (Or.inl (by decide))]; exact hC) (by rw [hres42, x_away_L42, if_neg c7, if_pos c8, if_neg c9]) hP hS (lv_sub hl [0, 1, 2, 3, 4, 5] rfl)
      · refine lv_aload_n hx hb dX6_away_29 rfl (lv_at hl 0 rfl) ?_
        refine lv_ldc hx hb C.2.2.2.1 (C.2.2.2.2 _ kc_RX6_59) dX6_away_30 ?_
        refine g_wrI0 hS (g_runV (As := [.int (-1000001)]) (rest := []) ky_yX6_finding lk_RX6_60 C hX (gS_b0 hI hS) hP 44 (c_yX6_finding l G ad hI σ (-1000001)) (by decide) (shX_44 G ad _) ⟨rfl, rfl, by decide, by decide⟩ rfl hl.1 rfl (Nat.le_of_ble_eq_true rfl) ⟨Nat.zero_le _, Nat.zero_le _⟩ dX6_away_32) (fun H locs hP hS => ?_)
        exact g_iretM C hr hlk rfl (by rw [x_away, if_neg c1, if_neg c2, if_pos c3]) hP hS dX6_away_35
