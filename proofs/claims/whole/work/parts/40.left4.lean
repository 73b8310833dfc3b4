theorem rdw {σ : gM} {N : Nat} (hN : N ≤ 8) (hs : σ 8 0 = nI N) : mget (mget (bec σ 24 0) 24) 13 = mget σ 37 := by
  funext k
  show bec σ 24 0 (24 + (13 + k)) = σ (37 + k)
  rw [bec_out (b := 0) hN hs (by omega)]
  congr 1
  omega
theorem rdL8 {σ σ1 : gM} {L2 : Nat} (hL2 : L2 ≤ 121) (h13 : σ1 13 0 = nI L2) (h17 : ∀ j, j < 121 → ¬ σ1 17 j < 0) : ∀ (n i : Nat) (τ : gM), (∀ k, 13 ≤ k → τ k = σ1 k) → (∃ N, N ≤ 8 ∧ τ 8 0 = nI N) → (∃ N, N ≤ 8 ∧ (x_read4_L20 σ σ1 n i τ).2 8 0 = nI N) ∧ ∀ k, 13 ≤ k → (x_read4_L20 σ σ1 n i τ).2 k = σ1 k := by
  intro n
  induction n with
  | zero => intro i τ h h8; rw [x_read4_L20]; exact ⟨h8, h⟩
  | succ n ih =>
    intro i τ h h8
    obtain ⟨N, hN, hs⟩ := h8
    have q13 : τ 13 0 = nI L2 := by rw [h 13 (by decide)]; exact h13
    have q17 : ∀ j, j < 121 → ¬ τ 17 j < 0 := by rw [h 17 (by decide)]; exact h17
    have a1 : ∀ k, 13 ≤ k → x_takeItem4 τ k = σ1 k := fun k hk => by rw [ti_row L2 N hL2 q13 q17 hN hs hk]; exact h k hk
    have a2 := ti_8 L2 N hL2 q13 q17 hN hs
    obtain ⟨ρ, hρ⟩ : ∃ ρ, ρ = x_takeItem4 τ := ⟨_, rfl⟩
    rw [x_read4_L20]
    rw [← hρ] at a1 a2 ⊢
    have b1 : ∀ k, 13 ≤ k → (x_takes4 ρ 15).2 k = σ1 k := fun k hk => by rw [tk_row (by omega)]; exact a1 k hk
    have b2 : ∃ N, N ≤ 8 ∧ (x_takes4 ρ 15).2 8 0 = nI N := by rw [tk_row (by decide)]; exact a2
    have c1 : ∀ k, 13 ≤ k → (mset (x_takes4 ρ 15).2 12 1 1) k = σ1 k := fun k hk => by rw [mset_ne _ _ _ (by omega)]; exact b1 k hk
    have c2 : ∃ N, N ≤ 8 ∧ (mset (x_takes4 ρ 15).2 12 1 1) 8 0 = nI N := by rw [mset_ne _ _ _ (by decide)]; exact b2
    by_cases d1 : τ 12 1 = 0
    · rw [if_pos d1]
      by_cases d2 : ρ 12 1 = 0
      · rw [if_pos d2]
        by_cases d3 : x_sortAt5 (mget ρ 13) (ρ 12 0) = 17
        · rw [if_pos d3]; exact ⟨a2, a1⟩
        · rw [if_neg d3]
          by_cases d4 : (x_takes4 ρ 15).1 = 0
          · rw [if_pos d4]; exact ih _ _ c1 c2
          · rw [if_neg d4]; exact ih _ _ b1 b2
      · rw [if_neg d2]
        by_cases d4 : (x_takes4 ρ 15).1 = 0
        · rw [if_pos d4]; exact ih _ _ c1 c2
        · rw [if_neg d4]; exact ih _ _ b1 b2
    · rw [if_neg d1]
      exact ⟨⟨N, hN, hs⟩, h⟩
theorem rd_8 {σ : gM} {L2 N : Nat} (hL2 : L2 ≤ 121) (h13 : (x_readFrom5 (mget σ 13)) 0 0 = nI L2) (h17 : ∀ j, j < 121 → ¬ (x_readFrom5 (mget σ 13)) 4 j < 0) (hN : N ≤ 8) (hs : σ 8 0 = nI N) : ∃ N, N ≤ 8 ∧ (x_read4 σ).2 8 0 = nI N := by
  unfold x_read4 x_read4_m1
  obtain ⟨ρ, hρ⟩ : ∃ ρ, ρ = x_readFrom5 (mget σ 13) := ⟨_, rfl⟩
  rw [← hρ] at h13 h17 ⊢
  have e13 : (mput σ 13 7 ρ) 13 = ρ 0 := mput_in (o := 13) (i := 0) σ ρ (by decide)
  have e17 : (mput σ 13 7 ρ) 17 = ρ 4 := mput_in (o := 13) (i := 4) σ ρ (by decide)
  have e8 : (mset (mset (mput σ 13 7 ρ) 12 0 0) 12 1 0) 8 0 = nI N := by
    rw [mset_ne _ _ _ (by decide), mset_ne _ _ _ (by decide), mput_out _ _ (by decide)]
    exact hs
  exact (rdL8 (σ1 := mput σ 13 7 ρ) hL2 (by rw [e13]; exact h13) (by rw [e17]; exact h17) 120 1 (mset (mset (mput σ 13 7 ρ) 12 0 0) 12 1 0) (fun k hk => by rw [mset_ne _ _ _ (by omega), mset_ne _ _ _ (by omega)]) ⟨N, hN, e8⟩).1

def x_text_m3 (σ : gM) (σ1 : gM) (σ2 : gM) (ans : Int32) (σ3 : gM) : Int32 × gM := (ans, (mset σ3 42 0 0))
def x_text_m2 (σ : gM) (σ1 : gM) (σ2 : gM) (ans : Int32) : Int32 × gM := if ans < 0 then (ans, (mset σ2 42 0 0)) else (x_text_m3 σ σ1 σ2 ans (bec σ2 0 24))
def x_text_m1 (σ : gM) (σ1 : gM) : Int32 × gM := (x_text_m2 σ σ1 (mput σ1 24 20 (x_read4 (mget σ1 24)).2) (x_read4 (mget σ1 24)).1)
def x_text (σ : gM) : Int32 × gM := (x_text_m1 σ (bec σ 24 0))
def rm_yX6_text : Room := { frames := 8, cells := 0, slots := 0, locals := 180 }
set_option maxHeartbeats 4000000 in
set_option maxRecDepth 100000 in
theorem c_yX6_text (l : Launch) (G : gG) (ad : Nat → Nat) (hI : gI G.2.2.1 55 ad) (σ : gM) (N : Nat) (T : Nat) (L2 : Nat) (hN : N ≤ 8) (hs : σ 8 0 = nI N) (hT : T ≤ 120) (ht : σ 42 0 = nI T) (hL2 : L2 ≤ 121) (hrs : (x_readFrom5 (mget σ 37)) 0 0 = nI L2) (hrn : ∀ j, j < 121 → ¬ (x_readFrom5 (mget σ 37)) 4 j < 0) : gMutI l yX6_text cX6_text 2 (some .int) rm_yX6_text G [.ref (ad 44)] 55 ad (shX G ad) σ (x_text σ) := by
  refine g_start [.ref (ad 44)] (by decide +kernel) (Nat.le_of_ble_eq_true rfl) ?_
  intro p e s m below meth c ls B Z hl
  obtain ⟨C, hr, hlk⟩ := B
  have hx := C.1
  have hb := C.2.1
  obtain ⟨hX, hP⟩ := Z
  have hS : va_S (gA 55 ad) s.heap s.heap [] := va_S.rf
  revert hP hS
  intro hP hS
  have hl : lv_has ls 2 [(0, .ref (ad 44))] := hl
  refine lv_aload_n hx hb dX6_text_0 rfl (lv_at hl 0 rfl) ?_
  refine g_get fd_RX6_19 C hX hP 44 (by decide) (shX_44 G ad _) (v := .ref (ad 32)) rfl dX6_text_1 ?_
  refine lv_aload_n hx hb dX6_text_4 rfl (lv_at hl 0 rfl) ?_
  refine g_get fd_RX6_12 C hX hP 44 (by decide) (shX_44 G ad _) (v := .ref (ad 8)) rfl dX6_text_5 ?_
  refine g_wrVq (ι := (pkD 24 0)) (κ := (kpD 24 0)) (m1 := 24) (pkD_m (a := 24) (b := 0) (by decide) (by decide) (by decide)) (pkD_X G ad (a := 24) (b := 0) (by decide) (by decide)) hI hP hS (g_runV (As := [.ref (ad 8)]) (rest := []) ky_yX0_become lk_RX6_157 C hX (gS_b0 hI hS) (hP.pickE (sh1 := (shD G (fun q_ => ad ((pkD 24 0) q_)))) (pkD 24 0) 24 (fun i_ hi_ => ((pkD_m (a := 24) (b := 0) (by decide) (by decide) (by decide)) i_ hi_).1) (pkD_X G ad (a := 24) (b := 0) (by decide) (by decide))) 8 (c_yX0_become l G (fun q_ => ad ((pkD 24 0) q_)) (pk_I hI (pkD_m (a := 24) (b := 0) (by decide) (by decide) (by decide))) (mpick σ (pkD 24 0))  N hN hs) (by decide) (shD_8 G (fun q_ => ad ((pkD 24 0) q_)) _) ⟨rfl, rfl, by decide, by decide⟩ rfl hl.1 rfl (Nat.le_of_ble_eq_true rfl) ⟨Nat.zero_le _, Nat.zero_le _⟩ dX6_text_8) (fun H locs hP hS => ?_)
  have hP : gP G.1 55 ad (gE (shX G ad) (bec σ 24 0)) H := hP
  obtain ⟨σ1, eσ1⟩ : ∃ τ_ : gM, τ_ = (bec σ 24 0) := ⟨_, rfl⟩
  rw [← eσ1] at hP
  have hsT : σ1 32 0 = nI N := by rw [eσ1]; exact (bec_8 (a := 24) (b := 0) hN hs (j := 0) (by decide)).trans hs
  have hsC : σ1 8 0 = nI N := by rw [eσ1, bec_out (a := 24) (b := 0) (k := 8) hN hs (by decide)]; exact hs
  have hw1 : mget (mget σ1 24) 13 = mget σ 37 := by rw [eσ1]; exact rdw hN hs
  have hrs1 : (x_readFrom5 (mget (mget σ1 24) 13)) 0 0 = nI L2 := by rw [hw1]; exact hrs
  have hrn1 : ∀ j, j < 121 → ¬ (x_readFrom5 (mget (mget σ1 24) 13)) 4 j < 0 := by rw [hw1]; exact hrn
  have hT1 : σ1 42 0 = nI T := by rw [eσ1, bec_out (a := 24) (b := 0) (k := 42) hN hs (by decide)]; exact ht
  refine lv_aload_n hx hb dX6_text_11 rfl (lv_at hl 0 rfl) ?_
  refine g_get fd_RX6_36 C hX hP 44 (by decide) (shX_44 G ad _) (v := .ref (ad 36)) rfl dX6_text_12 ?_
  refine lv_aload_n hx hb dX6_text_15 rfl (lv_at hl 0 rfl) ?_
  refine g_get fd_RX6_29 C hX hP 44 (by decide) (shX_44 G ad _) (v := .ref (ad 42)) rfl dX6_text_16 ?_
  refine lv_aload_n hx hb dX6_text_19 rfl (lv_at hl 0 rfl) ?_
  refine g_get fd_RX6_19 C hX hP 44 (by decide) (shX_44 G ad _) (v := .ref (ad 32)) rfl dX6_text_20 ?_
  refine g_wrI (o := 24) (m1 := 20) (by omega) (shX_reader G ad) hI hP hS (g_runV (As := [.ref (ad 42), .ref (ad 32)]) (rest := []) ky_yX4_read lk_RX6_240 C hX (gS_b0 hI hS) (hP.sub (sh1 := (shR G (fun q_ => ad (24 + q_)))) 24 20 (by omega) (shX_reader G ad)) 12 (c_yX4_read l G (fun q_ => ad (24 + q_)) (hI.sub (m := 20) 24 (by omega)) (mget σ1 24)  T L2 N hT hT1 hL2 hrs1 hrn1 hN hsT) (by decide) (shR_12 G (fun q_ => ad (24 + q_)) _) ⟨rfl, rfl, by decide, by decide⟩ rfl hl.1 rfl (Nat.le_of_ble_eq_true rfl) ⟨Nat.zero_le _, Nat.zero_le _⟩ dX6_text_23) (fun H locs hP hS => ?_)
  obtain ⟨σ2, eσ2⟩ : ∃ τ_ : gM, τ_ = (mput σ1 24 20 (x_read4 (mget σ1 24)).2) := ⟨_, rfl⟩
  rw [← eσ2] at hP
  obtain ⟨N2, hN2, hs2⟩ : ∃ N2, N2 ≤ 8 ∧ σ2 32 0 = nI N2 := by rw [eσ2]; exact rd_8 (σ := mget σ1 24) hL2 hrs1 hrn1 hN hsT
  obtain ⟨ans, eans⟩ : ∃ z : Int32, z = (x_read4 (mget σ1 24)).1 := ⟨_, rfl⟩
  refine lv_as (y := ans) eans.symm ?_
  refine lv_istore_n (lv' := [(1, .int ans), (0, .ref (ad 44))]) hx hb dX6_text_26 rfl hl (by decide) rfl (fun ls hl => ?_)
  refine lv_iload_n hx hb dX6_text_27 rfl (lv_at hl 0 rfl) ?_
  refine lv_if_lt (tgt := 42) hx hb dX6_text_28 (by decide) (fun c1 => ?_) (fun c1 => ?_)
  · refine lv_aload_n hx hb dX6_text_42 rfl (lv_at hl 1 rfl) ?_
    refine g_get fd_RX6_29 C hX hP 44 (by decide) (shX_44 G ad _) (v := .ref (ad 42)) rfl dX6_text_43 ?_
    refine lv_iconst (v := 0) hx hb dX6_text_46 (by decide) ?_
    refine g_put fd_RX6_233 C hX hI hP hS 42 (by decide) (shX_42 G ad _) rfl rfl (Nat.le_of_ble_eq_true rfl) (upd (σ2 42) 0 0) rfl dX6_text_47 (fun H locs hP hS => ?_)
    have hP : gP G.1 55 ad (gE (shX G ad) (mset σ2 42 0 0)) H := hP
    refine lv_iload_n hx hb dX6_text_50 rfl (lv_at hl 0 rfl) ?_
    exact g_iretM C hr hlk rfl (by rw [x_text, ← eσ1, x_text_m1, ← eσ2, ← eans, x_text_m2, if_pos c1]) hP hS dX6_text_51
  · refine lv_aload_n hx hb dX6_text_31 rfl (lv_at hl 1 rfl) ?_
    refine g_get fd_RX6_12 C hX hP 44 (by decide) (shX_44 G ad _) (v := .ref (ad 8)) rfl dX6_text_32 ?_
    refine lv_aload_n hx hb dX6_text_35 rfl (lv_at hl 1 rfl) ?_
    refine g_get fd_RX6_19 C hX hP 44 (by decide) (shX_44 G ad _) (v := .ref (ad 32)) rfl dX6_text_36 ?_
    refine g_wrVq (ι := (pkD 0 24)) (κ := (kpD 0 24)) (m1 := 24) (pkD_m (a := 0) (b := 24) (by decide) (by decide) (by decide)) (pkD_X G ad (a := 0) (b := 24) (by decide) (by decide)) hI hP hS (g_runV (As := [.ref (ad 32)]) (rest := []) ky_yX0_become lk_RX6_157 C hX (gS_b0 hI hS) (hP.pickE (sh1 := (shD G (fun q_ => ad ((pkD 0 24) q_)))) (pkD 0 24) 24 (fun i_ hi_ => ((pkD_m (a := 0) (b := 24) (by decide) (by decide) (by decide)) i_ hi_).1) (pkD_X G ad (a := 0) (b := 24) (by decide) (by decide))) 8 (c_yX0_become l G (fun q_ => ad ((pkD 0 24) q_)) (pk_I hI (pkD_m (a := 0) (b := 24) (by decide) (by decide) (by decide))) (mpick σ2 (pkD 0 24))  N2 hN2 hs2) (by decide) (shD_8 G (fun q_ => ad ((pkD 0 24) q_)) _) ⟨rfl, rfl, by decide, by decide⟩ rfl hl.1 rfl (Nat.le_of_ble_eq_true rfl) ⟨Nat.zero_le _, Nat.zero_le _⟩ dX6_text_39) (fun H locs hP hS => ?_)
    have hP : gP G.1 55 ad (gE (shX G ad) (bec σ2 0 24)) H := hP
    obtain ⟨σ3, eσ3⟩ : ∃ τ_ : gM, τ_ = (bec σ2 0 24) := ⟨_, rfl⟩
    rw [← eσ3] at hP
    refine lv_aload_n hx hb dX6_text_42 rfl (lv_at hl 1 rfl) ?_
    refine g_get fd_RX6_29 C hX hP 44 (by decide) (shX_44 G ad _) (v := .ref (ad 42)) rfl dX6_text_43 ?_
    refine lv_iconst (v := 0) hx hb dX6_text_46 (by decide) ?_
    refine g_put fd_RX6_233 C hX hI hP hS 42 (by decide) (shX_42 G ad _) rfl rfl (Nat.le_of_ble_eq_true rfl) (upd (σ3 42) 0 0) rfl dX6_text_47 (fun H locs hP hS => ?_)
    have hP : gP G.1 55 ad (gE (shX G ad) (mset σ3 42 0 0)) H := hP
    refine lv_iload_n hx hb dX6_text_50 rfl (lv_at hl 0 rfl) ?_
    exact g_iretM C hr hlk rfl (by rw [x_text, ← eσ1, x_text_m1, ← eσ2, ← eans, x_text_m2, if_neg c1, ← eσ3, x_text_m3]) hP hS dX6_text_51

def x_hold (σ : gM) (spot : Int32) (glove : Int32) : Int32 × gM := if (x_isWithin spot 9) = 0 then ((x_finding σ (-1000001)).1, (x_finding σ (-1000001)).2) else (if glove = (-1) then (1, (mset σ 10 (nN spot) glove)) else (if (x_has0 (mget σ 0) glove) = 0 then ((x_finding σ (-1000001)).1, (x_finding σ (-1000001)).2) else (1, (mset σ 10 (nN spot) glove))))
def rm_yX6_hold : Room := { frames := 2, cells := 0, slots := 0, locals := 43 }
set_option maxHeartbeats 4000000 in
set_option maxRecDepth 100000 in
theorem c_yX6_hold (l : Launch) (G : gG) (ad : Nat → Nat) (hI : gI G.2.2.1 55 ad) (σ : gM) (spot : Int32) (glove : Int32) (N : Nat) (hN : N ≤ 8) (hs : σ 8 0 = nI N) : gMutI l yX6_hold cX6_hold 3 (some .int) rm_yX6_hold G [.ref (ad 44), .int spot, .int glove] 55 ad (shX G ad) σ (x_hold σ spot glove) := by
  refine g_start [.ref (ad 44), .int spot, .int glove] (by decide +kernel) (Nat.le_of_ble_eq_true rfl) ?_
  intro p e s m below meth c ls B Z hl
  obtain ⟨C, hr, hlk⟩ := B
  have hx := C.1
  have hb := C.2.1
  obtain ⟨hX, hP⟩ := Z
  have hS : va_S (gA 55 ad) s.heap s.heap [] := va_S.rf
  revert hP hS
  intro hP hS
  have hl : lv_has ls 3 [(0, .ref (ad 44)), (1, .int spot), (2, .int glove)] := hl
  refine lv_iload_n hx hb dX6_hold_0 rfl (lv_at hl 1 rfl) ?_
  refine lv_bipush (v := 9) hx hb dX6_hold_1 (by decide) ?_
  refine g_rd (g_runS (As := [.int spot, .int 9]) (rest := []) ky_yX6_isWithin lk_RX6_51 C (c_yX6_isWithin l spot 9) ⟨rfl, rfl, by decide, by decide⟩ rfl hl.1 rfl (Nat.le_of_ble_eq_true rfl) ⟨Nat.zero_le _, Nat.zero_le _⟩ dX6_hold_3) ?_
  refine lv_if_eq (tgt := 25) hx hb dX6_hold_6 (by decide) (fun c1 => ?_) (fun c1 => ?_)
  · refine lv_aload_n hx hb dX6_hold_25 rfl (lv_at hl 0 rfl) ?_
    refine lv_ldc hx hb C.2.2.2.1 (C.2.2.2.2 _ kc_RX6_59) dX6_hold_26 ?_
    refine g_wrI0 hS (g_runV (As := [.int (-1000001)]) (rest := []) ky_yX6_finding lk_RX6_60 C hX (gS_b0 hI hS) hP 44 (c_yX6_finding l G ad hI σ (-1000001)) (by decide) (shX_44 G ad _) ⟨rfl, rfl, by decide, by decide⟩ rfl hl.1 rfl (Nat.le_of_ble_eq_true rfl) ⟨Nat.zero_le _, Nat.zero_le _⟩ dX6_hold_28) (fun H locs hP hS => ?_)
    exact g_iretM C hr hlk rfl (by rw [x_hold, if_pos c1]) hP hS dX6_hold_31
  · obtain ⟨hp1, hp2⟩ := isW_of (M := 9) (by decide) c1
    refine lv_iload_n hx hb dX6_hold_9 rfl (lv_at hl 2 rfl) ?_
    refine lv_iconst (v := (-1)) hx hb dX6_hold_10 (by decide) ?_
    refine lv_icmp_eq (tgt := 32) hx hb dX6_hold_11 (by decide) (fun c2 => ?_) (fun c2 => ?_)
    · refine lv_aload_n hx hb dX6_hold_32 rfl (lv_at hl 0 rfl) ?_
      refine g_get fd_RX6_12 C hX hP 44 (by decide) (shX_44 G ad _) (v := .ref (ad 8)) rfl dX6_hold_33 ?_
      refine g_get fd_RX6_244 C hX hP 8 (by decide) (shX_8 G ad _) (v := .ref (ad 10)) rfl dX6_hold_36 ?_
      refine lv_iload_n hx hb dX6_hold_39 rfl (lv_at hl 1 rfl) ?_
      refine lv_as (y := (nI (nN spot))) hp1 ?_
      refine lv_iload_n hx hb dX6_hold_40 rfl (lv_at hl 2 rfl) ?_
      refine g_iast C hX hI hP hS 10 (by decide) (shX_10 G ad _) (nN spot) (by omega) (by decide) (upd (σ 10) (nN spot) glove) rfl dX6_hold_41 (fun H locs hP hS => ?_)
      have hP : gP G.1 55 ad (gE (shX G ad) (mset σ 10 (nN spot) glove)) H := hP
      refine lv_iconst (v := 1) hx hb dX6_hold_42 (by decide) ?_
      exact g_iretM C hr hlk rfl (by rw [x_hold, if_neg c1, if_pos c2]) hP hS dX6_hold_43
    · refine lv_aload_n hx hb dX6_hold_14 rfl (lv_at hl 0 rfl) ?_
      refine g_get fd_RX6_12 C hX hP 44 (by decide) (shX_44 G ad _) (v := .ref (ad 8)) rfl dX6_hold_15 ?_
      refine lv_iload_n hx hb dX6_hold_18 rfl (lv_at hl 2 rfl) ?_
      refine g_rd (g_runV (As := [.int glove]) (rest := []) ky_yX0_has lk_RX6_88 C hX (gS_b0 hI hS) (hP.sub (sh1 := (shC G (fun q_ => ad (0 + q_)))) 0 12 (by omega) (shX_club G ad)) 8 (c_yX0_has l G (fun q_ => ad (0 + q_)) (hI.sub (m := 12) 0 (by omega)) (mget σ 0) glove) (by decide) (shC_8 G (fun q_ => ad (0 + q_)) _) ⟨rfl, rfl, by decide, by decide⟩ rfl hl.1 rfl (Nat.le_of_ble_eq_true rfl) ⟨Nat.zero_le _, Nat.zero_le _⟩ dX6_hold_19) ?_
      refine lv_if_ne (tgt := 32) hx hb dX6_hold_22 (by decide) (fun c3 => ?_) (fun c3 => ?_)
      · refine lv_aload_n hx hb dX6_hold_32 rfl (lv_at hl 0 rfl) ?_
        refine g_get fd_RX6_12 C hX hP 44 (by decide) (shX_44 G ad _) (v := .ref (ad 8)) rfl dX6_hold_33 ?_
        refine g_get fd_RX6_244 C hX hP 8 (by decide) (shX_8 G ad _) (v := .ref (ad 10)) rfl dX6_hold_36 ?_
        refine lv_iload_n hx hb dX6_hold_39 rfl (lv_at hl 1 rfl) ?_
        refine lv_as (y := (nI (nN spot))) hp1 ?_
        refine lv_iload_n hx hb dX6_hold_40 rfl (lv_at hl 2 rfl) ?_
        refine g_iast C hX hI hP hS 10 (by decide) (shX_10 G ad _) (nN spot) (by omega) (by decide) (upd (σ 10) (nN spot) glove) rfl dX6_hold_41 (fun H locs hP hS => ?_)
        have hP : gP G.1 55 ad (gE (shX G ad) (mset σ 10 (nN spot) glove)) H := hP
        refine lv_iconst (v := 1) hx hb dX6_hold_42 (by decide) ?_
        exact g_iretM C hr hlk rfl (by rw [x_hold, if_neg c1, if_neg c2, if_neg c3]) hP hS dX6_hold_43
      · refine lv_aload_n hx hb dX6_hold_25 rfl (lv_at hl 0 rfl) ?_
        refine lv_ldc hx hb C.2.2.2.1 (C.2.2.2.2 _ kc_RX6_59) dX6_hold_26 ?_
        refine g_wrI0 hS (g_runV (As := [.int (-1000001)]) (rest := []) ky_yX6_finding lk_RX6_60 C hX (gS_b0 hI hS) hP 44 (c_yX6_finding l G ad hI σ (-1000001)) (by decide) (shX_44 G ad _) ⟨rfl, rfl, by decide, by decide⟩ rfl hl.1 rfl (Nat.le_of_ble_eq_true rfl) ⟨Nat.zero_le _, Nat.zero_le _⟩ dX6_hold_28) (fun H locs hP hS => ?_)
        exact g_iretM C hr hlk rfl (by rw [x_hold, if_neg c1, if_neg c2, if_pos c3]) hP hS dX6_hold_31

def x_as (σ : gM) (spot : Int32) (kind : Int32) : Int32 × gM := if (x_isWithin spot 9) = 0 then ((x_finding σ (-1000001)).1, (x_finding σ (-1000001)).2) else (if (x_isWithin kind 6) = 0 then ((x_finding σ (-1000001)).1, (x_finding σ (-1000001)).2) else (if (x_has0 (mget σ 0) (σ 10 (nN spot))) = 0 then ((x_finding σ (-1000006)).1, (x_finding σ (-1000006)).2) else (if (x_isA1 (mget σ (nN (σ 10 (nN spot)))) kind) = 0 then ((x_finding σ (-1000003)).1, (x_finding σ (-1000003)).2) else ((σ 10 (nN spot)), σ))))
def rm_yX6_as : Room := { frames := 2, cells := 0, slots := 0, locals := 44 }
set_option maxHeartbeats 4000000 in
set_option maxRecDepth 100000 in
theorem c_yX6_as (l : Launch) (G : gG) (ad : Nat → Nat) (hI : gI G.2.2.1 55 ad) (σ : gM) (spot : Int32) (kind : Int32) (N : Nat) (hN : N ≤ 8) (hs : σ 8 0 = nI N) : gMutI l yX6_as cX6_as 4 (some .int) rm_yX6_as G [.ref (ad 44), .int spot, .int kind] 55 ad (shX G ad) σ (x_as σ spot kind) := by
  refine g_start [.ref (ad 44), .int spot, .int kind] (by decide +kernel) (Nat.le_of_ble_eq_true rfl) ?_
  intro p e s m below meth c ls B Z hl
  obtain ⟨C, hr, hlk⟩ := B
  have hx := C.1
  have hb := C.2.1
  obtain ⟨hX, hP⟩ := Z
  have hS : va_S (gA 55 ad) s.heap s.heap [] := va_S.rf
  revert hP hS
  intro hP hS
  have hl : lv_has ls 4 [(0, .ref (ad 44)), (1, .int spot), (2, .int kind)] := hl
  refine lv_iload_n hx hb dX6_as_0 rfl (lv_at hl 1 rfl) ?_
  refine lv_bipush (v := 9) hx hb dX6_as_1 (by decide) ?_
  refine g_rd (g_runS (As := [.int spot, .int 9]) (rest := []) ky_yX6_isWithin lk_RX6_51 C (c_yX6_isWithin l spot 9) ⟨rfl, rfl, by decide, by decide⟩ rfl hl.1 rfl (Nat.le_of_ble_eq_true rfl) ⟨Nat.zero_le _, Nat.zero_le _⟩ dX6_as_3) ?_
  refine lv_if_eq (tgt := 18) hx hb dX6_as_6 (by decide) (fun c1 => ?_) (fun c1 => ?_)
  · refine lv_aload_n hx hb dX6_as_18 rfl (lv_at hl 0 rfl) ?_
    refine lv_ldc hx hb C.2.2.2.1 (C.2.2.2.2 _ kc_RX6_59) dX6_as_19 ?_
    refine g_wrI0 hS (g_runV (As := [.int (-1000001)]) (rest := []) ky_yX6_finding lk_RX6_60 C hX (gS_b0 hI hS) hP 44 (c_yX6_finding l G ad hI σ (-1000001)) (by decide) (shX_44 G ad _) ⟨rfl, rfl, by decide, by decide⟩ rfl hl.1 rfl (Nat.le_of_ble_eq_true rfl) ⟨Nat.zero_le _, Nat.zero_le _⟩ dX6_as_21) (fun H locs hP hS => ?_)
    exact g_iretM C hr hlk rfl (by rw [x_as, if_pos c1]) hP hS dX6_as_24
  · obtain ⟨hp1, hp2⟩ := isW_of (M := 9) (by decide) c1
    refine lv_iload_n hx hb dX6_as_9 rfl (lv_at hl 2 rfl) ?_
    refine lv_bipush (v := 6) hx hb dX6_as_10 (by decide) ?_
    refine g_rd (g_runS (As := [.int kind, .int 6]) (rest := []) ky_yX6_isWithin lk_RX6_51 C (c_yX6_isWithin l kind 6) ⟨rfl, rfl, by decide, by decide⟩ rfl hl.1 rfl (Nat.le_of_ble_eq_true rfl) ⟨Nat.zero_le _, Nat.zero_le _⟩ dX6_as_12) ?_
    refine lv_if_ne (tgt := 25) hx hb dX6_as_15 (by decide) (fun c2 => ?_) (fun c2 => ?_)
    · refine lv_aload_n hx hb dX6_as_25 rfl (lv_at hl 0 rfl) ?_
      refine g_get fd_RX6_12 C hX hP 44 (by decide) (shX_44 G ad _) (v := .ref (ad 8)) rfl dX6_as_26 ?_
      refine g_get fd_RX6_244 C hX hP 8 (by decide) (shX_8 G ad _) (v := .ref (ad 10)) rfl dX6_as_29 ?_
      refine lv_iload_n hx hb dX6_as_32 rfl (lv_at hl 1 rfl) ?_
      refine lv_as (y := (nI (nN spot))) hp1 ?_
      refine g_iald C hX hP 10 (by decide) (shX_10 G ad _) (nN spot) (by omega) (by decide) dX6_as_33 ?_
      refine lv_istore_n (lv' := [(3, .int (σ 10 (nN spot))), (0, .ref (ad 44)), (1, .int spot), (2, .int kind)]) hx hb dX6_as_34 rfl hl (by decide) rfl (fun ls hl => ?_)
      refine lv_aload_n hx hb dX6_as_35 rfl (lv_at hl 1 rfl) ?_
      refine g_get fd_RX6_12 C hX hP 44 (by decide) (shX_44 G ad _) (v := .ref (ad 8)) rfl dX6_as_36 ?_
      refine lv_iload_n hx hb dX6_as_39 rfl (lv_at hl 0 rfl) ?_
      refine g_rd (g_runV (As := [.int (σ 10 (nN spot))]) (rest := []) ky_yX0_has lk_RX6_88 C hX (gS_b0 hI hS) (hP.sub (sh1 := (shC G (fun q_ => ad (0 + q_)))) 0 12 (by omega) (shX_club G ad)) 8 (c_yX0_has l G (fun q_ => ad (0 + q_)) (hI.sub (m := 12) 0 (by omega)) (mget σ 0) (σ 10 (nN spot))) (by decide) (shC_8 G (fun q_ => ad (0 + q_)) _) ⟨rfl, rfl, by decide, by decide⟩ rfl hl.1 rfl (Nat.le_of_ble_eq_true rfl) ⟨Nat.zero_le _, Nat.zero_le _⟩ dX6_as_40) ?_
      refine lv_if_ne (tgt := 53) hx hb dX6_as_43 (by decide) (fun c3 => ?_) (fun c3 => ?_)
      · obtain ⟨hv1, hv2⟩ := has_of hN hs c3
        refine lv_aload_n hx hb dX6_as_53 rfl (lv_at hl 1 rfl) ?_
        refine g_get fd_RX6_12 C hX hP 44 (by decide) (shX_44 G ad _) (v := .ref (ad 8)) rfl dX6_as_54 ?_
        refine g_get fd_RX6_96 C hX hP 8 (by decide) (shX_8 G ad _) (v := .ref (ad 11)) rfl dX6_as_57 ?_
        refine lv_iload_n hx hb dX6_as_60 rfl (lv_at hl 0 rfl) ?_
        refine lv_as (y := (nI (nN (σ 10 (nN spot))))) hv1 ?_
        refine g_aald (t0 := 2) C hX hP 11 (by decide) (shX_11 G ad _) rfl (nN (σ 10 (nN spot))) (by omega) (by decide) rfl dX6_as_61 ?_
        refine lv_iload_n hx hb dX6_as_62 rfl (lv_at hl 3 rfl) ?_
        refine g_rd (g_runV (As := [.int kind]) (rest := []) ky_yX1_isA lk_RX6_248 C hX (gS_b0 hI hS) (hP.sub (sh1 := shG) (nN (σ 10 (nN spot))) 1 (by omega) (shX_glove G ad (by omega))) 0 (c_yX1_isA l G (fun q_ => ad ((nN (σ 10 (nN spot))) + q_)) (hI.sub (m := 1) (nN (σ 10 (nN spot))) (by omega)) (mget σ (nN (σ 10 (nN spot)))) kind) (by decide) (shG_g _) ⟨rfl, rfl, by decide, by decide⟩ rfl hl.1 rfl (Nat.le_of_ble_eq_true rfl) ⟨Nat.zero_le _, Nat.zero_le _⟩ dX6_as_63) ?_
        refine lv_if_eq (tgt := 73) hx hb dX6_as_66 (by decide) (fun c4 => ?_) (fun c4 => ?_)
        · refine lv_aload_n hx hb dX6_as_73 rfl (lv_at hl 1 rfl) ?_
          refine lv_ldc hx hb C.2.2.2.1 (C.2.2.2.2 _ kc_RX6_251) dX6_as_74 ?_
          refine g_wrI0 hS (g_runV (As := [.int (-1000003)]) (rest := []) ky_yX6_finding lk_RX6_60 C hX (gS_b0 hI hS) hP 44 (c_yX6_finding l G ad hI σ (-1000003)) (by decide) (shX_44 G ad _) ⟨rfl, rfl, by decide, by decide⟩ rfl hl.1 rfl (Nat.le_of_ble_eq_true rfl) ⟨Nat.zero_le _, Nat.zero_le _⟩ dX6_as_76) (fun H locs hP hS => ?_)
          exact g_iretM C hr hlk rfl (by rw [x_as, if_neg c1, if_neg c2, if_neg c3, if_pos c4]) hP hS dX6_as_79
        · refine lv_iload_n hx hb dX6_as_69 rfl (lv_at hl 0 rfl) ?_
          refine lv_goto (tgt := 79) hx hb dX6_as_70 (by decide) ?_
          exact g_iretM C hr hlk rfl (by rw [x_as, if_neg c1, if_neg c2, if_neg c3, if_neg c4]) hP hS dX6_as_79
      · refine lv_aload_n hx hb dX6_as_46 rfl (lv_at hl 1 rfl) ?_
        refine lv_ldc hx hb C.2.2.2.1 (C.2.2.2.2 _ kc_RX6_247) dX6_as_47 ?_
        refine g_wrI0 hS (g_runV (As := [.int (-1000006)]) (rest := []) ky_yX6_finding lk_RX6_60 C hX (gS_b0 hI hS) hP 44 (c_yX6_finding l G ad hI σ (-1000006)) (by decide) (shX_44 G ad _) ⟨rfl, rfl, by decide, by decide⟩ rfl hl.1 rfl (Nat.le_of_ble_eq_true rfl) ⟨Nat.zero_le _, Nat.zero_le _⟩ dX6_as_49) (fun H locs hP hS => ?_)
        exact g_iretM C hr hlk rfl (by rw [x_as, if_neg c1, if_neg c2, if_pos c3]) hP hS dX6_as_52
    · refine lv_aload_n hx hb dX6_as_18 rfl (lv_at hl 0 rfl) ?_
      refine lv_ldc hx hb C.2.2.2.1 (C.2.2.2.2 _ kc_RX6_59) dX6_as_19 ?_
      refine g_wrI0 hS (g_runV (As := [.int (-1000001)]) (rest := []) ky_yX6_finding lk_RX6_60 C hX (gS_b0 hI hS) hP 44 (c_yX6_finding l G ad hI σ (-1000001)) (by decide) (shX_44 G ad _) ⟨rfl, rfl, by decide, by decide⟩ rfl hl.1 rfl (Nat.le_of_ble_eq_true rfl) ⟨Nat.zero_le _, Nat.zero_le _⟩ dX6_as_21) (fun H locs hP hS => ?_)
      exact g_iretM C hr hlk rfl (by rw [x_as, if_neg c1, if_pos c2]) hP hS dX6_as_24

def x_sheet (σ : gM) (sn : Int32) (bits : Int32) (size : Int32) : Int32 × gM := if (x_isSheet sn) = 0 then ((x_finding σ (-1000001)).1, (x_finding σ (-1000001)).2) else (if bits = 0 then (if 0 ≤ size then (if size ≤ 40 then (((mput σ (47 + 2 * (nN sn)) 2 (x_layOut2 (mget σ (47 + 2 * (nN sn))) bits 0)) (47 + 2 * (nN sn)) 1), (mput σ (47 + 2 * (nN sn)) 2 (x_layOut2 (mget σ (47 + 2 * (nN sn))) bits 0))) else ((x_finding σ (-1000001)).1, (x_finding σ (-1000001)).2)) else ((x_finding σ (-1000007)).1, (x_finding σ (-1000007)).2)) else (if bits = 8 then (if 0 ≤ size then (if size ≤ 40 then (((mput σ (47 + 2 * (nN sn)) 2 (x_layOut2 (mget σ (47 + 2 * (nN sn))) bits (nN size))) (47 + 2 * (nN sn)) 1), (mput σ (47 + 2 * (nN sn)) 2 (x_layOut2 (mget σ (47 + 2 * (nN sn))) bits (nN size)))) else ((x_finding σ (-1000001)).1, (x_finding σ (-1000001)).2)) else ((x_finding σ (-1000007)).1, (x_finding σ (-1000007)).2)) else (if bits = 16 then (if 0 ≤ size then (if size ≤ 40 then (((mput σ (47 + 2 * (nN sn)) 2 (x_layOut2 (mget σ (47 + 2 * (nN sn))) bits (nN size))) (47 + 2 * (nN sn)) 1), (mput σ (47 + 2 * (nN sn)) 2 (x_layOut2 (mget σ (47 + 2 * (nN sn))) bits (nN size)))) else ((x_finding σ (-1000001)).1, (x_finding σ (-1000001)).2)) else ((x_finding σ (-1000007)).1, (x_finding σ (-1000007)).2)) else (if bits = 32 then (if 0 ≤ size then (if size ≤ 40 then (((mput σ (47 + 2 * (nN sn)) 2 (x_layOut2 (mget σ (47 + 2 * (nN sn))) bits (nN size))) (47 + 2 * (nN sn)) 1), (mput σ (47 + 2 * (nN sn)) 2 (x_layOut2 (mget σ (47 + 2 * (nN sn))) bits (nN size)))) else ((x_finding σ (-1000001)).1, (x_finding σ (-1000001)).2)) else ((x_finding σ (-1000007)).1, (x_finding σ (-1000007)).2)) else ((x_finding σ (-1000001)).1, (x_finding σ (-1000001)).2)))))
def rm_yX6_sheet : Room := { frames := 2, cells := 0, slots := 0, locals := 43 }
set_option maxHeartbeats 4000000 in
set_option maxRecDepth 100000 in
theorem c_yX6_sheet (l : Launch) (G : gG) (ad : Nat → Nat) (hI : gI G.2.2.1 55 ad) (σ : gM) (sn : Int32) (bits : Int32) (size : Int32) : gMutI l yX6_sheet cX6_sheet 4 (some .int) rm_yX6_sheet G [.ref (ad 44), .int sn, .int bits, .int size] 55 ad (shX G ad) σ (x_sheet σ sn bits size) := by
  refine g_start [.ref (ad 44), .int sn, .int bits, .int size] (by decide +kernel) (Nat.le_of_ble_eq_true rfl) ?_
  intro p e s m below meth c ls B Z hl
  obtain ⟨C, hr, hlk⟩ := B
  have hx := C.1
  have hb := C.2.1
  obtain ⟨hX, hP⟩ := Z
  have hS : va_S (gA 55 ad) s.heap s.heap [] := va_S.rf
  revert hP hS
  intro hP hS
  have hl : lv_has ls 4 [(0, .ref (ad 44)), (1, .int sn), (2, .int bits), (3, .int size)] := hl
  refine lv_iload_n hx hb dX6_sheet_0 rfl (lv_at hl 1 rfl) ?_
  refine g_rd (g_runS (As := [.int sn]) (rest := []) ky_yX6_isSheet lk_RX6_252 C (c_yX6_isSheet l sn) ⟨rfl, rfl, by decide, by decide⟩ rfl hl.1 rfl (Nat.le_of_ble_eq_true rfl) ⟨Nat.zero_le _, Nat.zero_le _⟩ dX6_sheet_1) ?_
  refine lv_if_eq (tgt := 29) hx hb dX6_sheet_4 (by decide) (fun c1 => ?_) (fun c1 => ?_)
  · refine lv_aload_n hx hb dX6_sheet_29 rfl (lv_at hl 0 rfl) ?_
    refine lv_ldc hx hb C.2.2.2.1 (C.2.2.2.2 _ kc_RX6_59) dX6_sheet_30 ?_
    refine g_wrI0 hS (g_runV (As := [.int (-1000001)]) (rest := []) ky_yX6_finding lk_RX6_60 C hX (gS_b0 hI hS) hP 44 (c_yX6_finding l G ad hI σ (-1000001)) (by decide) (shX_44 G ad _) ⟨rfl, rfl, by decide, by decide⟩ rfl hl.1 rfl (Nat.le_of_ble_eq_true rfl) ⟨Nat.zero_le _, Nat.zero_le _⟩ dX6_sheet_32) (fun H locs hP hS => ?_)
    exact g_iretM C hr hlk rfl (by rw [x_sheet, if_pos c1]) hP hS dX6_sheet_35
  · obtain ⟨hh1, hh2⟩ := isW_of (M := 3) (by decide) c1
    refine lv_iload_n hx hb dX6_sheet_7 rfl (lv_at hl 2 rfl) ?_
    refine lv_if_eq (tgt := 36) hx hb dX6_sheet_8 (by decide) (fun c2 => ?_) (fun c2 => ?_)
    · refine lv_iload_n hx hb dX6_sheet_36 rfl (lv_at hl 3 rfl) ?_
      refine lv_if_ge (tgt := 47) hx hb dX6_sheet_37 (by decide) (fun c3 => ?_) (fun c3 => ?_)
      · have hge := c3
        refine lv_iload_n hx hb dX6_sheet_47 rfl (lv_at hl 3 rfl) ?_
        refine lv_bipush (v := 40) hx hb dX6_sheet_48 (by decide) ?_
        refine lv_icmp_le (tgt := 60) hx hb dX6_sheet_50 (by decide) (fun c4 => ?_) (fun c4 => ?_)
        · obtain ⟨hz1, hz2⟩ := nat_le (M := 41) (Int32.not_lt.mpr hge) c4 (by decide)
          refine lv_aload_n hx hb dX6_sheet_60 rfl (lv_at hl 0 rfl) ?_
          refine g_get fd_RX6_42 C hX hP 44 (by decide) (shX_44 G ad _) (v := .ref (ad 46)) rfl dX6_sheet_61 ?_
          refine lv_iload_n hx hb dX6_sheet_64 rfl (lv_at hl 1 rfl) ?_
          refine lv_as (y := (nI (nN sn))) hh1 ?_
          refine g_aald (t0 := 3) C hX hP 46 (by decide) (shX_46 G ad _) rfl (nN sn) (by omega) (by decide) rfl dX6_sheet_65 ?_
          refine lv_iload_n hx hb dX6_sheet_66 rfl (lv_at hl 2 rfl) ?_
          refine lv_iload_n hx hb dX6_sheet_67 rfl (lv_at hl 2 rfl) ?_
          refine lv_if_ne (tgt := 75) hx hb dX6_sheet_68 (by decide) (fun c5 => ?_) (fun c5 => ?_)
          · exact absurd c2 c5
          · refine lv_iconst (v := 0) hx hb dX6_sheet_71 (by decide) ?_
            refine lv_goto (tgt := 76) hx hb dX6_sheet_72 (by decide) ?_
            refine g_wrV (o := (47 + 2 * (nN sn))) (m1 := 2) (by omega) (shX_sheet G ad (by omega)) hI hP hS (g_runV (As := [.int bits, .int 0]) (rest := []) ky_yX2_layOut lk_RX6_256 C hX (gS_b0 hI hS) (hP.sub (sh1 := (shS G (fun q_ => ad ((47 + 2 * (nN sn)) + q_)))) (47 + 2 * (nN sn)) 2 (by omega) (shX_sheet G ad (by omega))) 0 (c_yX2_layOut l G (fun q_ => ad ((47 + 2 * (nN sn)) + q_)) (hI.sub (m := 2) (47 + 2 * (nN sn)) (by omega)) (mget σ (47 + 2 * (nN sn))) bits 0 (by decide)) (by decide) (shS_0 G (fun q_ => ad ((47 + 2 * (nN sn)) + q_)) _) ⟨rfl, rfl, by decide, by decide⟩ rfl hl.1 rfl (Nat.le_of_ble_eq_true rfl) ⟨Nat.zero_le _, Nat.zero_le _⟩ dX6_sheet_76) (fun H locs hP hS => ?_)
            refine lv_aload_n hx hb dX6_sheet_79 rfl (lv_at hl 0 rfl) ?_
            refine g_get fd_RX6_42 C hX hP 44 (by decide) (shX_44 G ad _) (v := .ref (ad 46)) rfl dX6_sheet_80 ?_
            refine lv_iload_n hx hb dX6_sheet_83 rfl (lv_at hl 1 rfl) ?_
            refine lv_as (y := (nI (nN sn))) hh1 ?_
            refine g_aald (t0 := 3) C hX hP 46 (by decide) (shX_46 G ad _) rfl (nN sn) (by omega) (by decide) rfl dX6_sheet_84 ?_
            refine g_get fd_RX6_219 C hX hP (47 + 2 * (nN sn)) (by omega) (shX_s G ad (by omega) _) (v := .int ((mput σ (47 + 2 * (nN sn)) 2 (x_layOut2 (mget σ (47 + 2 * (nN sn))) bits 0)) (47 + 2 * (nN sn)) 1)) rfl dX6_sheet_85 ?_
            exact g_iretM C hr hlk rfl (by rw [x_sheet, if_neg c1, if_pos c2, if_pos c3, if_pos c4]) hP hS dX6_sheet_88
        · refine lv_aload_n hx hb dX6_sheet_53 rfl (lv_at hl 0 rfl) ?_
          refine lv_ldc hx hb C.2.2.2.1 (C.2.2.2.2 _ kc_RX6_59) dX6_sheet_54 ?_
          refine g_wrI0 hS (g_runV (As := [.int (-1000001)]) (rest := []) ky_yX6_finding lk_RX6_60 C hX (gS_b0 hI hS) hP 44 (c_yX6_finding l G ad hI σ (-1000001)) (by decide) (shX_44 G ad _) ⟨rfl, rfl, by decide, by decide⟩ rfl hl.1 rfl (Nat.le_of_ble_eq_true rfl) ⟨Nat.zero_le _, Nat.zero_le _⟩ dX6_sheet_56) (fun H locs hP hS => ?_)
          exact g_iretM C hr hlk rfl (by rw [x_sheet, if_neg c1, if_pos c2, if_pos c3, if_neg c4]) hP hS dX6_sheet_59
      · refine lv_aload_n hx hb dX6_sheet_40 rfl (lv_at hl 0 rfl) ?_
        refine lv_ldc hx hb C.2.2.2.1 (C.2.2.2.2 _ kc_RX6_255) dX6_sheet_41 ?_
        refine g_wrI0 hS (g_runV (As := [.int (-1000007)]) (rest := []) ky_yX6_finding lk_RX6_60 C hX (gS_b0 hI hS) hP 44 (c_yX6_finding l G ad hI σ (-1000007)) (by decide) (shX_44 G ad _) ⟨rfl, rfl, by decide, by decide⟩ rfl hl.1 rfl (Nat.le_of_ble_eq_true rfl) ⟨Nat.zero_le _, Nat.zero_le _⟩ dX6_sheet_43) (fun H locs hP hS => ?_)
        exact g_iretM C hr hlk rfl (by rw [x_sheet, if_neg c1, if_pos c2, if_neg c3]) hP hS dX6_sheet_46
    · refine lv_iload_n hx hb dX6_sheet_11 rfl (lv_at hl 2 rfl) ?_
      refine lv_bipush (v := 8) hx hb dX6_sheet_12 (by decide) ?_
      refine lv_icmp_eq (tgt := 36) hx hb dX6_sheet_14 (by decide) (fun c6 => ?_) (fun c6 => ?_)
      · refine lv_iload_n hx hb dX6_sheet_36 rfl (lv_at hl 3 rfl) ?_
        refine lv_if_ge (tgt := 47) hx hb dX6_sheet_37 (by decide) (fun c7 => ?_) (fun c7 => ?_)
        · have hge := c7
          refine lv_iload_n hx hb dX6_sheet_47 rfl (lv_at hl 3 rfl) ?_
          refine lv_bipush (v := 40) hx hb dX6_sheet_48 (by decide) ?_
          refine lv_icmp_le (tgt := 60) hx hb dX6_sheet_50 (by decide) (fun c8 => ?_) (fun c8 => ?_)
          · obtain ⟨hz1, hz2⟩ := nat_le (M := 41) (Int32.not_lt.mpr hge) c8 (by decide)
            refine lv_aload_n hx hb dX6_sheet_60 rfl (lv_at hl 0 rfl) ?_
            refine g_get fd_RX6_42 C hX hP 44 (by decide) (shX_44 G ad _) (v := .ref (ad 46)) rfl dX6_sheet_61 ?_
            refine lv_iload_n hx hb dX6_sheet_64 rfl (lv_at hl 1 rfl) ?_
            refine lv_as (y := (nI (nN sn))) hh1 ?_
            refine g_aald (t0 := 3) C hX hP 46 (by decide) (shX_46 G ad _) rfl (nN sn) (by omega) (by decide) rfl dX6_sheet_65 ?_
            refine lv_iload_n hx hb dX6_sheet_66 rfl (lv_at hl 2 rfl) ?_
            refine lv_iload_n hx hb dX6_sheet_67 rfl (lv_at hl 2 rfl) ?_
            refine lv_if_ne (tgt := 75) hx hb dX6_sheet_68 (by decide) (fun c9 => ?_) (fun c9 => ?_)
            · refine lv_iload_n hx hb dX6_sheet_75 rfl (lv_at hl 3 rfl) ?_
              refine lv_as (y := (nI (nN size))) hz1 ?_
              refine g_wrV (o := (47 + 2 * (nN sn))) (m1 := 2) (by omega) (shX_sheet G ad (by omega)) hI hP hS (g_runV (As := [.int bits, .int (nI (nN size))]) (rest := []) ky_yX2_layOut lk_RX6_256 C hX (gS_b0 hI hS) (hP.sub (sh1 := (shS G (fun q_ => ad ((47 + 2 * (nN sn)) + q_)))) (47 + 2 * (nN sn)) 2 (by omega) (shX_sheet G ad (by omega))) 0 (c_yX2_layOut l G (fun q_ => ad ((47 + 2 * (nN sn)) + q_)) (hI.sub (m := 2) (47 + 2 * (nN sn)) (by omega)) (mget σ (47 + 2 * (nN sn))) bits (nN size) (by omega)) (by decide) (shS_0 G (fun q_ => ad ((47 + 2 * (nN sn)) + q_)) _) ⟨rfl, rfl, by decide, by decide⟩ rfl hl.1 rfl (Nat.le_of_ble_eq_true rfl) ⟨Nat.zero_le _, Nat.zero_le _⟩ dX6_sheet_76) (fun H locs hP hS => ?_)
              refine lv_aload_n hx hb dX6_sheet_79 rfl (lv_at hl 0 rfl) ?_
              refine g_get fd_RX6_42 C hX hP 44 (by decide) (shX_44 G ad _) (v := .ref (ad 46)) rfl dX6_sheet_80 ?_
              refine lv_iload_n hx hb dX6_sheet_83 rfl (lv_at hl 1 rfl) ?_
              refine lv_as (y := (nI (nN sn))) hh1 ?_
              refine g_aald (t0 := 3) C hX hP 46 (by decide) (shX_46 G ad _) rfl (nN sn) (by omega) (by decide) rfl dX6_sheet_84 ?_
              refine g_get fd_RX6_219 C hX hP (47 + 2 * (nN sn)) (by omega) (shX_s G ad (by omega) _) (v := .int ((mput σ (47 + 2 * (nN sn)) 2 (x_layOut2 (mget σ (47 + 2 * (nN sn))) bits (nN size))) (47 + 2 * (nN sn)) 1)) rfl dX6_sheet_85 ?_
              exact g_iretM C hr hlk rfl (by rw [x_sheet, if_neg c1, if_neg c2, if_pos c6, if_pos c7, if_pos c8]) hP hS dX6_sheet_88
            · exact absurd c9 c2
          · refine lv_aload_n hx hb dX6_sheet_53 rfl (lv_at hl 0 rfl) ?_
            refine lv_ldc hx hb C.2.2.2.1 (C.2.2.2.2 _ kc_RX6_59) dX6_sheet_54 ?_
            refine g_wrI0 hS (g_runV (As := [.int (-1000001)]) (rest := []) ky_yX6_finding lk_RX6_60 C hX (gS_b0 hI hS) hP 44 (c_yX6_finding l G ad hI σ (-1000001)) (by decide) (shX_44 G ad _) ⟨rfl, rfl, by decide, by decide⟩ rfl hl.1 rfl (Nat.le_of_ble_eq_true rfl) ⟨Nat.zero_le _, Nat.zero_le _⟩ dX6_sheet_56) (fun H locs hP hS => ?_)
            exact g_iretM C hr hlk rfl (by rw [x_sheet, if_neg c1, if_neg c2, if_pos c6, if_pos c7, if_neg c8]) hP hS dX6_sheet_59
        · refine lv_aload_n hx hb dX6_sheet_40 rfl (lv_at hl 0 rfl) ?_
          refine lv_ldc hx hb C.2.2.2.1 (C.2.2.2.2 _ kc_RX6_255) dX6_sheet_41 ?_
          refine g_wrI0 hS (g_runV (As := [.int (-1000007)]) (rest := []) ky_yX6_finding lk_RX6_60 C hX (gS_b0 hI hS) hP 44 (c_yX6_finding l G ad hI σ (-1000007)) (by decide) (shX_44 G ad _) ⟨rfl, rfl, by decide, by decide⟩ rfl hl.1 rfl (Nat.le_of_ble_eq_true rfl) ⟨Nat.zero_le _, Nat.zero_le _⟩ dX6_sheet_43) (fun H locs hP hS => ?_)
          exact g_iretM C hr hlk rfl (by rw [x_sheet, if_neg c1, if_neg c2, if_pos c6, if_neg c7]) hP hS dX6_sheet_46
      · refine lv_iload_n hx hb dX6_sheet_17 rfl (lv_at hl 2 rfl) ?_
        refine lv_bipush (v := 16) hx hb dX6_sheet_18 (by decide) ?_
        refine lv_icmp_eq (tgt := 36) hx hb dX6_sheet_20 (by decide) (fun c10 => ?_) (fun c10 => ?_)
        · refine lv_iload_n hx hb dX6_sheet_36 rfl (lv_at hl 3 rfl) ?_
          refine lv_if_ge (tgt := 47) hx hb dX6_sheet_37 (by decide) (fun c11 => ?_) (fun c11 => ?_)
          · have hge := c11
            refine lv_iload_n hx hb dX6_sheet_47 rfl (lv_at hl 3 rfl) ?_
            refine lv_bipush (v := 40) hx hb dX6_sheet_48 (by decide) ?_
            refine lv_icmp_le (tgt := 60) hx hb dX6_sheet_50 (by decide) (fun c12 => ?_) (fun c12 => ?_)
            · obtain ⟨hz1, hz2⟩ := nat_le (M := 41) (Int32.not_lt.mpr hge) c12 (by decide)
              refine lv_aload_n hx hb dX6_sheet_60 rfl (lv_at hl 0 rfl) ?_
              refine g_get fd_RX6_42 C hX hP 44 (by decide) (shX_44 G ad _) (v := .ref (ad 46)) rfl dX6_sheet_61 ?_
              refine lv_iload_n hx hb dX6_sheet_64 rfl (lv_at hl 1 rfl) ?_
              refine lv_as (y := (nI (nN sn))) hh1 ?_
              refine g_aald (t0 := 3) C hX hP 46 (by decide) (shX_46 G ad _) rfl (nN sn) (by omega) (by decide) rfl dX6_sheet_65 ?_
              refine lv_iload_n hx hb dX6_sheet_66 rfl (lv_at hl 2 rfl) ?_
              refine lv_iload_n hx hb dX6_sheet_67 rfl (lv_at hl 2 rfl) ?_
              refine lv_if_ne (tgt := 75) hx hb dX6_sheet_68 (by decide) (fun c13 => ?_) (fun c13 => ?_)
              · refine lv_iload_n hx hb dX6_sheet_75 rfl (lv_at hl 3 rfl) ?_
                refine lv_as (y := (nI (nN size))) hz1 ?_
                refine g_wrV (o := (47 + 2 * (nN sn))) (m1 := 2) (by omega) (shX_sheet G ad (by omega)) hI hP hS (g_runV (As := [.int bits, .int (nI (nN size))]) (rest := []) ky_yX2_layOut lk_RX6_256 C hX (gS_b0 hI hS) (hP.sub (sh1 := (shS G (fun q_ => ad ((47 + 2 * (nN sn)) + q_)))) (47 + 2 * (nN sn)) 2 (by omega) (shX_sheet G ad (by omega))) 0 (c_yX2_layOut l G (fun q_ => ad ((47 + 2 * (nN sn)) + q_)) (hI.sub (m := 2) (47 + 2 * (nN sn)) (by omega)) (mget σ (47 + 2 * (nN sn))) bits (nN size) (by omega)) (by decide) (shS_0 G (fun q_ => ad ((47 + 2 * (nN sn)) + q_)) _) ⟨rfl, rfl, by decide, by decide⟩ rfl hl.1 rfl (Nat.le_of_ble_eq_true rfl) ⟨Nat.zero_le _, Nat.zero_le _⟩ dX6_sheet_76) (fun H locs hP hS => ?_)
                refine lv_aload_n hx hb dX6_sheet_79 rfl (lv_at hl 0 rfl) ?_
                refine g_get fd_RX6_42 C hX hP 44 (by decide) (shX_44 G ad _) (v := .ref (ad 46)) rfl dX6_sheet_80 ?_
                refine lv_iload_n hx hb dX6_sheet_83 rfl (lv_at hl 1 rfl) ?_
                refine lv_as (y := (nI (nN sn))) hh1 ?_
                refine g_aald (t0 := 3) C hX hP 46 (by decide) (shX_46 G ad _) rfl (nN sn) (by omega) (by decide) rfl dX6_sheet_84 ?_
                refine g_get fd_RX6_219 C hX hP (47 + 2 * (nN sn)) (by omega) (shX_s G ad (by omega) _) (v := .int ((mput σ (47 + 2 * (nN sn)) 2 (x_layOut2 (mget σ (47 + 2 * (nN sn))) bits (nN size))) (47 + 2 * (nN sn)) 1)) rfl dX6_sheet_85 ?_
                exact g_iretM C hr hlk rfl (by rw [x_sheet, if_neg c1, if_neg c2, if_neg c6, if_pos c10, if_pos c11, if_pos c12]) hP hS dX6_sheet_88
              · exact absurd c13 c2
            · refine lv_aload_n hx hb dX6_sheet_53 rfl (lv_at hl 0 rfl) ?_
              refine lv_ldc hx hb C.2.2.2.1 (C.2.2.2.2 _ kc_RX6_59) dX6_sheet_54 ?_
              refine g_wrI0 hS (g_runV (As := [.int (-1000001)]) (rest := []) ky_yX6_finding lk_RX6_60 C hX (gS_b0 hI hS) hP 44 (c_yX6_finding l G ad hI σ (-1000001)) (by decide) (shX_44 G ad _) ⟨rfl, rfl, by decide, by decide⟩ rfl hl.1 rfl (Nat.le_of_ble_eq_true rfl) ⟨Nat.zero_le _, Nat.zero_le _⟩ dX6_sheet_56) (fun H locs hP hS => ?_)
              exact g_iretM C hr hlk rfl (by rw [x_sheet, if_neg c1, if_neg c2, if_neg c6, if_pos c10, if_pos c11, if_neg c12]) hP hS dX6_sheet_59
          · refine lv_aload_n hx hb dX6_sheet_40 rfl (lv_at hl 0 rfl) ?_
            refine lv_ldc hx hb C.2.2.2.1 (C.2.2.2.2 _ kc_RX6_255) dX6_sheet_41 ?_
            refine g_wrI0 hS (g_runV (As := [.int (-1000007)]) (rest := []) ky_yX6_finding lk_RX6_60 C hX (gS_b0 hI hS) hP 44 (c_yX6_finding l G ad hI σ (-1000007)) (by decide) (shX_44 G ad _) ⟨rfl, rfl, by decide, by decide⟩ rfl hl.1 rfl (Nat.le_of_ble_eq_true rfl) ⟨Nat.zero_le _, Nat.zero_le _⟩ dX6_sheet_43) (fun H locs hP hS => ?_)
            exact g_iretM C hr hlk rfl (by rw [x_sheet, if_neg c1, if_neg c2, if_neg c6, if_pos c10, if_neg c11]) hP hS dX6_sheet_46
        · refine lv_iload_n hx hb dX6_sheet_23 rfl (lv_at hl 2 rfl) ?_
          refine lv_bipush (v := 32) hx hb dX6_sheet_24 (by decide) ?_
          refine lv_icmp_eq (tgt := 36) hx hb dX6_sheet_26 (by decide) (fun c14 => ?_) (fun c14 => ?_)
          · refine lv_iload_n hx hb dX6_sheet_36 rfl (lv_at hl 3 rfl) ?_
            refine lv_if_ge (tgt := 47) hx hb dX6_sheet_37 (by decide) (fun c15 => ?_) (fun c15 => ?_)
            · have hge := c15
              refine lv_iload_n hx hb dX6_sheet_47 rfl (lv_at hl 3 rfl) ?_
              refine lv_bipush (v := 40) hx hb dX6_sheet_48 (by decide) ?_
              refine lv_icmp_le (tgt := 60) hx hb dX6_sheet_50 (by decide) (fun c16 => ?_) (fun c16 => ?_)
              · obtain ⟨hz1, hz2⟩ := nat_le (M := 41) (Int32.not_lt.mpr hge) c16 (by decide)
                refine lv_aload_n hx hb dX6_sheet_60 rfl (lv_at hl 0 rfl) ?_
                refine g_get fd_RX6_42 C hX hP 44 (by decide) (shX_44 G ad _) (v := .ref (ad 46)) rfl dX6_sheet_61 ?_
                refine lv_iload_n hx hb dX6_sheet_64 rfl (lv_at hl 1 rfl) ?_
                refine lv_as (y := (nI (nN sn))) hh1 ?_
                refine g_aald (t0 := 3) C hX hP 46 (by decide) (shX_46 G ad _) rfl (nN sn) (by omega) (by decide) rfl dX6_sheet_65 ?_
                refine lv_iload_n hx hb dX6_sheet_66 rfl (lv_at hl 2 rfl) ?_
                refine lv_iload_n hx hb dX6_sheet_67 rfl (lv_at hl 2 rfl) ?_
                refine lv_if_ne (tgt := 75) hx hb dX6_sheet_68 (by decide) (fun c17 => ?_) (fun c17 => ?_)
                · refine lv_iload_n hx hb dX6_sheet_75 rfl (lv_at hl 3 rfl) ?_
                  refine lv_as (y := (nI (nN size))) hz1 ?_
                  refine g_wrV (o := (47 + 2 * (nN sn))) (m1 := 2) (by omega) (shX_sheet G ad (by omega)) hI hP hS (g_runV (As := [.int bits, .int (nI (nN size))]) (rest := []) ky_yX2_layOut lk_RX6_256 C hX (gS_b0 hI hS) (hP.sub (sh1 := (shS G (fun q_ => ad ((47 + 2 * (nN sn)) + q_)))) (47 + 2 * (nN sn)) 2 (by omega) (shX_sheet G ad (by omega))) 0 (c_yX2_layOut l G (fun q_ => ad ((47 + 2 * (nN sn)) + q_)) (hI.sub (m := 2) (47 + 2 * (nN sn)) (by omega)) (mget σ (47 + 2 * (nN sn))) bits (nN size) (by omega)) (by decide) (shS_0 G (fun q_ => ad ((47 + 2 * (nN sn)) + q_)) _) ⟨rfl, rfl, by decide, by decide⟩ rfl hl.1 rfl (Nat.le_of_ble_eq_true rfl) ⟨Nat.zero_le _, Nat.zero_le _⟩ dX6_sheet_76) (fun H locs hP hS => ?_)
                  refine lv_aload_n hx hb dX6_sheet_79 rfl (lv_at hl 0 rfl) ?_
                  refine g_get fd_RX6_42 C hX hP 44 (by decide) (shX_44 G ad _) (v := .ref (ad 46)) rfl dX6_sheet_80 ?_
                  refine lv_iload_n hx hb dX6_sheet_83 rfl (lv_at hl 1 rfl) ?_
                  refine lv_as (y := (nI (nN sn))) hh1 ?_
                  refine g_aald (t0 := 3) C hX hP 46 (by decide) (shX_46 G ad _) rfl (nN sn) (by omega) (by decide) rfl dX6_sheet_84 ?_
                  refine g_get fd_RX6_219 C hX hP (47 + 2 * (nN sn)) (by omega) (shX_s G ad (by omega) _) (v := .int ((mput σ (47 + 2 * (nN sn)) 2 (x_layOut2 (mget σ (47 + 2 * (nN sn))) bits (nN size))) (47 + 2 * (nN sn)) 1)) rfl dX6_sheet_85 ?_
                  exact g_iretM C hr hlk rfl (by rw [x_sheet, if_neg c1, if_neg c2, if_neg c6, if_neg c10, if_pos c14, if_pos c15, if_pos c16]) hP hS dX6_sheet_88
                · exact absurd c17 c2
              · refine lv_aload_n hx hb dX6_sheet_53 rfl (lv_at hl 0 rfl) ?_
                refine lv_ldc hx hb C.2.2.2.1 (C.2.2.2.2 _ kc_RX6_59) dX6_sheet_54 ?_
                refine g_wrI0 hS (g_runV (As := [.int (-1000001)]) (rest := []) ky_yX6_finding lk_RX6_60 C hX (gS_b0 hI hS) hP 44 (c_yX6_finding l G ad hI σ (-1000001)) (by decide) (shX_44 G ad _) ⟨rfl, rfl, by decide, by decide⟩ rfl hl.1 rfl (Nat.le_of_ble_eq_true rfl) ⟨Nat.zero_le _, Nat.zero_le _⟩ dX6_sheet_56) (fun H locs hP hS => ?_)
                exact g_iretM C hr hlk rfl (by rw [x_sheet, if_neg c1, if_neg c2, if_neg c6, if_neg c10, if_pos c14, if_pos c15, if_neg c16]) hP hS dX6_sheet_59
            · refine lv_aload_n hx hb dX6_sheet_40 rfl (lv_at hl 0 rfl) ?_
              refine lv_ldc hx hb C.2.2.2.1 (C.2.2.2.2 _ kc_RX6_255) dX6_sheet_41 ?_
              refine g_wrI0 hS (g_runV (As := [.int (-1000007)]) (rest := []) ky_yX6_finding lk_RX6_60 C hX (gS_b0 hI hS) hP 44 (c_yX6_finding l G ad hI σ (-1000007)) (by decide) (shX_44 G ad _) ⟨rfl, rfl, by decide, by decide⟩ rfl hl.1 rfl (Nat.le_of_ble_eq_true rfl) ⟨Nat.zero_le _, Nat.zero_le _⟩ dX6_sheet_43) (fun H locs hP hS => ?_)
              exact g_iretM C hr hlk rfl (by rw [x_sheet, if_neg c1, if_neg c2, if_neg c6, if_neg c10, if_pos c14, if_neg c15]) hP hS dX6_sheet_46
          · refine lv_aload_n hx hb dX6_sheet_29 rfl (lv_at hl 0 rfl) ?_
            refine lv_ldc hx hb C.2.2.2.1 (C.2.2.2.2 _ kc_RX6_59) dX6_sheet_30 ?_
            refine g_wrI0 hS (g_runV (As := [.int (-1000001)]) (rest := []) ky_yX6_finding lk_RX6_60 C hX (gS_b0 hI hS) hP 44 (c_yX6_finding l G ad hI σ (-1000001)) (by decide) (shX_44 G ad _) ⟨rfl, rfl, by decide, by decide⟩ rfl hl.1 rfl (Nat.le_of_ble_eq_true rfl) ⟨Nat.zero_le _, Nat.zero_le _⟩ dX6_sheet_32) (fun H locs hP hS => ?_)
            exact g_iretM C hr hlk rfl (by rw [x_sheet, if_neg c1, if_neg c2, if_neg c6, if_neg c10, if_neg c14]) hP hS dX6_sheet_35

def x_write (σ : gM) (sn : Int32) (ix : Int32) (v : Int32) : Int32 × gM := if (x_lackOf σ sn) = 0 then (if (x_isWithin ix ((σ (47 + 2 * (nN sn)) 1) - 1)) = 0 then ((x_finding σ (-1000001)).1, (x_finding σ (-1000001)).2) else (1, (mput σ (47 + 2 * (nN sn)) 2 (x_setNumber2 (mget σ (47 + 2 * (nN sn))) (nN ix) v)))) else ((x_finding σ (x_lackOf σ sn)).1, (x_finding σ (x_lackOf σ sn)).2)
def rm_yX6_write : Room := { frames := 3, cells := 0, slots := 0, locals := 62 }
set_option maxHeartbeats 4000000 in
set_option maxRecDepth 100000 in
theorem c_yX6_write (l : Launch) (G : gG) (ad : Nat → Nat) (hI : gI G.2.2.1 55 ad) (σ : gM) (sn : Int32) (ix : Int32) (v : Int32) (hsz : ∀ j, j < 4 → ∃ Z, Z ≤ 40 ∧ σ (47 + 2 * j) 1 = nI Z) : gMutI l yX6_write cX6_write 5 (some .int) rm_yX6_write G [.ref (ad 44), .int sn, .int ix, .int v] 55 ad (shX G ad) σ (x_write σ sn ix v) := by
  refine g_start [.ref (ad 44), .int sn, .int ix, .int v] (by decide +kernel) (Nat.le_of_ble_eq_true rfl) ?_
  intro p e s m below meth c ls B Z hl
  obtain ⟨C, hr, hlk⟩ := B
  have hx := C.1
  have hb := C.2.1
  obtain ⟨hX, hP⟩ := Z
  have hS : va_S (gA 55 ad) s.heap s.heap [] := va_S.rf
  revert hP hS
  intro hP hS
  have hl : lv_has ls 5 [(0, .ref (ad 44)), (1, .int sn), (2, .int ix), (3, .int v)] := hl
  refine lv_aload_n hx hb dX6_write_0 rfl (lv_at hl 0 rfl) ?_
  refine lv_iload_n hx hb dX6_write_1 rfl (lv_at hl 1 rfl) ?_
  refine g_rd (g_runV (As := [.int sn]) (rest := []) ky_yX6_lackOf lk_RX6_212 C hX (gS_b0 hI hS) hP 44 (c_yX6_lackOf l G ad hI σ sn) (by decide) (shX_44 G ad _) ⟨rfl, rfl, by decide, by decide⟩ rfl hl.1 rfl (Nat.le_of_ble_eq_true rfl) ⟨Nat.zero_le _, Nat.zero_le _⟩ dX6_write_2) ?_
  refine lv_istore (lv' := [(4, .int (x_lackOf σ sn)), (0, .ref (ad 44)), (1, .int sn), (2, .int ix), (3, .int v)]) hx hb dX6_write_5 hl (by decide) rfl (fun ls hl => ?_)
  refine lv_iload hx hb dX6_write_7 (lv_at hl 0 rfl) ?_
  refine lv_if_eq (tgt := 19) hx hb dX6_write_9 (by decide) (fun c1 => ?_) (fun c1 => ?_)
  · obtain ⟨hh1, hh2, hh3⟩ := lack_ok c1
    obtain ⟨Z, hZ, hz⟩ := hsz _ hh2
    refine lv_iload_n hx hb dX6_write_19 rfl (lv_at hl 3 rfl) ?_
    refine lv_aload_n hx hb dX6_write_20 rfl (lv_at hl 1 rfl) ?_
    refine g_get fd_RX6_42 C hX hP 44 (by decide) (shX_44 G ad _) (v := .ref (ad 46)) rfl dX6_write_21 ?_
    refine lv_iload_n hx hb dX6_write_24 rfl (lv_at hl 2 rfl) ?_
    refine lv_as (y := (nI (nN sn))) hh1 ?_
    refine g_aald (t0 := 3) C hX hP 46 (by decide) (shX_46 G ad _) rfl (nN sn) (by omega) (by decide) rfl dX6_write_25 ?_
    refine g_get fd_RX6_219 C hX hP (47 + 2 * (nN sn)) (by omega) (shX_s G ad (by omega) _) (v := .int (σ (47 + 2 * (nN sn)) 1)) rfl dX6_write_26 ?_
    refine lv_iconst (v := 1) hx hb dX6_write_29 (by decide) ?_
    refine lv_isub hx hb dX6_write_30 ?_
    refine g_rd (g_runS (As := [.int ix, .int ((σ (47 + 2 * (nN sn)) 1) - 1)]) (rest := []) ky_yX6_isWithin lk_RX6_51 C (c_yX6_isWithin l ix ((σ (47 + 2 * (nN sn)) 1) - 1)) ⟨rfl, rfl, by decide, by decide⟩ rfl hl.1 rfl (Nat.le_of_ble_eq_true rfl) ⟨Nat.zero_le _, Nat.zero_le _⟩ dX6_write_31) ?_
    refine lv_if_ne (tgt := 44) hx hb dX6_write_34 (by decide) (fun c2 => ?_) (fun c2 => ?_)
    · obtain ⟨hi1, hi2⟩ := isW_of1 hz (by omega) c2
      refine lv_aload_n hx hb dX6_write_44 rfl (lv_at hl 1 rfl) ?_
      refine g_get fd_RX6_42 C hX hP 44 (by decide) (shX_44 G ad _) (v := .ref (ad 46)) rfl dX6_write_45 ?_
      refine lv_iload_n hx hb dX6_write_48 rfl (lv_at hl 2 rfl) ?_
      refine lv_as (y := (nI (nN sn))) hh1 ?_
      refine g_aald (t0 := 3) C hX hP 46 (by decide) (shX_46 G ad _) rfl (nN sn) (by omega) (by decide) rfl dX6_write_49 ?_
      refine lv_iload_n hx hb dX6_write_50 rfl (lv_at hl 3 rfl) ?_
      refine lv_as (y := (nI (nN ix))) hi1 ?_
      refine lv_iload_n hx hb dX6_write_51 rfl (lv_at hl 4 rfl) ?_
      refine g_wrV (o := (47 + 2 * (nN sn))) (m1 := 2) (by omega) (shX_sheet G ad (by omega)) hI hP hS (g_runV (As := [.int (nI (nN ix)), .int v]) (rest := []) ky_yX2_setNumber lk_RX6_259 C hX (gS_b0 hI hS) (hP.sub (sh1 := (shS G (fun q_ => ad ((47 + 2 * (nN sn)) + q_)))) (47 + 2 * (nN sn)) 2 (by omega) (shX_sheet G ad (by omega))) 0 (c_yX2_setNumber l G (fun q_ => ad ((47 + 2 * (nN sn)) + q_)) (hI.sub (m := 2) (47 + 2 * (nN sn)) (by omega)) (mget σ (47 + 2 * (nN sn))) (nN ix) v (by omega)) (by decide) (shS_0 G (fun q_ => ad ((47 + 2 * (nN sn)) + q_)) _) ⟨rfl, rfl, by decide, by decide⟩ rfl hl.1 rfl (Nat.le_of_ble_eq_true rfl) ⟨Nat.zero_le _, Nat.zero_le _⟩ dX6_write_52) (fun H locs hP hS => ?_)
      refine lv_iconst (v := 1) hx hb dX6_write_55 (by decide) ?_
      exact g_iretM C hr hlk rfl (by rw [x_write, if_pos c1, if_neg c2]) hP hS dX6_write_56
    · refine lv_aload_n hx hb dX6_write_37 rfl (lv_at hl 1 rfl) ?_
      refine lv_ldc hx hb C.2.2.2.1 (C.2.2.2.2 _ kc_RX6_59) dX6_write_38 ?_
      refine g_wrI0 hS (g_runV (As := [.int (-1000001)]) (rest := []) ky_yX6_finding lk_RX6_60 C hX (gS_b0 hI hS) hP 44 (c_yX6_finding l G ad hI σ (-1000001)) (by decide) (shX_44 G ad _) ⟨rfl, rfl, by decide, by decide⟩ rfl hl.1 rfl (Nat.le_of_ble_eq_true rfl) ⟨Nat.zero_le _, Nat.zero_le _⟩ dX6_write_40) (fun H locs hP hS => ?_)
      exact g_iretM C hr hlk rfl (by rw [x_write, if_pos c1, if_pos c2]) hP hS dX6_write_43
  · refine lv_aload_n hx hb dX6_write_12 rfl (lv_at hl 1 rfl) ?_
    refine lv_iload hx hb dX6_write_13 (lv_at hl 0 rfl) ?_
    refine g_wrI0 hS (g_runV (As := [.int (x_lackOf σ sn)]) (rest := []) ky_yX6_finding lk_RX6_60 C hX (gS_b0 hI hS) hP 44 (c_yX6_finding l G ad hI σ (x_lackOf σ sn)) (by decide) (shX_44 G ad _) ⟨rfl, rfl, by decide, by decide⟩ rfl hl.1 rfl (Nat.le_of_ble_eq_true rfl) ⟨Nat.zero_le _, Nat.zero_le _⟩ dX6_write_15) (fun H locs hP hS => ?_)
    exact g_iretM C hr hlk rfl (by rw [x_write, if_neg c1]) hP hS dX6_write_18

def x_copy (σ : gM) (sn : Int32) (frm : Int32) (tn : Int32) (to : Int32) (cnt : Int32) : Int32 × gM := if (x_isSheet sn) = 0 then ((x_finding σ (-1000001)).1, (x_finding σ (-1000001)).2) else (if (x_isSheet tn) = 0 then ((x_finding σ (-1000001)).1, (x_finding σ (-1000001)).2) else (if (x_isMissing2 (mget σ (47 + 2 * (nN sn)))) = 0 then (if (x_isMissing2 (mget σ (47 + 2 * (nN tn)))) = 0 then (if (σ (47 + 2 * (nN sn)) 0) = (σ (47 + 2 * (nN tn)) 0) then (if (x_hasRow2 (mget σ (47 + 2 * (nN sn))) frm cnt) = 0 then ((x_finding σ (-1000001)).1, (x_finding σ (-1000001)).2) else (if (x_hasRow2 (mget σ (47 + 2 * (nN tn))) to cnt) = 0 then ((x_finding σ (-1000001)).1, (x_finding σ (-1000001)).2) else (cnt, (va_up σ (48 + 2 * (nN tn)) (va_cpy (σ (48 + 2 * (nN sn))) (σ (48 + 2 * (nN tn))) (nN frm) (nN to) (nN cnt)))))) else ((x_finding σ (-1000003)).1, (x_finding σ (-1000003)).2)) else ((x_finding σ (-1000006)).1, (x_finding σ (-1000006)).2)) else ((x_finding σ (-1000006)).1, (x_finding σ (-1000006)).2)))
def rm_yX6_copy : Room := { frames := 2, cells := 0, slots := 0, locals := 80 }
set_option maxHeartbeats 4000000 in
set_option maxRecDepth 100000 in
theorem c_yX6_copy (l : Launch) (G : gG) (ad : Nat → Nat) (hI : gI G.2.2.1 55 ad) (σ : gM) (sn : Int32) (frm : Int32) (tn : Int32) (to : Int32) (cnt : Int32) (hsz : ∀ j, j < 4 → ∃ Z, Z ≤ 40 ∧ σ (47 + 2 * j) 1 = nI Z) : gMutI l yX6_copy cX6_copy 8 (some .int) rm_yX6_copy G [.ref (ad 44), .int sn, .int frm, .int tn, .int to, .int cnt] 55 ad (shX G ad) σ (x_copy σ sn frm tn to cnt) := by
  refine g_start [.ref (ad 44), .int sn, .int frm, .int tn, .int to, .int cnt] (by decide +kernel) (Nat.le_of_ble_eq_true rfl) ?_
  intro p e s m below meth c ls B Z hl
  obtain ⟨C, hr, hlk⟩ := B
  have hx := C.1
  have hb := C.2.1
  obtain ⟨hX, hP⟩ := Z
  have hS : va_S (gA 55 ad) s.heap s.heap [] := va_S.rf
  revert hP hS
  intro hP hS
  have hl : lv_has ls 8 [(0, .ref (ad 44)), (1, .int sn), (2, .int frm), (3, .int tn), (4, .int to), (5, .int cnt)] := hl
  refine lv_iload_n hx hb dX6_copy_0 rfl (lv_at hl 1 rfl) ?_
  refine g_rd (g_runS (As := [.int sn]) (rest := []) ky_yX6_isSheet lk_RX6_252 C (c_yX6_isSheet l sn) ⟨rfl, rfl, by decide, by decide⟩ rfl hl.1 rfl (Nat.le_of_ble_eq_true rfl) ⟨Nat.zero_le _, Nat.zero_le _⟩ dX6_copy_1) ?_
  refine lv_if_eq (tgt := 14) hx hb dX6_copy_4 (by decide) (fun c1 => ?_) (fun c1 => ?_)
  · refine lv_aload_n hx hb dX6_copy_14 rfl (lv_at hl 0 rfl) ?_
    refine lv_ldc hx hb C.2.2.2.1 (C.2.2.2.2 _ kc_RX6_59) dX6_copy_15 ?_
    refine g_wrI0 hS (g_runV (As := [.int (-1000001)]) (rest := []) ky_yX6_finding lk_RX6_60 C hX (gS_b0 hI hS) hP 44 (c_yX6_finding l G ad hI σ (-1000001)) (by decide) (shX_44 G ad _) ⟨rfl, rfl, by decide, by decide⟩ rfl hl.1 rfl (Nat.le_of_ble_eq_true rfl) ⟨Nat.zero_le _, Nat.zero_le _⟩ dX6_copy_17) (fun H locs hP hS => ?_)
    exact g_iretM C hr hlk rfl (by rw [x_copy, if_pos c1]) hP hS dX6_copy_20
  · obtain ⟨hh1, hh2⟩ := isW_of (M := 3) (by decide) c1
    refine lv_iload_n hx hb dX6_copy_7 rfl (lv_at hl 3 rfl) ?_
    refine g_rd (g_runS (As := [.int tn]) (rest := []) ky_yX6_isSheet lk_RX6_252 C (c_yX6_isSheet l tn) ⟨rfl, rfl, by decide, by decide⟩ rfl hl.1 rfl (Nat.le_of_ble_eq_true rfl) ⟨Nat.zero_le _, Nat.zero_le _⟩ dX6_copy_8) ?_
    refine lv_if_ne (tgt := 21) hx hb dX6_copy_11 (by decide) (fun c2 => ?_) (fun c2 => ?_)
    · obtain ⟨hj1, hj2⟩ := isW_of (M := 3) (by decide) c2
      refine lv_aload_n hx hb dX6_copy_21 rfl (lv_at hl 0 rfl) ?_
      refine g_get fd_RX6_42 C hX hP 44 (by decide) (shX_44 G ad _) (v := .ref (ad 46)) rfl dX6_copy_22 ?_
      refine lv_iload_n hx hb dX6_copy_25 rfl (lv_at hl 1 rfl) ?_
      refine lv_as (y := (nI (nN sn))) hh1 ?_
      refine g_aald (t0 := 3) C hX hP 46 (by decide) (shX_46 G ad _) rfl (nN sn) (by omega) (by decide) rfl dX6_copy_26 ?_
      refine lv_astore (lv' := [(6, .ref (ad (47 + 2 * (nN sn)))), (0, .ref (ad 44)), (1, .int sn), (2, .int frm), (3, .int tn), (4, .int to), (5, .int cnt)]) hx hb dX6_copy_27 hl (by decide) rfl (fun ls hl => ?_)
      refine lv_aload_n hx hb dX6_copy_29 rfl (lv_at hl 1 rfl) ?_
      refine g_get fd_RX6_42 C hX hP 44 (by decide) (shX_44 G ad _) (v := .ref (ad 46)) rfl dX6_copy_30 ?_
      refine lv_iload_n hx hb dX6_copy_33 rfl (lv_at hl 4 rfl) ?_
      refine lv_as (y := (nI (nN tn))) hj1 ?_
      refine g_aald (t0 := 3) C hX hP 46 (by decide) (shX_46 G ad _) rfl (nN tn) (by omega) (by decide) rfl dX6_copy_34 ?_
      refine lv_astore (lv' := [(7, .ref (ad (47 + 2 * (nN tn)))), (6, .ref (ad (47 + 2 * (nN sn)))), (0, .ref (ad 44)), (1, .int sn), (2, .int frm), (3, .int tn), (4, .int to), (5, .int cnt)]) hx hb dX6_copy_35 hl (by decide) rfl (fun ls hl => ?_)
      refine lv_aload hx hb dX6_copy_37 (lv_at hl 1 rfl) ?_
      refine g_rd (g_runV (As := []) (rest := []) ky_yX2_isMissing lk_RX6_262 C hX (gS_b0 hI hS) (hP.sub (sh1 := (shS G (fun q_ => ad ((47 + 2 * (nN sn)) + q_)))) (47 + 2 * (nN sn)) 2 (by omega) (shX_sheet G ad (by omega))) 0 (c_yX2_isMissing l G (fun q_ => ad ((47 + 2 * (nN sn)) + q_)) (hI.sub (m := 2) (47 + 2 * (nN sn)) (by omega)) (mget σ (47 + 2 * (nN sn))) ) (by decide) (shS_0 G (fun q_ => ad ((47 + 2 * (nN sn)) + q_)) _) ⟨rfl, rfl, by decide, by decide⟩ rfl hl.1 rfl (Nat.le_of_ble_eq_true rfl) ⟨Nat.zero_le _, Nat.zero_le _⟩ dX6_copy_39) ?_
      refine lv_if_ne (tgt := 53) hx hb dX6_copy_42 (by decide) (fun c3 => ?_) (fun c3 => ?_)
      · refine lv_aload_n hx hb dX6_copy_53 rfl (lv_at hl 2 rfl) ?_
        refine lv_ldc hx hb C.2.2.2.1 (C.2.2.2.2 _ kc_RX6_247) dX6_copy_54 ?_
        refine g_wrI0 hS (g_runV (As := [.int (-1000006)]) (rest := []) ky_yX6_finding lk_RX6_60 C hX (gS_b0 hI hS) hP 44 (c_yX6_finding l G ad hI σ (-1000006)) (by decide) (shX_44 G ad _) ⟨rfl, rfl, by decide, by decide⟩ rfl hl.1 rfl (Nat.le_of_ble_eq_true rfl) ⟨Nat.zero_le _, Nat.zero_le _⟩ dX6_copy_56) (fun H locs hP hS => ?_)
        exact g_iretM C hr hlk rfl (by rw [x_copy, if_neg c1, if_neg c2, if_neg c3]) hP hS dX6_copy_59
      · refine lv_aload hx hb dX6_copy_45 (lv_at hl 0 rfl) ?_
        refine g_rd (g_runV (As := []) (rest := []) ky_yX2_isMissing lk_RX6_262 C hX (gS_b0 hI hS) (hP.sub (sh1 := (shS G (fun q_ => ad ((47 + 2 * (nN tn)) + q_)))) (47 + 2 * (nN tn)) 2 (by omega) (shX_sheet G ad (by omega))) 0 (c_yX2_isMissing l G (fun q_ => ad ((47 + 2 * (nN tn)) + q_)) (hI.sub (m := 2) (47 + 2 * (nN tn)) (by omega)) (mget σ (47 + 2 * (nN tn))) ) (by decide) (shS_0 G (fun q_ => ad ((47 + 2 * (nN tn)) + q_)) _) ⟨rfl, rfl, by decide, by decide⟩ rfl hl.1 rfl (Nat.le_of_ble_eq_true rfl) ⟨Nat.zero_le _, Nat.zero_le _⟩ dX6_copy_47) ?_
        refine lv_if_eq (tgt := 60) hx hb dX6_copy_50 (by decide) (fun c4 => ?_) (fun c4 => ?_)
        · refine lv_aload hx hb dX6_copy_60 (lv_at hl 1 rfl) ?_
          refine g_get fd_RX6_266 C hX hP (47 + 2 * (nN sn)) (by omega) (shX_s G ad (by omega) _) (v := .int (σ (47 + 2 * (nN sn)) 0)) rfl dX6_copy_62 ?_
          refine lv_aload hx hb dX6_copy_65 (lv_at hl 0 rfl) ?_
          refine g_get fd_RX6_266 C hX hP (47 + 2 * (nN tn)) (by omega) (shX_s G ad (by omega) _) (v := .int (σ (47 + 2 * (nN tn)) 0)) rfl dX6_copy_67 ?_
          refine lv_icmp_eq (tgt := 80) hx hb dX6_copy_70 (by decide) (fun c5 => ?_) (fun c5 => ?_)
          · refine lv_aload hx hb dX6_copy_80 (lv_at hl 1 rfl) ?_
            refine lv_iload_n hx hb dX6_copy_82 rfl (lv_at hl 4 rfl) ?_
            refine lv_iload hx hb dX6_copy_83 (lv_at hl 7 rfl) ?_
            refine g_rd (g_runV (As := [.int frm, .int cnt]) (rest := []) ky_yX2_hasRow lk_RX6_269 C hX (gS_b0 hI hS) (hP.sub (sh1 := (shS G (fun q_ => ad ((47 + 2 * (nN sn)) + q_)))) (47 + 2 * (nN sn)) 2 (by omega) (shX_sheet G ad (by omega))) 0 (c_yX2_hasRow l G (fun q_ => ad ((47 + 2 * (nN sn)) + q_)) (hI.sub (m := 2) (47 + 2 * (nN sn)) (by omega)) (mget σ (47 + 2 * (nN sn))) frm cnt) (by decide) (shS_0 G (fun q_ => ad ((47 + 2 * (nN sn)) + q_)) _) ⟨rfl, rfl, by decide, by decide⟩ rfl hl.1 rfl (Nat.le_of_ble_eq_true rfl) ⟨Nat.zero_le _, Nat.zero_le _⟩ dX6_copy_85) ?_
            refine lv_if_eq (tgt := 103) hx hb dX6_copy_88 (by decide) (fun c6 => ?_) (fun c6 => ?_)
            · refine lv_aload_n hx hb dX6_copy_103 rfl (lv_at hl 2 rfl) ?_
              refine lv_ldc hx hb C.2.2.2.1 (C.2.2.2.2 _ kc_RX6_59) dX6_copy_104 ?_
              refine g_wrI0 hS (g_runV (As := [.int (-1000001)]) (rest := []) ky_yX6_finding lk_RX6_60 C hX (gS_b0 hI hS) hP 44 (c_yX6_finding l G ad hI σ (-1000001)) (by decide) (shX_44 G ad _) ⟨rfl, rfl, by decide, by decide⟩ rfl hl.1 rfl (Nat.le_of_ble_eq_true rfl) ⟨Nat.zero_le _, Nat.zero_le _⟩ dX6_copy_106) (fun H locs hP hS => ?_)
              exact g_iretM C hr hlk rfl (by rw [x_copy, if_neg c1, if_neg c2, if_pos c3, if_pos c4, if_pos c5, if_pos c6]) hP hS dX6_copy_109
            · obtain ⟨Z, hZ, hz⟩ := hsz (nN sn) (by omega)
              obtain ⟨hf1, hc1, hf2⟩ := hr_ok hZ hz c6
              refine lv_aload hx hb dX6_copy_91 (lv_at hl 0 rfl) ?_
              refine lv_iload hx hb dX6_copy_93 (lv_at hl 6 rfl) ?_
              refine lv_iload hx hb dX6_copy_95 (lv_at hl 7 rfl) ?_
              refine g_rd (g_runV (As := [.int to, .int cnt]) (rest := []) ky_yX2_hasRow lk_RX6_269 C hX (gS_b0 hI hS) (hP.sub (sh1 := (shS G (fun q_ => ad ((47 + 2 * (nN tn)) + q_)))) (47 + 2 * (nN tn)) 2 (by omega) (shX_sheet G ad (by omega))) 0 (c_yX2_hasRow l G (fun q_ => ad ((47 + 2 * (nN tn)) + q_)) (hI.sub (m := 2) (47 + 2 * (nN tn)) (by omega)) (mget σ (47 + 2 * (nN tn))) to cnt) (by decide) (shS_0 G (fun q_ => ad ((47 + 2 * (nN tn)) + q_)) _) ⟨rfl, rfl, by decide, by decide⟩ rfl hl.1 rfl (Nat.le_of_ble_eq_true rfl) ⟨Nat.zero_le _, Nat.zero_le _⟩ dX6_copy_97) ?_
              refine lv_if_ne (tgt := 110) hx hb dX6_copy_100 (by decide) (fun c7 => ?_) (fun c7 => ?_)
              · obtain ⟨Z2, hZ2, hz2⟩ := hsz (nN tn) (by omega)
                obtain ⟨ht1, -, ht2⟩ := hr_ok hZ2 hz2 c7
                refine lv_aload hx hb dX6_copy_110 (lv_at hl 1 rfl) ?_
                refine g_get fd_RX6_220 C hX hP (47 + 2 * (nN sn)) (by omega) (shX_s G ad (by omega) _) (v := .ref (ad (48 + 2 * (nN sn)))) rfl dX6_copy_112 ?_
                refine lv_iload_n hx hb dX6_copy_115 rfl (lv_at hl 4 rfl) ?_
                refine lv_as (y := (nI (nN frm))) hf1 ?_
                refine lv_aload hx hb dX6_copy_116 (lv_at hl 0 rfl) ?_
                refine g_get fd_RX6_220 C hX hP (47 + 2 * (nN tn)) (by omega) (shX_s G ad (by omega) _) (v := .ref (ad (48 + 2 * (nN tn)))) rfl dX6_copy_118 ?_
                refine lv_iload hx hb dX6_copy_121 (lv_at hl 6 rfl) ?_
                refine lv_as (y := (nI (nN to))) ht1 ?_
                refine lv_iload hx hb dX6_copy_123 (lv_at hl 7 rfl) ?_
                refine lv_as (y := (nI (nN cnt))) hc1 ?_
                refine g_acopy C hX hI hP hS hl.1 lk_RX6_272 (48 + 2 * (nN sn)) (48 + 2 * (nN tn)) (by omega) (by omega) (fun f_ => (shX_n G ad (by omega) f_)) (fun f_ => (shX_n G ad (by omega) f_)) (nN frm) (nN to) (nN cnt) (by omega) (by omega) (by decide) (by decide) (by decide) (Nat.le_of_ble_eq_true rfl) dX6_copy_125 (fun H locs hP hS => ?_)
                refine lv_iload hx hb dX6_copy_128 (lv_at hl 7 rfl) ?_
                exact g_iretM C hr hlk rfl (by rw [x_copy, if_neg c1, if_neg c2, if_pos c3, if_pos c4, if_pos c5, if_neg c6, if_neg c7]) hP hS dX6_copy_130
              · refine lv_aload_n hx hb dX6_copy_103 rfl (lv_at hl 2 rfl) ?_
                refine lv_ldc hx hb C.2.2.2.1 (C.2.2.2.2 _ kc_RX6_59) dX6_copy_104 ?_
                refine g_wrI0 hS (g_runV (As := [.int (-1000001)]) (rest := []) ky_yX6_finding lk_RX6_60 C hX (gS_b0 hI hS) hP 44 (c_yX6_finding l G ad hI σ (-1000001)) (by decide) (shX_44 G ad _) ⟨rfl, rfl, by decide, by decide⟩ rfl hl.1 rfl (Nat.le_of_ble_eq_true rfl) ⟨Nat.zero_le _, Nat.zero_le _⟩ dX6_copy_106) (fun H locs hP hS => ?_)
                exact g_iretM C hr hlk rfl (by rw [x_copy, if_neg c1, if_neg c2, if_pos c3, if_pos c4, if_pos c5, if_neg c6, if_pos c7]) hP hS dX6_copy_109
          · refine lv_aload_n hx hb dX6_copy_73 rfl (lv_at hl 2 rfl) ?_
            refine lv_ldc hx hb C.2.2.2.1 (C.2.2.2.2 _ kc_RX6_251) dX6_copy_74 ?_
            refine g_wrI0 hS (g_runV (As := [.int (-1000003)]) (rest := []) ky_yX6_finding lk_RX6_60 C hX (gS_b0 hI hS) hP 44 (c_yX6_finding l G ad hI σ (-1000003)) (by decide) (shX_44 G ad _) ⟨rfl, rfl, by decide, by decide⟩ rfl hl.1 rfl (Nat.le_of_ble_eq_true rfl) ⟨Nat.zero_le _, Nat.zero_le _⟩ dX6_copy_76) (fun H locs hP hS => ?_)
            exact g_iretM C hr hlk rfl (by rw [x_copy, if_neg c1, if_neg c2, if_pos c3, if_pos c4, if_neg c5]) hP hS dX6_copy_79
        · refine lv_aload_n hx hb dX6_copy_53 rfl (lv_at hl 2 rfl) ?_
          refine lv_ldc hx hb C.2.2.2.1 (C.2.2.2.2 _ kc_RX6_247) dX6_copy_54 ?_
          refine g_wrI0 hS (g_runV (As := [.int (-1000006)]) (rest := []) ky_yX6_finding lk_RX6_60 C hX (gS_b0 hI hS) hP 44 (c_yX6_finding l G ad hI σ (-1000006)) (by decide) (shX_44 G ad _) ⟨rfl, rfl, by decide, by decide⟩ rfl hl.1 rfl (Nat.le_of_ble_eq_true rfl) ⟨Nat.zero_le _, Nat.zero_le _⟩ dX6_copy_56) (fun H locs hP hS => ?_)
          exact g_iretM C hr hlk rfl (by rw [x_copy, if_neg c1, if_neg c2, if_pos c3, if_neg c4]) hP hS dX6_copy_59
    · refine lv_aload_n hx hb dX6_copy_14 rfl (lv_at hl 0 rfl) ?_
      refine lv_ldc hx hb C.2.2.2.1 (C.2.2.2.2 _ kc_RX6_59) dX6_copy_15 ?_
      refine g_wrI0 hS (g_runV (As := [.int (-1000001)]) (rest := []) ky_yX6_finding lk_RX6_60 C hX (gS_b0 hI hS) hP 44 (c_yX6_finding l G ad hI σ (-1000001)) (by decide) (shX_44 G ad _) ⟨rfl, rfl, by decide, by decide⟩ rfl hl.1 rfl (Nat.le_of_ble_eq_true rfl) ⟨Nat.zero_le _, Nat.zero_le _⟩ dX6_copy_17) (fun H locs hP hS => ?_)
      exact g_iretM C hr hlk rfl (by rw [x_copy, if_neg c1, if_pos c2]) hP hS dX6_copy_20

def x_load_L18 (σ : gM) (sn : Int32) : Nat → Nat → gM → Int32 × gM
  | 0, i, τ => ((nI i), τ)
  | n18 + 1, i, τ => if (τ (47 + 2 * (nN sn)) 1) ≤ (nI i) then ((nI i), τ) else (if (x_isSaying (τ (48 + 2 * (nN sn)) i)) = 0 then ((nI i), τ) else (x_load_L18 σ sn n18 (i + 1) (mset τ 9 i (τ (48 + 2 * (nN sn)) i))))
def x_load (σ : gM) (sn : Int32) : Int32 × gM := if (x_lackOf σ sn) = 0 then (x_load_L18 σ sn 6 0 σ) else ((x_finding σ (x_lackOf σ sn)).1, (x_finding σ (x_lackOf σ sn)).2)
def rm_yX6_load : Room := { frames := 3, cells := 0, slots := 0, locals := 62 }
set_option maxHeartbeats 4000000 in
set_option maxRecDepth 100000 in
theorem c_yX6_load (l : Launch) (G : gG) (ad : Nat → Nat) (hI : gI G.2.2.1 55 ad) (σ : gM) (sn : Int32) (hsz : ∀ j, j < 4 → ∃ Z, Z ≤ 40 ∧ σ (47 + 2 * j) 1 = nI Z) : gMutI l yX6_load cX6_load 4 (some .int) rm_yX6_load G [.ref (ad 44), .int sn] 55 ad (shX G ad) σ (x_load σ sn) := by
  refine g_start [.ref (ad 44), .int sn] (by decide +kernel) (Nat.le_of_ble_eq_true rfl) ?_
  intro p e s m below meth c ls B Z hl
  obtain ⟨C, hr, hlk⟩ := B
  have hx := C.1
  have hb := C.2.1
  obtain ⟨hX, hP⟩ := Z
  have hS : va_S (gA 55 ad) s.heap s.heap [] := va_S.rf
  revert hP hS
  intro hP hS
  have hl : lv_has ls 4 [(0, .ref (ad 44)), (1, .int sn)] := hl
  refine lv_aload_n hx hb dX6_load_0 rfl (lv_at hl 0 rfl) ?_
  refine lv_iload_n hx hb dX6_load_1 rfl (lv_at hl 1 rfl) ?_
  refine g_rd (g_runV (As := [.int sn]) (rest := []) ky_yX6_lackOf lk_RX6_212 C hX (gS_b0 hI hS) hP 44 (c_yX6_lackOf l G ad hI σ sn) (by decide) (shX_44 G ad _) ⟨rfl, rfl, by decide, by decide⟩ rfl hl.1 rfl (Nat.le_of_ble_eq_true rfl) ⟨Nat.zero_le _, Nat.zero_le _⟩ dX6_load_2) ?_
  refine lv_istore_n (lv' := [(2, .int (x_lackOf σ sn)), (0, .ref (ad 44)), (1, .int sn)]) hx hb dX6_load_5 rfl hl (by decide) rfl (fun ls hl => ?_)
  refine lv_iload_n hx hb dX6_load_6 rfl (lv_at hl 0 rfl) ?_
  refine lv_if_eq (tgt := 16) hx hb dX6_load_7 (by decide) (fun c1 => ?_) (fun c1 => ?_)
  · obtain ⟨hh1, hh2, hh3⟩ := lack_ok c1
    obtain ⟨Z, hZ, hz⟩ := hsz _ hh2
    refine lv_iconst (v := 0) hx hb dX6_load_16 (by decide) ?_
    refine lv_istore_n (lv' := [(3, .int 0), (2, .int (x_lackOf σ sn)), (0, .ref (ad 44)), (1, .int sn)]) hx hb dX6_load_17 rfl hl (by decide) rfl (fun ls hl => ?_)
    suffices loop18 : ∀ (n18 : Nat) (i : Nat) (τ : gM) (H : Heap) (locs : List Loc) (ls : Array Slot), (i + n18 = 6) → x_load σ sn = (x_load_L18 σ sn n18 i τ) → gP G.1 55 ad (gE (shX G ad) τ) H → va_S (gA 55 ad) s.heap H locs → lv_has ls 4 [(3, .int (nI i)), (2, .int (x_lackOf σ sn)), (0, .ref (ad 44)), (1, .int sn)] → W p l e rm_yX6_load s m ([.ref (ad 44), .int sn] : List Value).toArray below meth c H locs 0 0 (MQ below (va_Qi (fun (x : Int32) (τ : gM) => x_load σ sn = (x, τ)) (fun τ t => gP G.1 55 ad (gE (shX G ad) τ) t.heap) (gA 55 ad)) ([.ref (ad 44), .int sn] : List Value).toArray s 0 0 (gA 55 ad)) (F0 m 18 ls []) by
      exact loop18 6 0 σ _ _ _ (by omega) (by rw [x_load, if_pos c1]) hP hS (lv_sub hl [0, 1, 2, 3] rfl)
    intro n18
    induction n18 with
    | zero =>
      intro i τ H locs ls hi18 hres18 hP hS hl
      refine lv_iload_n hx hb dX6_load_18 rfl (lv_at hl 0 rfl) ?_
      refine lv_bipush (v := 6) hx hb dX6_load_19 (by decide) ?_
      refine lv_icmp_ge (tgt := 80) hx hb dX6_load_21 (by decide) (fun c2 => ?_) (fun c2 => ?_)
      · refine lv_iload_n hx hb dX6_load_80 rfl (lv_at hl 0 rfl) ?_
        exact g_iretM C hr hlk rfl (by rw [hres18, x_load_L18]) hP hS dX6_load_81
      · exact absurd (show nI (6) ≤ nI i from nI_le (by omega) (by omega)) c2
    | succ n18 ih18 =>
      intro i τ H locs ls hi18 hres18 hP hS hl
      refine lv_iload_n hx hb dX6_load_18 rfl (lv_at hl 0 rfl) ?_
      refine lv_bipush (v := 6) hx hb dX6_load_19 (by decide) ?_
      refine lv_icmp_ge (tgt := 80) hx hb dX6_load_21 (by decide) (fun c3 => ?_) (fun c3 => ?_)
      · exact absurd (show nI (6) ≤ nI i from c3) (nI_ge (by omega) (by omega))
      · refine lv_iload_n hx hb dX6_load_24 rfl (lv_at hl 0 rfl) ?_
        refine lv_aload_n hx hb dX6_load_25 rfl (lv_at hl 2 rfl) ?_
        refine g_get fd_RX6_42 C hX hP 44 (by decide) (shX_44 G ad _) (v := .ref (ad 46)) rfl dX6_load_26 ?_
        refine lv_iload_n hx hb dX6_load_29 rfl (lv_at hl 3 rfl) ?_
        refine lv_as (y := (nI (nN sn))) hh1 ?_
        refine g_aald (t0 := 3) C hX hP 46 (by decide) (shX_46 G ad _) rfl (nN sn) (by omega) (by decide) rfl dX6_load_30 ?_
        refine g_get fd_RX6_219 C hX hP (47 + 2 * (nN sn)) (by omega) (shX_s G ad (by omega) _) (v := .int (τ (47 + 2 * (nN sn)) 1)) rfl dX6_load_31 ?_
        refine lv_icmp_ge (tgt := 80) hx hb dX6_load_34 (by decide) (fun c4 => ?_) (fun c4 => ?_)
        · refine lv_iload_n hx hb dX6_load_80 rfl (lv_at hl 0 rfl) ?_
          exact g_iretM C hr hlk rfl (by rw [hres18, x_load_L18, if_pos c4]) hP hS dX6_load_81
        · refine lv_aload_n hx hb dX6_load_37 rfl (lv_at hl 2 rfl) ?_
          refine g_get fd_RX6_42 C hX hP 44 (by decide) (shX_44 G ad _) (v := .ref (ad 46)) rfl dX6_load_38 ?_
          refine lv_iload_n hx hb dX6_load_41 rfl (lv_at hl 3 rfl) ?_
          refine lv_as (y := (nI (nN sn))) hh1 ?_
          refine g_aald (t0 := 3) C hX hP 46 (by decide) (shX_46 G ad _) rfl (nN sn) (by omega) (by decide) rfl dX6_load_42 ?_
          refine g_get fd_RX6_220 C hX hP (47 + 2 * (nN sn)) (by omega) (shX_s G ad (by omega) _) (v := .ref (ad (48 + 2 * (nN sn)))) rfl dX6_load_43 ?_
          refine lv_iload_n hx hb dX6_load_46 rfl (lv_at hl 0 rfl) ?_
          refine g_iald C hX hP (48 + 2 * (nN sn)) (by omega) (shX_n G ad (by omega) _) i (by omega) (by decide) dX6_load_47 ?_
          refine g_rd (g_runS (As := [.int (τ (48 + 2 * (nN sn)) i)]) (rest := []) ky_yX6_isSaying lk_RX6_55 C (c_yX6_isSaying l (τ (48 + 2 * (nN sn)) i)) ⟨rfl, rfl, by decide, by decide⟩ rfl hl.1 rfl (Nat.le_of_ble_eq_true rfl) ⟨Nat.zero_le _, Nat.zero_le _⟩ dX6_load_48) ?_
          refine lv_if_eq (tgt := 80) hx hb dX6_load_51 (by decide) (fun c5 => ?_) (fun c5 => ?_)
          · refine lv_iload_n hx hb dX6_load_80 rfl (lv_at hl 0 rfl) ?_
            exact g_iretM C hr hlk rfl (by rw [hres18, x_load_L18, if_neg c4, if_pos c5]) hP hS dX6_load_81
          · refine lv_aload_n hx hb dX6_load_54 rfl (lv_at hl 2 rfl) ?_
            refine g_get fd_RX6_12 C hX hP 44 (by decide) (shX_44 G ad _) (v := .ref (ad 8)) rfl dX6_load_55 ?_
            refine g_get fd_RX6_64 C hX hP 8 (by decide) (shX_8 G ad _) (v := .ref (ad 9)) rfl dX6_load_58 ?_
            refine lv_iload_n hx hb dX6_load_61 rfl (lv_at hl 0 rfl) ?_
            refine lv_aload_n hx hb dX6_load_62 rfl (lv_at hl 2 rfl) ?_
            refine g_get fd_RX6_42 C hX hP 44 (by decide) (shX_44 G ad _) (v := .ref (ad 46)) rfl dX6_load_63 ?_
            refine lv_iload_n hx hb dX6_load_66 rfl (lv_at hl 3 rfl) ?_
            refine lv_as (y := (nI (nN sn))) hh1 ?_
            refine g_aald (t0 := 3) C hX hP 46 (by decide) (shX_46 G ad _) rfl (nN sn) (by omega) (by decide) rfl dX6_load_67 ?_
            refine g_get fd_RX6_220 C hX hP (47 + 2 * (nN sn)) (by omega) (shX_s G ad (by omega) _) (v := .ref (ad (48 + 2 * (nN sn)))) rfl dX6_load_68 ?_
            refine lv_iload_n hx hb dX6_load_71 rfl (lv_at hl 0 rfl) ?_
            refine g_iald C hX hP (48 + 2 * (nN sn)) (by omega) (shX_n G ad (by omega) _) i (by omega) (by decide) dX6_load_72 ?_
            refine g_iast C hX hI hP hS 9 (by decide) (shX_9 G ad _) i (by omega) (by decide) (upd (τ 9) i (τ (48 + 2 * (nN sn)) i)) rfl dX6_load_73 (fun H locs hP hS => ?_)
            have hP : gP G.1 55 ad (gE (shX G ad) (mset τ 9 i (τ (48 + 2 * (nN sn)) i))) H := hP
            refine lv_iinc (v := (nI (i + 1))) (lv' := [(3, .int (nI (i + 1))), (2, .int (x_lackOf σ sn)), (0, .ref (ad 44)), (1, .int sn)]) hx hb dX6_load_74 hl (k := 0) rfl (by exact nI_1 _) (by decide) rfl (fun ls hl => ?_)
            refine lv_goto (tgt := 18) hx hb dX6_load_77 (by decide) ?_
            exact ih18 (i + 1) (mset τ 9 i (τ (48 + 2 * (nN sn)) i)) _ _ _ (by omega) (by rw [hres18, x_load_L18, if_neg c4, if_neg c5]) hP hS (lv_sub hl [0, 1, 2, 3] rfl)
  · refine lv_aload_n hx hb dX6_load_10 rfl (lv_at hl 1 rfl) ?_
    refine lv_iload_n hx hb dX6_load_11 rfl (lv_at hl 0 rfl) ?_
    refine g_wrI0 hS (g_runV (As := [.int (x_lackOf σ sn)]) (rest := []) ky_yX6_finding lk_RX6_60 C hX (gS_b0 hI hS) hP 44 (c_yX6_finding l G ad hI σ (x_lackOf σ sn)) (by decide) (shX_44 G ad _) ⟨rfl, rfl, by decide, by decide⟩ rfl hl.1 rfl (Nat.le_of_ble_eq_true rfl) ⟨Nat.zero_le _, Nat.zero_le _⟩ dX6_load_12) (fun H locs hP hS => ?_)
    exact g_iretM C hr hlk rfl (by rw [x_load, if_neg c1]) hP hS dX6_load_15

def x_judge_L18 (σ : gM) (sn : Int32) : Nat → Nat → Int32 × gM
  | 0, i => (0, σ)
  | n18 + 1, i => if (x_has0 (mget σ 0) (nI i)) = 0 then ((1 + (nI i)), σ) else (if (σ i 5) = (σ (48 + 2 * (nN sn)) i) then (x_judge_L18 σ sn n18 (i + 1)) else ((1 + (nI i)), σ))
def x_judge (σ : gM) (sn : Int32) : Int32 × gM := if (x_lackOf σ sn) = 0 then (x_judge_L18 σ sn (nN (σ (47 + 2 * nN sn) 1)) 0) else ((x_finding σ (x_lackOf σ sn)).1, (x_finding σ (x_lackOf σ sn)).2)
def rm_yX6_judge : Room := { frames := 3, cells := 0, slots := 0, locals := 62 }
set_option maxHeartbeats 4000000 in
set_option maxRecDepth 100000 in
theorem c_yX6_judge (l : Launch) (G : gG) (ad : Nat → Nat) (hI : gI G.2.2.1 55 ad) (σ : gM) (sn : Int32) (N : Nat) (hN : N ≤ 8) (hs : σ 8 0 = nI N) (hsz : ∀ j, j < 4 → ∃ Z, Z ≤ 40 ∧ σ (47 + 2 * j) 1 = nI Z) : gMutI l yX6_judge cX6_judge 4 (some .int) rm_yX6_judge G [.ref (ad 44), .int sn] 55 ad (shX G ad) σ (x_judge σ sn) := by
  refine g_start [.ref (ad 44), .int sn] (by decide +kernel) (Nat.le_of_ble_eq_true rfl) ?_
  intro p e s m below meth c ls B Z hl
  obtain ⟨C, hr, hlk⟩ := B
  have hx := C.1
  have hb := C.2.1
  obtain ⟨hX, hP⟩ := Z
  have hS : va_S (gA 55 ad) s.heap s.heap [] := va_S.rf
  revert hP hS
  intro hP hS
  have hl : lv_has ls 4 [(0, .ref (ad 44)), (1, .int sn)] := hl
  refine lv_aload_n hx hb dX6_judge_0 rfl (lv_at hl 0 rfl) ?_
  refine lv_iload_n hx hb dX6_judge_1 rfl (lv_at hl 1 rfl) ?_
  refine g_rd (g_runV (As := [.int sn]) (rest := []) ky_yX6_lackOf lk_RX6_212 C hX (gS_b0 hI hS) hP 44 (c_yX6_lackOf l G ad hI σ sn) (by decide) (shX_44 G ad _) ⟨rfl, rfl, by decide, by decide⟩ rfl hl.1 rfl (Nat.le_of_ble_eq_true rfl) ⟨Nat.zero_le _, Nat.zero_le _⟩ dX6_judge_2) ?_
  refine lv_istore_n (lv' := [(2, .int (x_lackOf σ sn)), (0, .ref (ad 44)), (1, .int sn)]) hx hb dX6_judge_5 rfl hl (by decide) rfl (fun ls hl => ?_)
  refine lv_iload_n hx hb dX6_judge_6 rfl (lv_at hl 0 rfl) ?_
  refine lv_if_eq (tgt := 16) hx hb dX6_judge_7 (by decide) (fun c1 => ?_) (fun c1 => ?_)
  · obtain ⟨hh1, hh2, hh3⟩ := lack_ok c1
    obtain ⟨Z, hZ, hz⟩ := hsz _ hh2
    refine lv_iconst (v := 0) hx hb dX6_judge_16 (by decide) ?_
    refine lv_istore_n (lv' := [(3, .int 0), (2, .int (x_lackOf σ sn)), (0, .ref (ad 44)), (1, .int sn)]) hx hb dX6_judge_17 rfl hl (by decide) rfl (fun ls hl => ?_)
    suffices loop18 : ∀ (n18 : Nat) (i : Nat) (H : Heap) (locs : List Loc) (ls : Array Slot), (i + n18 = Z) → x_judge σ sn = (x_judge_L18 σ sn n18 i) → gP G.1 55 ad (gE (shX G ad) σ) H → va_S (gA 55 ad) s.heap H locs → lv_has ls 4 [(3, .int (nI i)), (2, .int (x_lackOf σ sn)), (0, .ref (ad 44)), (1, .int sn)] → W p l e rm_yX6_judge s m ([.ref (ad 44), .int sn] : List Value).toArray below meth c H locs 0 0 (MQ below (va_Qi (fun (x : Int32) (τ : gM) => x_judge σ sn = (x, τ)) (fun τ t => gP G.1 55 ad (gE (shX G ad) τ) t.heap) (gA 55 ad)) ([.ref (ad 44), .int sn] : List Value).toArray s 0 0 (gA 55 ad)) (F0 m 18 ls []) by
      exact loop18 Z 0 _ _ _ (by omega) (by rw [x_judge, if_pos c1, hz, nN_nI (by omega)]) hP hS (lv_sub hl [0, 1, 2, 3] rfl)
    intro n18
    induction n18 with
    | zero =>
      intro i H locs ls hi18 hres18 hP hS hl
      refine lv_iload_n hx hb dX6_judge_18 rfl (lv_at hl 0 rfl) ?_
      refine lv_aload_n hx hb dX6_judge_19 rfl (lv_at hl 2 rfl) ?_
      refine g_get fd_RX6_42 C hX hP 44 (by decide) (shX_44 G ad _) (v := .ref (ad 46)) rfl dX6_judge_20 ?_
      refine lv_iload_n hx hb dX6_judge_23 rfl (lv_at hl 3 rfl) ?_
      refine lv_as (y := (nI (nN sn))) hh1 ?_
      refine g_aald (t0 := 3) C hX hP 46 (by decide) (shX_46 G ad _) rfl (nN sn) (by omega) (by decide) rfl dX6_judge_24 ?_
      refine g_get fd_RX6_219 C hX hP (47 + 2 * (nN sn)) (by omega) (shX_s G ad (by omega) _) (v := .int (σ (47 + 2 * (nN sn)) 1)) rfl dX6_judge_25 ?_
      refine lv_as (y := (nI Z)) hz ?_
      refine lv_icmp_ge (tgt := 78) hx hb dX6_judge_28 (by decide) (fun c2 => ?_) (fun c2 => ?_)
      · refine lv_iconst (v := 0) hx hb dX6_judge_78 (by decide) ?_
        exact g_iretM C hr hlk rfl (by rw [hres18, x_judge_L18]) hP hS dX6_judge_79
      · exact absurd (show nI (Z) ≤ nI i from nI_le (by omega) (by omega)) c2
    | succ n18 ih18 =>
      intro i H locs ls hi18 hres18 hP hS hl
      refine lv_iload_n hx hb dX6_judge_18 rfl (lv_at hl 0 rfl) ?_
      refine lv_aload_n hx hb dX6_judge_19 rfl (lv_at hl 2 rfl) ?_
      refine g_get fd_RX6_42 C hX hP 44 (by decide) (shX_44 G ad _) (v := .ref (ad 46)) rfl dX6_judge_20 ?_
      refine lv_iload_n hx hb dX6_judge_23 rfl (lv_at hl 3 rfl) ?_
      refine lv_as (y := (nI (nN sn))) hh1 ?_
      refine g_aald (t0 := 3) C hX hP 46 (by decide) (shX_46 G ad _) rfl (nN sn) (by omega) (by decide) rfl dX6_judge_24 ?_
      refine g_get fd_RX6_219 C hX hP (47 + 2 * (nN sn)) (by omega) (shX_s G ad (by omega) _) (v := .int (σ (47 + 2 * (nN sn)) 1)) rfl dX6_judge_25 ?_
      refine lv_as (y := (nI Z)) hz ?_
      refine lv_icmp_ge (tgt := 78) hx hb dX6_judge_28 (by decide) (fun c3 => ?_) (fun c3 => ?_)
      · exact absurd (show nI (Z) ≤ nI i from c3) (nI_ge (by omega) (by omega))
      · refine lv_aload_n hx hb dX6_judge_31 rfl (lv_at hl 2 rfl) ?_
        refine g_get fd_RX6_12 C hX hP 44 (by decide) (shX_44 G ad _) (v := .ref (ad 8)) rfl dX6_judge_32 ?_
        refine lv_iload_n hx hb dX6_judge_35 rfl (lv_at hl 0 rfl) ?_
        refine g_rd (g_runV (As := [.int (nI i)]) (rest := []) ky_yX0_has lk_RX6_88 C hX (gS_b0 hI hS) (hP.sub (sh1 := (shC G (fun q_ => ad (0 + q_)))) 0 12 (by omega) (shX_club G ad)) 8 (c_yX0_has l G (fun q_ => ad (0 + q_)) (hI.sub (m := 12) 0 (by omega)) (mget σ 0) (nI i)) (by decide) (shC_8 G (fun q_ => ad (0 + q_)) _) ⟨rfl, rfl, by decide, by decide⟩ rfl hl.1 rfl (Nat.le_of_ble_eq_true rfl) ⟨Nat.zero_le _, Nat.zero_le _⟩ dX6_judge_36) ?_
        refine lv_if_eq (tgt := 68) hx hb dX6_judge_39 (by decide) (fun c4 => ?_) (fun c4 => ?_)
        · refine lv_iconst (v := 1) hx hb dX6_judge_68 (by decide) ?_
          refine lv_iload_n hx hb dX6_judge_69 rfl (lv_at hl 0 rfl) ?_
          refine lv_iadd hx hb dX6_judge_70 ?_
          exact g_iretM C hr hlk rfl (by rw [hres18, x_judge_L18, if_pos c4]) hP hS dX6_judge_71
        · obtain ⟨-, hq2⟩ := has_of hN hs c4
          rw [nN_nI (by omega)] at hq2
          refine lv_aload_n hx hb dX6_judge_42 rfl (lv_at hl 2 rfl) ?_
          refine g_get fd_RX6_12 C hX hP 44 (by decide) (shX_44 G ad _) (v := .ref (ad 8)) rfl dX6_judge_43 ?_
          refine g_get fd_RX6_96 C hX hP 8 (by decide) (shX_8 G ad _) (v := .ref (ad 11)) rfl dX6_judge_46 ?_
          refine lv_iload_n hx hb dX6_judge_49 rfl (lv_at hl 0 rfl) ?_
          refine g_aald (t0 := 2) C hX hP 11 (by decide) (shX_11 G ad _) rfl i (by omega) (by decide) rfl dX6_judge_50 ?_
          refine g_get fd_RX6_118 C hX hP i (by omega) (shX_g G ad (by omega) _) (v := .int (σ i 5)) rfl dX6_judge_51 ?_
          refine lv_aload_n hx hb dX6_judge_54 rfl (lv_at hl 2 rfl) ?_
          refine g_get fd_RX6_42 C hX hP 44 (by decide) (shX_44 G ad _) (v := .ref (ad 46)) rfl dX6_judge_55 ?_
          refine lv_iload_n hx hb dX6_judge_58 rfl (lv_at hl 3 rfl) ?_
          refine lv_as (y := (nI (nN sn))) hh1 ?_
          refine g_aald (t0 := 3) C hX hP 46 (by decide) (shX_46 G ad _) rfl (nN sn) (by omega) (by decide) rfl dX6_judge_59 ?_
          refine g_get fd_RX6_220 C hX hP (47 + 2 * (nN sn)) (by omega) (shX_s G ad (by omega) _) (v := .ref (ad (48 + 2 * (nN sn)))) rfl dX6_judge_60 ?_
          refine lv_iload_n hx hb dX6_judge_63 rfl (lv_at hl 0 rfl) ?_
          refine g_iald C hX hP (48 + 2 * (nN sn)) (by omega) (shX_n G ad (by omega) _) i (by omega) (by decide) dX6_judge_64 ?_
          refine lv_icmp_eq (tgt := 72) hx hb dX6_judge_65 (by decide) (fun c5 => ?_) (fun c5 => ?_)
          · refine lv_iinc (v := (nI (i + 1))) (lv' := [(3, .int (nI (i + 1))), (2, .int (x_lackOf σ sn)), (0, .ref (ad 44)), (1, .int sn)]) hx hb dX6_judge_72 hl (k := 0) rfl (by exact nI_1 _) (by decide) rfl (fun ls hl => ?_)
            refine lv_goto (tgt := 18) hx hb dX6_judge_75 (by decide) ?_
            exact ih18 (i + 1) _ _ _ (by omega) (by rw [hres18, x_judge_L18, if_neg c4, if_pos c5]) hP hS (lv_sub hl [0, 1, 2, 3] rfl)
          · refine lv_iconst (v := 1) hx hb dX6_judge_68 (by decide) ?_
            refine lv_iload_n hx hb dX6_judge_69 rfl (lv_at hl 0 rfl) ?_
            refine lv_iadd hx hb dX6_judge_70 ?_
            exact g_iretM C hr hlk rfl (by rw [hres18, x_judge_L18, if_neg c4, if_neg c5]) hP hS dX6_judge_71
  · refine lv_aload_n hx hb dX6_judge_10 rfl (lv_at hl 1 rfl) ?_
    refine lv_iload_n hx hb dX6_judge_11 rfl (lv_at hl 0 rfl) ?_
    refine g_wrI0 hS (g_runV (As := [.int (x_lackOf σ sn)]) (rest := []) ky_yX6_finding lk_RX6_60 C hX (gS_b0 hI hS) hP 44 (c_yX6_finding l G ad hI σ (x_lackOf σ sn)) (by decide) (shX_44 G ad _) ⟨rfl, rfl, by decide, by decide⟩ rfl hl.1 rfl (Nat.le_of_ble_eq_true rfl) ⟨Nat.zero_le _, Nat.zero_le _⟩ dX6_judge_12) (fun H locs hP hS => ?_)
    exact g_iretM C hr hlk rfl (by rw [x_judge, if_neg c1]) hP hS dX6_judge_15

def x_image_m1 (σ : gM) (σ1 : gM) : Int32 × gM := (1, (mset σ1 44 0 1))
def x_image (σ : gM) : Int32 × gM := (x_image_m1 σ (bec σ 12 0))
def rm_yX6_image : Room := { frames := 2, cells := 0, slots := 0, locals := 102 }
set_option maxHeartbeats 4000000 in
set_option maxRecDepth 100000 in
theorem c_yX6_image (l : Launch) (G : gG) (ad : Nat → Nat) (hI : gI G.2.2.1 55 ad) (σ : gM) (N : Nat) (hN : N ≤ 8) (hs : σ 8 0 = nI N) : gMutI l yX6_image cX6_image 1 (some .int) rm_yX6_image G [.ref (ad 44)] 55 ad (shX G ad) σ (x_image σ) := by
  refine g_start [.ref (ad 44)] (by decide +kernel) (Nat.le_of_ble_eq_true rfl) ?_
  intro p e s m below meth c ls B Z hl
  obtain ⟨C, hr, hlk⟩ := B
  have hx := C.1
  have hb := C.2.1
  obtain ⟨hX, hP⟩ := Z
  have hS : va_S (gA 55 ad) s.heap s.heap [] := va_S.rf
  revert hP hS
  intro hP hS
  have hl : lv_has ls 1 [(0, .ref (ad 44))] := hl
  refine lv_aload_n hx hb dX6_image_0 rfl (lv_at hl 0 rfl) ?_
  refine g_get fd_RX6_16 C hX hP 44 (by decide) (shX_44 G ad _) (v := .ref (ad 20)) rfl dX6_image_1 ?_
  refine lv_aload_n hx hb dX6_image_4 rfl (lv_at hl 0 rfl) ?_
  refine g_get fd_RX6_12 C hX hP 44 (by decide) (shX_44 G ad _) (v := .ref (ad 8)) rfl dX6_image_5 ?_
  refine g_wrVq (ι := (pkD 12 0)) (κ := (kpD 12 0)) (m1 := 24) (pkD_m (a := 12) (b := 0) (by decide) (by decide) (by decide)) (pkD_X G ad (a := 12) (b := 0) (by decide) (by decide)) hI hP hS (g_runV (As := [.ref (ad 8)]) (rest := []) ky_yX0_become lk_RX6_157 C hX (gS_b0 hI hS) (hP.pickE (sh1 := (shD G (fun q_ => ad ((pkD 12 0) q_)))) (pkD 12 0) 24 (fun i_ hi_ => ((pkD_m (a := 12) (b := 0) (by decide) (by decide) (by decide)) i_ hi_).1) (pkD_X G ad (a := 12) (b := 0) (by decide) (by decide))) 8 (c_yX0_become l G (fun q_ => ad ((pkD 12 0) q_)) (pk_I hI (pkD_m (a := 12) (b := 0) (by decide) (by decide) (by decide))) (mpick σ (pkD 12 0))  N hN hs) (by decide) (shD_8 G (fun q_ => ad ((pkD 12 0) q_)) _) ⟨rfl, rfl, by decide, by decide⟩ rfl hl.1 rfl (Nat.le_of_ble_eq_true rfl) ⟨Nat.zero_le _, Nat.zero_le _⟩ dX6_image_8) (fun H locs hP hS => ?_)
  have hP : gP G.1 55 ad (gE (shX G ad) (bec σ 12 0)) H := hP
  obtain ⟨σ1, eσ1⟩ : ∃ τ_ : gM, τ_ = (bec σ 12 0) := ⟨_, rfl⟩
  rw [← eσ1] at hP
  refine lv_aload_n hx hb dX6_image_11 rfl (lv_at hl 0 rfl) ?_
  refine lv_iconst (v := 1) hx hb dX6_image_12 (by decide) ?_
  refine g_put fd_RX6_22 C hX hI hP hS 44 (by decide) (shX_44 G ad _) rfl rfl (Nat.le_of_ble_eq_true rfl) (upd (σ1 44) 0 1) rfl dX6_image_13 (fun H locs hP hS => ?_)
  have hP : gP G.1 55 ad (gE (shX G ad) (mset σ1 44 0 1)) H := hP
  refine lv_iconst (v := 1) hx hb dX6_image_16 (by decide) ?_
  exact g_iretM C hr hlk rfl (by rw [x_image, ← eσ1, x_image_m1]) hP hS dX6_image_17

def x_undo (σ : gM) : Int32 × gM := if (σ 44 0) = 0 then ((x_finding σ (-1000004)).1, (x_finding σ (-1000004)).2) else (((bec σ 0 12) 8 1), (bec σ 0 12))
def rm_yX6_undo : Room := { frames := 2, cells := 0, slots := 0, locals := 102 }
set_option maxHeartbeats 4000000 in
set_option maxRecDepth 100000 in
theorem c_yX6_undo (l : Launch) (G : gG) (ad : Nat → Nat) (hI : gI G.2.2.1 55 ad) (σ : gM) (K : Nat) (hK : K ≤ 8) (hk : σ 20 0 = nI K) : gMutI l yX6_undo cX6_undo 1 (some .int) rm_yX6_undo G [.ref (ad 44)] 55 ad (shX G ad) σ (x_undo σ) := by
  refine g_start [.ref (ad 44)] (by decide +kernel) (Nat.le_of_ble_eq_true rfl) ?_
  intro p e s m below meth c ls B Z hl
  obtain ⟨C, hr, hlk⟩ := B
  have hx := C.1
  have hb := C.2.1
  obtain ⟨hX, hP⟩ := Z
  have hS : va_S (gA 55 ad) s.heap s.heap [] := va_S.rf
  revert hP hS
  intro hP hS
  have hl : lv_has ls 1 [(0, .ref (ad 44))] := hl
  refine lv_aload_n hx hb dX6_undo_0 rfl (lv_at hl 0 rfl) ?_
  refine g_get fd_RX6_22 C hX hP 44 (by decide) (shX_44 G ad _) (v := .int (σ 44 0)) rfl dX6_undo_1 ?_
  refine lv_if_ne (tgt := 14) hx hb dX6_undo_4 (by decide) (fun c1 => ?_) (fun c1 => ?_)
  · refine lv_aload_n hx hb dX6_undo_14 rfl (lv_at hl 0 rfl) ?_
    refine g_get fd_RX6_12 C hX hP 44 (by decide) (shX_44 G ad _) (v := .ref (ad 8)) rfl dX6_undo_15 ?_
    refine lv_aload_n hx hb dX6_undo_18 rfl (lv_at hl 0 rfl) ?_
    refine g_get fd_RX6_16 C hX hP 44 (by decide) (shX_44 G ad _) (v := .ref (ad 20)) rfl dX6_undo_19 ?_
    refine g_wrVq (ι := (pkD 0 12)) (κ := (kpD 0 12)) (m1 := 24) (pkD_m (a := 0) (b := 12) (by decide) (by decide) (by decide)) (pkD_X G ad (a := 0) (b := 12) (by decide) (by decide)) hI hP hS (g_runV (As := [.ref (ad 20)]) (rest := []) ky_yX0_become lk_RX6_157 C hX (gS_b0 hI hS) (hP.pickE (sh1 := (shD G (fun q_ => ad ((pkD 0 12) q_)))) (pkD 0 12) 24 (fun i_ hi_ => ((pkD_m (a := 0) (b := 12) (by decide) (by decide) (by decide)) i_ hi_).1) (pkD_X G ad (a := 0) (b := 12) (by decide) (by decide))) 8 (c_yX0_become l G (fun q_ => ad ((pkD 0 12) q_)) (pk_I hI (pkD_m (a := 0) (b := 12) (by decide) (by decide) (by decide))) (mpick σ (pkD 0 12))  K hK hk) (by decide) (shD_8 G (fun q_ => ad ((pkD 0 12) q_)) _) ⟨rfl, rfl, by decide, by decide⟩ rfl hl.1 rfl (Nat.le_of_ble_eq_true rfl) ⟨Nat.zero_le _, Nat.zero_le _⟩ dX6_undo_22) (fun H locs hP hS => ?_)
    have hP : gP G.1 55 ad (gE (shX G ad) (bec σ 0 12)) H := hP
    refine lv_aload_n hx hb dX6_undo_25 rfl (lv_at hl 0 rfl) ?_
    refine g_get fd_RX6_12 C hX hP 44 (by decide) (shX_44 G ad _) (v := .ref (ad 8)) rfl dX6_undo_26 ?_
    refine g_get fd_RX6_125 C hX hP 8 (by decide) (shX_8 G ad _) (v := .int ((bec σ 0 12) 8 1)) rfl dX6_undo_29 ?_
    exact g_iretM C hr hlk rfl (by rw [x_undo, if_neg c1]) hP hS dX6_undo_32
  · refine lv_aload_n hx hb dX6_undo_7 rfl (lv_at hl 0 rfl) ?_
    refine lv_ldc hx hb C.2.2.2.1 (C.2.2.2.2 _ kc_RX6_173) dX6_undo_8 ?_
    refine g_wrI0 hS (g_runV (As := [.int (-1000004)]) (rest := []) ky_yX6_finding lk_RX6_60 C hX (gS_b0 hI hS) hP 44 (c_yX6_finding l G ad hI σ (-1000004)) (by decide) (shX_44 G ad _) ⟨rfl, rfl, by decide, by decide⟩ rfl hl.1 rfl (Nat.le_of_ble_eq_true rfl) ⟨Nat.zero_le _, Nat.zero_le _⟩ dX6_undo_10) (fun H locs hP hS => ?_)
    exact g_iretM C hr hlk rfl (by rw [x_undo, if_pos c1]) hP hS dX6_undo_13

def x_tear (σ : gM) : Int32 × gM := if (σ 44 0) = 0 then (0, (mset σ 44 0 0)) else (1, (mset σ 44 0 0))
def rm_yX6_tear : Room := { frames := 0, cells := 0, slots := 0, locals := 0 }
set_option maxHeartbeats 4000000 in
set_option maxRecDepth 100000 in
theorem c_yX6_tear (l : Launch) (G : gG) (ad : Nat → Nat) (hI : gI G.2.2.1 55 ad) (σ : gM) : gMutI l yX6_tear cX6_tear 2 (some .int) rm_yX6_tear G [.ref (ad 44)] 55 ad (shX G ad) σ (x_tear σ) := by
  refine g_start [.ref (ad 44)] (by decide +kernel) (Nat.le_of_ble_eq_true rfl) ?_
  intro p e s m below meth c ls B Z hl
  obtain ⟨C, hr, hlk⟩ := B
  have hx := C.1
  have hb := C.2.1
  obtain ⟨hX, hP⟩ := Z
  have hS : va_S (gA 55 ad) s.heap s.heap [] := va_S.rf
  revert hP hS
  intro hP hS
  have hl : lv_has ls 2 [(0, .ref (ad 44))] := hl
  refine lv_aload_n hx hb dX6_tear_0 rfl (lv_at hl 0 rfl) ?_
  refine g_get fd_RX6_22 C hX hP 44 (by decide) (shX_44 G ad _) (v := .int (σ 44 0)) rfl dX6_tear_1 ?_
  refine lv_if_eq (tgt := 11) hx hb dX6_tear_4 (by decide) (fun c1 => ?_) (fun c1 => ?_)
  · refine lv_iconst (v := 0) hx hb dX6_tear_11 (by decide) ?_
    refine lv_istore_n (lv' := [(1, .int 0), (0, .ref (ad 44))]) hx hb dX6_tear_12 rfl hl (by decide) rfl (fun ls hl => ?_)
    refine lv_aload_n hx hb dX6_tear_13 rfl (lv_at hl 1 rfl) ?_
    refine lv_iconst (v := 0) hx hb dX6_tear_14 (by decide) ?_
    refine g_put fd_RX6_22 C hX hI hP hS 44 (by decide) (shX_44 G ad _) rfl rfl (Nat.le_of_ble_eq_true rfl) (upd (σ 44) 0 0) rfl dX6_tear_15 (fun H locs hP hS => ?_)
    have hP : gP G.1 55 ad (gE (shX G ad) (mset σ 44 0 0)) H := hP
    refine lv_iload_n hx hb dX6_tear_18 rfl (lv_at hl 0 rfl) ?_
    exact g_iretM C hr hlk rfl (by rw [x_tear, if_pos c1]) hP hS dX6_tear_19
  · refine lv_iconst (v := 1) hx hb dX6_tear_7 (by decide) ?_
    refine lv_goto (tgt := 12) hx hb dX6_tear_8 (by decide) ?_
    refine lv_istore_n (lv' := [(1, .int 1), (0, .ref (ad 44))]) hx hb dX6_tear_12 rfl hl (by decide) rfl (fun ls hl => ?_)
    refine lv_aload_n hx hb dX6_tear_13 rfl (lv_at hl 1 rfl) ?_
    refine lv_iconst (v := 0) hx hb dX6_tear_14 (by decide) ?_
    refine g_put fd_RX6_22 C hX hI hP hS 44 (by decide) (shX_44 G ad _) rfl rfl (Nat.le_of_ble_eq_true rfl) (upd (σ 44) 0 0) rfl dX6_tear_15 (fun H locs hP hS => ?_)
    have hP : gP G.1 55 ad (gE (shX G ad) (mset σ 44 0 0)) H := hP
    refine lv_iload_n hx hb dX6_tear_18 rfl (lv_at hl 0 rfl) ?_
    exact g_iretM C hr hlk rfl (by rw [x_tear, if_neg c1]) hP hS dX6_tear_19

def x_count (σ : gM) (what : Int32) : Int32 × gM := if what = 0 then ((σ 8 1), σ) else (if what = 1 then ((σ 8 0), σ) else (if what = 2 then ((j_bitCount (x_knownByGloves0 (mget σ 0))), σ) else (if what = 3 then ((j_bitCount (x_knownByHands0 (mget σ 0))), σ) else (if what = 4 then ((x_drawnInAll0 (mget σ 0)), σ) else (if what = 5 then ((σ 42 0), σ) else (if what = 6 then ((σ 8 2), σ) else (if what = 7 then ((x_spotsThatHold0 (mget σ 0)), σ) else ((x_finding σ (-1000001)).1, (x_finding σ (-1000001)).2))))))))
def rm_yX6_count : Room := { frames := 3, cells := 0, slots := 0, locals := 64 }
set_option maxHeartbeats 4000000 in
set_option maxRecDepth 100000 in
theorem c_yX6_count (l : Launch) (G : gG) (ad : Nat → Nat) (hI : gI G.2.2.1 55 ad) (σ : gM) (what : Int32) (N : Nat) (hN : N ≤ 8) (hs : σ 8 0 = nI N) : gMutI l yX6_count cX6_count 2 (some .int) rm_yX6_count G [.ref (ad 44), .int what] 55 ad (shX G ad) σ (x_count σ what) := by
  refine g_start [.ref (ad 44), .int what] (by decide +kernel) (Nat.le_of_ble_eq_true rfl) ?_
  intro p e s m below meth c ls B Z hl
  obtain ⟨C, hr, hlk⟩ := B
  have hx := C.1
  have hb := C.2.1
  obtain ⟨hX, hP⟩ := Z
  have hS : va_S (gA 55 ad) s.heap s.heap [] := va_S.rf
  revert hP hS
  intro hP hS
  have hl : lv_has ls 2 [(0, .ref (ad 44)), (1, .int what)] := hl
  refine lv_iload_n hx hb dX6_count_0 rfl (lv_at hl 1 rfl) ?_
  by_cases c1 : what = 0
  · refine lv_as (y := 0) c1 ?_
    refine lv_tableIn (tgt := 48) (off := 47) hx hb dX6_count_1 (by decide) (by decide) (by decide) (by decide) ?_
    refine lv_aload_n hx hb dX6_count_48 rfl (lv_at hl 0 rfl) ?_
    refine g_get fd_RX6_12 C hX hP 44 (by decide) (shX_44 G ad _) (v := .ref (ad 8)) rfl dX6_count_49 ?_
    refine g_get fd_RX6_125 C hX hP 8 (by decide) (shX_8 G ad _) (v := .int (σ 8 1)) rfl dX6_count_52 ?_
    exact g_iretM C hr hlk rfl (by rw [x_count, if_pos c1]) hP hS dX6_count_55
  by_cases c2 : what = 1
  · refine lv_as (y := 1) c2 ?_
    refine lv_tableIn (tgt := 56) (off := 55) hx hb dX6_count_1 (by decide) (by decide) (by decide) (by decide) ?_
    refine lv_aload_n hx hb dX6_count_56 rfl (lv_at hl 0 rfl) ?_
    refine g_get fd_RX6_12 C hX hP 44 (by decide) (shX_44 G ad _) (v := .ref (ad 8)) rfl dX6_count_57 ?_
    refine g_get fd_RX6_80 C hX hP 8 (by decide) (shX_8 G ad _) (v := .int (σ 8 0)) rfl dX6_count_60 ?_
    exact g_iretM C hr hlk rfl (by rw [x_count, if_neg c1, if_pos c2]) hP hS dX6_count_63
  by_cases c3 : what = 2
  · refine lv_as (y := 2) c3 ?_
    refine lv_tableIn (tgt := 64) (off := 63) hx hb dX6_count_1 (by decide) (by decide) (by decide) (by decide) ?_
    refine lv_aload_n hx hb dX6_count_64 rfl (lv_at hl 0 rfl) ?_
    refine g_get fd_RX6_12 C hX hP 44 (by decide) (shX_44 G ad _) (v := .ref (ad 8)) rfl dX6_count_65 ?_
    refine g_rd (g_runV (As := []) (rest := []) ky_yX0_knownByGloves lk_RX6_132 C hX (gS_b0 hI hS) (hP.sub (sh1 := (shC G (fun q_ => ad (0 + q_)))) 0 12 (by omega) (shX_club G ad)) 8 (c_yX0_knownByGloves l G (fun q_ => ad (0 + q_)) (hI.sub (m := 12) 0 (by omega)) (mget σ 0)  N hN hs) (by decide) (shC_8 G (fun q_ => ad (0 + q_)) _) ⟨rfl, rfl, by decide, by decide⟩ rfl hl.1 rfl (Nat.le_of_ble_eq_true rfl) ⟨Nat.zero_le _, Nat.zero_le _⟩ dX6_count_68) ?_
    refine g_rd (g_runS (As := [.int (x_knownByGloves0 (mget σ 0))]) (rest := []) ky_yJ6_bitCount_0f7a4 lk_RX6_204 C (c_yJ6_bitCount_0f7a4 l (x_knownByGloves0 (mget σ 0))) ⟨rfl, rfl, by decide, by decide⟩ rfl hl.1 rfl (Nat.le_of_ble_eq_true rfl) ⟨Nat.zero_le _, Nat.zero_le _⟩ dX6_count_71) ?_
    exact g_iretM C hr hlk rfl (by rw [x_count, if_neg c1, if_neg c2, if_pos c3]) hP hS dX6_count_74
  by_cases c4 : what = 3
  · refine lv_as (y := 3) c4 ?_
    refine lv_tableIn (tgt := 75) (off := 74) hx hb dX6_count_1 (by decide) (by decide) (by decide) (by decide) ?_
    refine lv_aload_n hx hb dX6_count_75 rfl (lv_at hl 0 rfl) ?_
    refine g_get fd_RX6_12 C hX hP 44 (by decide) (shX_44 G ad _) (v := .ref (ad 8)) rfl dX6_count_76 ?_
    refine g_rd (g_runV (As := []) (rest := []) ky_yX0_knownByHands lk_RX6_135 C hX (gS_b0 hI hS) (hP.sub (sh1 := (shC G (fun q_ => ad (0 + q_)))) 0 12 (by omega) (shX_club G ad)) 8 (c_yX0_knownByHands l G (fun q_ => ad (0 + q_)) (hI.sub (m := 12) 0 (by omega)) (mget σ 0)  N hN hs) (by decide) (shC_8 G (fun q_ => ad (0 + q_)) _) ⟨rfl, rfl, by decide, by decide⟩ rfl hl.1 rfl (Nat.le_of_ble_eq_true rfl) ⟨Nat.zero_le _, Nat.zero_le _⟩ dX6_count_79) ?_
    refine g_rd (g_runS (As := [.int (x_knownByHands0 (mget σ 0))]) (rest := []) ky_yJ6_bitCount_0f7a4 lk_RX6_204 C (c_yJ6_bitCount_0f7a4 l (x_knownByHands0 (mget σ 0))) ⟨rfl, rfl, by decide, by decide⟩ rfl hl.1 rfl (Nat.le_of_ble_eq_true rfl) ⟨Nat.zero_le _, Nat.zero_le _⟩ dX6_count_82) ?_
    exact g_iretM C hr hlk rfl (by rw [x_count, if_neg c1, if_neg c2, if_neg c3, if_pos c4]) hP hS dX6_count_85
  by_cases c5 : what = 4
  · refine lv_as (y := 4) c5 ?_
    refine lv_tableIn (tgt := 86) (off := 85) hx hb dX6_count_1 (by decide) (by decide) (by decide) (by decide) ?_
    refine lv_aload_n hx hb dX6_count_86 rfl (lv_at hl 0 rfl) ?_
    refine g_get fd_RX6_12 C hX hP 44 (by decide) (shX_44 G ad _) (v := .ref (ad 8)) rfl dX6_count_87 ?_
    refine g_rd (g_runV (As := []) (rest := []) ky_yX0_drawnInAll lk_RX6_142 C hX (gS_b0 hI hS) (hP.sub (sh1 := (shC G (fun q_ => ad (0 + q_)))) 0 12 (by omega) (shX_club G ad)) 8 (c_yX0_drawnInAll l G (fun q_ => ad (0 + q_)) (hI.sub (m := 12) 0 (by omega)) (mget σ 0)  N hN hs) (by decide) (shC_8 G (fun q_ => ad (0 + q_)) _) ⟨rfl, rfl, by decide, by decide⟩ rfl hl.1 rfl (Nat.le_of_ble_eq_true rfl) ⟨Nat.zero_le _, Nat.zero_le _⟩ dX6_count_90) ?_
    exact g_iretM C hr hlk rfl (by rw [x_count, if_neg c1, if_neg c2, if_neg c3, if_neg c4, if_pos c5]) hP hS dX6_count_93
  by_cases c6 : what = 5
  · refine lv_as (y := 5) c6 ?_
    refine lv_tableIn (tgt := 94) (off := 93) hx hb dX6_count_1 (by decide) (by decide) (by decide) (by decide) ?_
    refine lv_aload_n hx hb dX6_count_94 rfl (lv_at hl 0 rfl) ?_
    refine g_get fd_RX6_29 C hX hP 44 (by decide) (shX_44 G ad _) (v := .ref (ad 42)) rfl dX6_count_95 ?_
    refine g_get fd_RX6_233 C hX hP 42 (by decide) (shX_42 G ad _) (v := .int (σ 42 0)) rfl dX6_count_98 ?_
    exact g_iretM C hr hlk rfl (by rw [x_count, if_neg c1, if_neg c2, if_neg c3, if_neg c4, if_neg c5, if_pos c6]) hP hS dX6_count_101
  by_cases c7 : what = 6
  · refine lv_as (y := 6) c7 ?_
    refine lv_tableIn (tgt := 102) (off := 101) hx hb dX6_count_1 (by decide) (by decide) (by decide) (by decide) ?_
    refine lv_aload_n hx hb dX6_count_102 rfl (lv_at hl 0 rfl) ?_
    refine g_get fd_RX6_12 C hX hP 44 (by decide) (shX_44 G ad _) (v := .ref (ad 8)) rfl dX6_count_103 ?_
    refine g_get fd_RX6_230 C hX hP 8 (by decide) (shX_8 G ad _) (v := .int (σ 8 2)) rfl dX6_count_106 ?_
    exact g_iretM C hr hlk rfl (by rw [x_count, if_neg c1, if_neg c2, if_neg c3, if_neg c4, if_neg c5, if_neg c6, if_pos c7]) hP hS dX6_count_109
  by_cases c8 : what = 7
  · refine lv_as (y := 7) c8 ?_
    refine lv_tableIn (tgt := 110) (off := 109) hx hb dX6_count_1 (by decide) (by decide) (by decide) (by decide) ?_
    refine lv_aload_n hx hb dX6_count_110 rfl (lv_at hl 0 rfl) ?_
    refine g_get fd_RX6_12 C hX hP 44 (by decide) (shX_44 G ad _) (v := .ref (ad 8)) rfl dX6_count_111 ?_
    refine g_rd (g_runV (As := []) (rest := []) ky_yX0_spotsThatHold lk_RX6_278 C hX (gS_b0 hI hS) (hP.sub (sh1 := (shC G (fun q_ => ad (0 + q_)))) 0 12 (by omega) (shX_club G ad)) 8 (c_yX0_spotsThatHold l G (fun q_ => ad (0 + q_)) (hI.sub (m := 12) 0 (by omega)) (mget σ 0) ) (by decide) (shC_8 G (fun q_ => ad (0 + q_)) _) ⟨rfl, rfl, by decide, by decide⟩ rfl hl.1 rfl (Nat.le_of_ble_eq_true rfl) ⟨Nat.zero_le _, Nat.zero_le _⟩ dX6_count_114) ?_
    exact g_iretM C hr hlk rfl (by rw [x_count, if_neg c1, if_neg c2, if_neg c3, if_neg c4, if_neg c5, if_neg c6, if_neg c7, if_pos c8]) hP hS dX6_count_117
  have h9 := lv_neT (a := 0) c1 (by decide)
  have h10 := lv_neT (a := 1) c2 (by decide)
  have h11 := lv_neT (a := 2) c3 (by decide)
  have h12 := lv_neT (a := 3) c4 (by decide)
  have h13 := lv_neT (a := 4) c5 (by decide)
  have h14 := lv_neT (a := 5) c6 (by decide)
  have h15 := lv_neT (a := 6) c7 (by decide)
  have h16 := lv_neT (a := 7) c8 (by decide)
  refine lv_tableOut (tgt := 118) hx hb dX6_count_1 (by omega) (by decide) ?_
  refine lv_aload_n hx hb dX6_count_118 rfl (lv_at hl 0 rfl) ?_
  refine lv_ldc hx hb C.2.2.2.1 (C.2.2.2.2 _ kc_RX6_59) dX6_count_119 ?_
  refine g_wrI0 hS (g_runV (As := [.int (-1000001)]) (rest := []) ky_yX6_finding lk_RX6_60 C hX (gS_b0 hI hS) hP 44 (c_yX6_finding l G ad hI σ (-1000001)) (by decide) (shX_44 G ad _) ⟨rfl, rfl, by decide, by decide⟩ rfl hl.1 rfl (Nat.le_of_ble_eq_true rfl) ⟨Nat.zero_le _, Nat.zero_le _⟩ dX6_count_121) (fun H locs hP hS => ?_)
  exact g_iretM C hr hlk rfl (by rw [x_count, if_neg c1, if_neg c2, if_neg c3, if_neg c4, if_neg c5, if_neg c6, if_neg c7, if_neg c8]) hP hS dX6_count_124

def x_status_L9 (σ : gM) (which : Int32) : Nat → Nat → Int32 → Int32 × gM
  | 0, i, acc => (acc, σ)
  | n9 + 1, i, acc => (x_status_L9 σ which n9 (i + 1) (acc + (σ 45 i)))
def x_status (σ : gM) (which : Int32) : Int32 × gM := if which = (-1) then (x_status_L9 σ which 7 0 0) else (if (x_isWithin which 6) = 0 then ((x_finding σ (-1000001)).1, (x_finding σ (-1000001)).2) else ((σ 45 (nN which)), σ))
def rm_yX6_status : Room := { frames := 2, cells := 0, slots := 0, locals := 43 }
set_option maxHeartbeats 4000000 in
set_option maxRecDepth 100000 in
theorem c_yX6_status (l : Launch) (G : gG) (ad : Nat → Nat) (hI : gI G.2.2.1 55 ad) (σ : gM) (which : Int32) : gMutI l yX6_status cX6_status 4 (some .int) rm_yX6_status G [.ref (ad 44), .int which] 55 ad (shX G ad) σ (x_status σ which) := by
  refine g_start [.ref (ad 44), .int which] (by decide +kernel) (Nat.le_of_ble_eq_true rfl) ?_
  intro p e s m below meth c ls B Z hl
  obtain ⟨C, hr, hlk⟩ := B
  have hx := C.1
  have hb := C.2.1
  obtain ⟨hX, hP⟩ := Z
  have hS : va_S (gA 55 ad) s.heap s.heap [] := va_S.rf
  revert hP hS
  intro hP hS
  have hl : lv_has ls 4 [(0, .ref (ad 44)), (1, .int which)] := hl
  refine lv_iload_n hx hb dX6_status_0 rfl (lv_at hl 1 rfl) ?_
  refine lv_iconst (v := (-1)) hx hb dX6_status_1 (by decide) ?_
  refine lv_icmp_ne (tgt := 32) hx hb dX6_status_2 (by decide) (fun c1 => ?_) (fun c1 => ?_)
  · refine lv_iload_n hx hb dX6_status_32 rfl (lv_at hl 1 rfl) ?_
    refine lv_bipush (v := 6) hx hb dX6_status_33 (by decide) ?_
    refine g_rd (g_runS (As := [.int which, .int 6]) (rest := []) ky_yX6_isWithin lk_RX6_51 C (c_yX6_isWithin l which 6) ⟨rfl, rfl, by decide, by decide⟩ rfl hl.1 rfl (Nat.le_of_ble_eq_true rfl) ⟨Nat.zero_le _, Nat.zero_le _⟩ dX6_status_35) ?_
    refine lv_if_eq (tgt := 50) hx hb dX6_status_38 (by decide) (fun c2 => ?_) (fun c2 => ?_)
    · refine lv_aload_n hx hb dX6_status_50 rfl (lv_at hl 0 rfl) ?_
      refine lv_ldc hx hb C.2.2.2.1 (C.2.2.2.2 _ kc_RX6_59) dX6_status_51 ?_
      refine g_wrI0 hS (g_runV (As := [.int (-1000001)]) (rest := []) ky_yX6_finding lk_RX6_60 C hX (gS_b0 hI hS) hP 44 (c_yX6_finding l G ad hI σ (-1000001)) (by decide) (shX_44 G ad _) ⟨rfl, rfl, by decide, by decide⟩ rfl hl.1 rfl (Nat.le_of_ble_eq_true rfl) ⟨Nat.zero_le _, Nat.zero_le _⟩ dX6_status_53) (fun H locs hP hS => ?_)
      exact g_iretM C hr hlk rfl (by rw [x_status, if_neg c1, if_pos c2]) hP hS dX6_status_56
    · obtain ⟨hw1, hw2⟩ := isW_of (M := 6) (by decide) c2
      refine lv_aload_n hx hb dX6_status_41 rfl (lv_at hl 0 rfl) ?_
      refine g_get fd_RX6_47 C hX hP 44 (by decide) (shX_44 G ad _) (v := .ref (ad 45)) rfl dX6_status_42 ?_
      refine lv_iload_n hx hb dX6_status_45 rfl (lv_at hl 1 rfl) ?_
      refine lv_as (y := (nI (nN which))) hw1 ?_
      refine g_iald C hX hP 45 (by decide) (shX_45 G ad _) (nN which) (by omega) (by decide) dX6_status_46 ?_
      refine lv_goto (tgt := 56) hx hb dX6_status_47 (by decide) ?_
      exact g_iretM C hr hlk rfl (by rw [x_status, if_neg c1, if_neg c2]) hP hS dX6_status_56
  · refine lv_iconst (v := 0) hx hb dX6_status_5 (by decide) ?_
    refine lv_istore_n (lv' := [(2, .int 0), (0, .ref (ad 44)), (1, .int which)]) hx hb dX6_status_6 rfl hl (by decide) rfl (fun ls hl => ?_)
    refine lv_iconst (v := 0) hx hb dX6_status_7 (by decide) ?_
    refine lv_istore_n (lv' := [(3, .int 0), (2, .int 0), (0, .ref (ad 44)), (1, .int which)]) hx hb dX6_status_8 rfl hl (by decide) rfl (fun ls hl => ?_)
    suffices loop9 : ∀ (n9 : Nat) (i : Nat) (acc : Int32) (H : Heap) (locs : List Loc) (ls : Array Slot), (i + n9 = 7) → x_status σ which = (x_status_L9 σ which n9 i acc) → gP G.1 55 ad (gE (shX G ad) σ) H → va_S (gA 55 ad) s.heap H locs → lv_has ls 4 [(3, .int (nI i)), (2, .int acc), (0, .ref (ad 44)), (1, .int which)] → W p l e rm_yX6_status s m ([.ref (ad 44), .int which] : List Value).toArray below meth c H locs 0 0 (MQ below (va_Qi (fun (x : Int32) (τ : gM) => x_status σ which = (x, τ)) (fun τ t => gP G.1 55 ad (gE (shX G ad) τ) t.heap) (gA 55 ad)) ([.ref (ad 44), .int which] : List Value).toArray s 0 0 (gA 55 ad)) (F0 m 9 ls []) by
      exact loop9 7 0 0 _ _ _ (by omega) (by rw [x_status, if_pos c1]) hP hS (lv_sub hl [0, 1, 2, 3] rfl)
    intro n9
    induction n9 with
    | zero =>
      intro i acc H locs ls hi9 hres9 hP hS hl
      refine lv_iload_n hx hb dX6_status_9 rfl (lv_at hl 0 rfl) ?_
      refine lv_bipush (v := 7) hx hb dX6_status_10 (by decide) ?_
      refine lv_icmp_ge (tgt := 30) hx hb dX6_status_12 (by decide) (fun c3 => ?_) (fun c3 => ?_)
      · refine lv_iload_n hx hb dX6_status_30 rfl (lv_at hl 1 rfl) ?_
        exact g_iretM C hr hlk rfl (by rw [hres9, x_status_L9]) hP hS dX6_status_31
      · exact absurd (show nI (7) ≤ nI i from nI_le (by omega) (by omega)) c3
    | succ n9 ih9 =>
      intro i acc H locs ls hi9 hres9 hP hS hl
      refine lv_iload_n hx hb dX6_status_9 rfl (lv_at hl 0 rfl) ?_
      refine lv_bipush (v := 7) hx hb dX6_status_10 (by decide) ?_
      refine lv_icmp_ge (tgt := 30) hx hb dX6_status_12 (by decide) (fun c4 => ?_) (fun c4 => ?_)
      · exact absurd (show nI (7) ≤ nI i from c4) (nI_ge (by omega) (by omega))
      · refine lv_iload_n hx hb dX6_status_15 rfl (lv_at hl 1 rfl) ?_
        refine lv_aload_n hx hb dX6_status_16 rfl (lv_at hl 2 rfl) ?_
        refine g_get fd_RX6_47 C hX hP 44 (by decide) (shX_44 G ad _) (v := .ref (ad 45)) rfl dX6_status_17 ?_
        refine lv_iload_n hx hb dX6_status_20 rfl (lv_at hl 0 rfl) ?_
        refine g_iald C hX hP 45 (by decide) (shX_45 G ad _) i (by omega) (by decide) dX6_status_21 ?_
        refine lv_iadd hx hb dX6_status_22 ?_
        refine lv_istore_n (lv' := [(2, .int (acc + (σ 45 i))), (3, .int (nI i)), (0, .ref (ad 44)), (1, .int which)]) hx hb dX6_status_23 rfl hl (by decide) rfl (fun ls hl => ?_)
        refine lv_iinc (v := (nI (i + 1))) (lv' := [(3, .int (nI (i + 1))), (2, .int (acc + (σ 45 i))), (0, .ref (ad 44)), (1, .int which)]) hx hb dX6_status_24 hl (k := 1) rfl (by exact nI_1 _) (by decide) rfl (fun ls hl => ?_)
        refine lv_goto (tgt := 9) hx hb dX6_status_27 (by decide) ?_
        exact ih9 (i + 1) (acc + (σ 45 i)) _ _ _ (by omega) (by rw [hres9, x_status_L9]) hP hS (lv_sub hl [0, 1, 2, 3] rfl)
