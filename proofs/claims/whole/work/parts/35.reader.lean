def x_takes4 (σ : gM) (sort : Int32) : Int32 × gM := if (σ 12 1) = 0 then (if (x_sortAt5 (mget σ 13) (σ 12 0)) = sort then (1, (mset σ 12 0 ((σ 12 0) + 1))) else (0, σ)) else (0, σ)
def rm_yX4_takes : Room := { frames := 1, cells := 0, slots := 0, locals := 21 }
set_option maxHeartbeats 4000000 in
set_option maxRecDepth 100000 in
theorem c_yX4_takes (l : Launch) (G : gG) (ad : Nat → Nat) (hI : gI G.2.2.1 20 ad) (σ : gM) (sort : Int32) (L : Nat) (hL : L ≤ 121) (hlen : σ 13 0 = nI L) : gMutI l yX4_takes cX4_takes 2 (some .boolean) rm_yX4_takes G [.ref (ad 12), .int sort] 20 ad (shR G ad) σ (x_takes4 σ sort) := by
  refine g_start [.ref (ad 12), .int sort] (by decide +kernel) (Nat.le_of_ble_eq_true rfl) ?_
  intro p e s m below meth c ls B Z hl
  obtain ⟨C, hr, hlk⟩ := B
  have hx := C.1
  have hb := C.2.1
  obtain ⟨hX, hP⟩ := Z
  have hS : va_S (gA 20 ad) s.heap s.heap [] := va_S.rf
  revert hP hS
  intro hP hS
  have hl : lv_has ls 2 [(0, .ref (ad 12)), (1, .int sort)] := hl
  refine lv_aload_n hx hb dX4_takes_0 rfl (lv_at hl 0 rfl) ?_
  refine g_get fd_RX4_22 C hX hP 12 (by decide) (shR_12 G ad _) (v := .int (σ 12 1)) rfl dX4_takes_1 ?_
  refine lv_if_ne (tgt := 22) hx hb dX4_takes_4 (by decide) (fun c1 => ?_) (fun c1 => ?_)
  · refine lv_iconst (v := 0) hx hb dX4_takes_22 (by decide) ?_
    exact g_iretM C hr hlk rfl (by rw [x_takes4, if_neg c1]) hP hS dX4_takes_23
  · refine lv_aload_n hx hb dX4_takes_7 rfl (lv_at hl 0 rfl) ?_
    refine g_get fd_RX4_12 C hX hP 12 (by decide) (shR_12 G ad _) (v := .ref (ad 13)) rfl dX4_takes_8 ?_
    refine lv_aload_n hx hb dX4_takes_11 rfl (lv_at hl 0 rfl) ?_
    refine g_get fd_RX4_18 C hX hP 12 (by decide) (shR_12 G ad _) (v := .int (σ 12 0)) rfl dX4_takes_12 ?_
    refine g_rd (g_runV (As := [.int (σ 12 0)]) (rest := []) ky_yX5_sortAt lk_RX4_34 C hX (gS_b0 hI hS) (hP.sub (sh1 := (shK G (fun q_ => ad (13 + q_)))) 13 7 (by omega) (shR_tok G ad)) 0 (c_yX5_sortAt l G (fun q_ => ad (13 + q_)) (hI.sub (m := 7) 13 (by omega)) (mget σ 13) (σ 12 0) L hL hlen) (by decide) (shK_0 G (fun q_ => ad (13 + q_)) _) ⟨rfl, rfl, by decide, by decide⟩ rfl hl.1 rfl (Nat.le_of_ble_eq_true rfl) ⟨Nat.zero_le _, Nat.zero_le _⟩ dX4_takes_15) ?_
    refine lv_iload_n hx hb dX4_takes_18 rfl (lv_at hl 1 rfl) ?_
    refine lv_icmp_eq (tgt := 24) hx hb dX4_takes_19 (by decide) (fun c2 => ?_) (fun c2 => ?_)
    · refine lv_aload_n hx hb dX4_takes_24 rfl (lv_at hl 0 rfl) ?_
      refine lv_dup hx hb dX4_takes_25 rfl ?_
      refine g_get fd_RX4_18 C hX hP 12 (by decide) (shR_12 G ad _) (v := .int (σ 12 0)) rfl dX4_takes_26 ?_
      refine lv_iconst (v := 1) hx hb dX4_takes_29 (by decide) ?_
      refine lv_iadd hx hb dX4_takes_30 ?_
      refine g_put fd_RX4_18 C hX hI hP hS 12 (by decide) (shR_12 G ad _) rfl rfl (Nat.le_of_ble_eq_true rfl) (upd (σ 12) 0 ((σ 12 0) + 1)) rfl dX4_takes_31 (fun H locs hP hS => ?_)
      have hP : gP G.1 20 ad (gE (shR G ad) (mset σ 12 0 ((σ 12 0) + 1))) H := hP
      refine lv_iconst (v := 1) hx hb dX4_takes_34 (by decide) ?_
      exact g_iretM C hr hlk rfl (by rw [x_takes4, if_pos c1, if_pos c2]) hP hS dX4_takes_35
    · refine lv_iconst (v := 0) hx hb dX4_takes_22 (by decide) ?_
      exact g_iretM C hr hlk rfl (by rw [x_takes4, if_pos c1, if_neg c2]) hP hS dX4_takes_23

def x_takeNumber4 (σ : gM) (most : Int32) : Int32 × gM := if (σ 12 1) = 0 then (if (x_sortAt5 (mget σ 13) (σ 12 0)) = 14 then (if (x_numberAt5 (mget σ 13) (σ 12 0)) ≤ most then ((x_numberAt5 (mget σ 13) (σ 12 0)), (mset σ 12 0 ((σ 12 0) + 1))) else (0, (mset σ 12 1 1))) else (0, (mset σ 12 1 1))) else (0, (mset σ 12 1 1))
def rm_yX4_takeNumber : Room := { frames := 1, cells := 0, slots := 0, locals := 21 }
set_option maxHeartbeats 4000000 in
set_option maxRecDepth 100000 in
theorem c_yX4_takeNumber (l : Launch) (G : gG) (ad : Nat → Nat) (hI : gI G.2.2.1 20 ad) (σ : gM) (most : Int32) (L : Nat) (hL : L ≤ 121) (hlen : σ 13 0 = nI L) : gMutI l yX4_takeNumber cX4_takeNumber 3 (some .int) rm_yX4_takeNumber G [.ref (ad 12), .int most] 20 ad (shR G ad) σ (x_takeNumber4 σ most) := by
  refine g_start [.ref (ad 12), .int most] (by decide +kernel) (Nat.le_of_ble_eq_true rfl) ?_
  intro p e s m below meth c ls B Z hl
  obtain ⟨C, hr, hlk⟩ := B
  have hx := C.1
  have hb := C.2.1
  obtain ⟨hX, hP⟩ := Z
  have hS : va_S (gA 20 ad) s.heap s.heap [] := va_S.rf
  revert hP hS
  intro hP hS
  have hl : lv_has ls 3 [(0, .ref (ad 12)), (1, .int most)] := hl
  refine lv_aload_n hx hb dX4_takeNumber_0 rfl (lv_at hl 0 rfl) ?_
  refine g_get fd_RX4_12 C hX hP 12 (by decide) (shR_12 G ad _) (v := .ref (ad 13)) rfl dX4_takeNumber_1 ?_
  refine lv_aload_n hx hb dX4_takeNumber_4 rfl (lv_at hl 0 rfl) ?_
  refine g_get fd_RX4_18 C hX hP 12 (by decide) (shR_12 G ad _) (v := .int (σ 12 0)) rfl dX4_takeNumber_5 ?_
  refine g_rd (g_runV (As := [.int (σ 12 0)]) (rest := []) ky_yX5_numberAt lk_RX4_99 C hX (gS_b0 hI hS) (hP.sub (sh1 := (shK G (fun q_ => ad (13 + q_)))) 13 7 (by omega) (shR_tok G ad)) 0 (c_yX5_numberAt l G (fun q_ => ad (13 + q_)) (hI.sub (m := 7) 13 (by omega)) (mget σ 13) (σ 12 0) L hL hlen) (by decide) (shK_0 G (fun q_ => ad (13 + q_)) _) ⟨rfl, rfl, by decide, by decide⟩ rfl hl.1 rfl (Nat.le_of_ble_eq_true rfl) ⟨Nat.zero_le _, Nat.zero_le _⟩ dX4_takeNumber_8) ?_
  refine lv_istore_n (lv' := [(2, .int (x_numberAt5 (mget σ 13) (σ 12 0))), (0, .ref (ad 12)), (1, .int most)]) hx hb dX4_takeNumber_11 rfl hl (by decide) rfl (fun ls hl => ?_)
  refine lv_aload_n hx hb dX4_takeNumber_12 rfl (lv_at hl 1 rfl) ?_
  refine g_get fd_RX4_22 C hX hP 12 (by decide) (shR_12 G ad _) (v := .int (σ 12 1)) rfl dX4_takeNumber_13 ?_
  refine lv_if_ne (tgt := 40) hx hb dX4_takeNumber_16 (by decide) (fun c1 => ?_) (fun c1 => ?_)
  · refine lv_aload_n hx hb dX4_takeNumber_40 rfl (lv_at hl 1 rfl) ?_
    refine lv_iconst (v := 1) hx hb dX4_takeNumber_41 (by decide) ?_
    refine g_put fd_RX4_22 C hX hI hP hS 12 (by decide) (shR_12 G ad _) rfl rfl (Nat.le_of_ble_eq_true rfl) (upd (σ 12) 1 1) rfl dX4_takeNumber_42 (fun H locs hP hS => ?_)
    have hP : gP G.1 20 ad (gE (shR G ad) (mset σ 12 1 1)) H := hP
    refine lv_iconst (v := 0) hx hb dX4_takeNumber_45 (by decide) ?_
    exact g_iretM C hr hlk rfl (by rw [x_takeNumber4, if_neg c1]) hP hS dX4_takeNumber_46
  · refine lv_aload_n hx hb dX4_takeNumber_19 rfl (lv_at hl 1 rfl) ?_
    refine g_get fd_RX4_12 C hX hP 12 (by decide) (shR_12 G ad _) (v := .ref (ad 13)) rfl dX4_takeNumber_20 ?_
    refine lv_aload_n hx hb dX4_takeNumber_23 rfl (lv_at hl 1 rfl) ?_
    refine g_get fd_RX4_18 C hX hP 12 (by decide) (shR_12 G ad _) (v := .int (σ 12 0)) rfl dX4_takeNumber_24 ?_
    refine g_rd (g_runV (As := [.int (σ 12 0)]) (rest := []) ky_yX5_sortAt lk_RX4_34 C hX (gS_b0 hI hS) (hP.sub (sh1 := (shK G (fun q_ => ad (13 + q_)))) 13 7 (by omega) (shR_tok G ad)) 0 (c_yX5_sortAt l G (fun q_ => ad (13 + q_)) (hI.sub (m := 7) 13 (by omega)) (mget σ 13) (σ 12 0) L hL hlen) (by decide) (shK_0 G (fun q_ => ad (13 + q_)) _) ⟨rfl, rfl, by decide, by decide⟩ rfl hl.1 rfl (Nat.le_of_ble_eq_true rfl) ⟨Nat.zero_le _, Nat.zero_le _⟩ dX4_takeNumber_27) ?_
    refine lv_bipush (v := 14) hx hb dX4_takeNumber_30 (by decide) ?_
    refine lv_icmp_ne (tgt := 40) hx hb dX4_takeNumber_32 (by decide) (fun c2 => ?_) (fun c2 => ?_)
    · refine lv_aload_n hx hb dX4_takeNumber_40 rfl (lv_at hl 1 rfl) ?_
      refine lv_iconst (v := 1) hx hb dX4_takeNumber_41 (by decide) ?_
      refine g_put fd_RX4_22 C hX hI hP hS 12 (by decide) (shR_12 G ad _) rfl rfl (Nat.le_of_ble_eq_true rfl) (upd (σ 12) 1 1) rfl dX4_takeNumber_42 (fun H locs hP hS => ?_)
      have hP : gP G.1 20 ad (gE (shR G ad) (mset σ 12 1 1)) H := hP
      refine lv_iconst (v := 0) hx hb dX4_takeNumber_45 (by decide) ?_
      exact g_iretM C hr hlk rfl (by rw [x_takeNumber4, if_pos c1, if_neg c2]) hP hS dX4_takeNumber_46
    · refine lv_iload_n hx hb dX4_takeNumber_35 rfl (lv_at hl 0 rfl) ?_
      refine lv_iload_n hx hb dX4_takeNumber_36 rfl (lv_at hl 2 rfl) ?_
      refine lv_icmp_le (tgt := 47) hx hb dX4_takeNumber_37 (by decide) (fun c3 => ?_) (fun c3 => ?_)
      · refine lv_aload_n hx hb dX4_takeNumber_47 rfl (lv_at hl 1 rfl) ?_
        refine lv_dup hx hb dX4_takeNumber_48 rfl ?_
        refine g_get fd_RX4_18 C hX hP 12 (by decide) (shR_12 G ad _) (v := .int (σ 12 0)) rfl dX4_takeNumber_49 ?_
        refine lv_iconst (v := 1) hx hb dX4_takeNumber_52 (by decide) ?_
        refine lv_iadd hx hb dX4_takeNumber_53 ?_
        refine g_put fd_RX4_18 C hX hI hP hS 12 (by decide) (shR_12 G ad _) rfl rfl (Nat.le_of_ble_eq_true rfl) (upd (σ 12) 0 ((σ 12 0) + 1)) rfl dX4_takeNumber_54 (fun H locs hP hS => ?_)
        have hP : gP G.1 20 ad (gE (shR G ad) (mset σ 12 0 ((σ 12 0) + 1))) H := hP
        refine lv_iload_n hx hb dX4_takeNumber_57 rfl (lv_at hl 0 rfl) ?_
        exact g_iretM C hr hlk rfl (by rw [x_takeNumber4, if_pos c1, if_pos c2, if_pos c3]) hP hS dX4_takeNumber_58
      · refine lv_aload_n hx hb dX4_takeNumber_40 rfl (lv_at hl 1 rfl) ?_
        refine lv_iconst (v := 1) hx hb dX4_takeNumber_41 (by decide) ?_
        refine g_put fd_RX4_22 C hX hI hP hS 12 (by decide) (shR_12 G ad _) rfl rfl (Nat.le_of_ble_eq_true rfl) (upd (σ 12) 1 1) rfl dX4_takeNumber_42 (fun H locs hP hS => ?_)
        have hP : gP G.1 20 ad (gE (shR G ad) (mset σ 12 1 1)) H := hP
        refine lv_iconst (v := 0) hx hb dX4_takeNumber_45 (by decide) ?_
        exact g_iretM C hr hlk rfl (by rw [x_takeNumber4, if_pos c1, if_pos c2, if_neg c3]) hP hS dX4_takeNumber_46

theorem tk_row {σ : gM} {k : Nat} (hk : ¬ k = 12) (so : Int32) : (x_takes4 σ so).2 k = σ k := by
  unfold x_takes4
  repeat' split
  all_goals first | exact mset_ne _ _ _ hk | rfl
theorem tn_row {σ : gM} {k : Nat} (hk : ¬ k = 12) (mo : Int32) : (x_takeNumber4 σ mo).2 k = σ k := by
  unfold x_takeNumber4
  repeat' split
  all_goals first | exact mset_ne _ _ _ hk | rfl
theorem na_pos {σ : gM} (h : ∀ j, j < 121 → ¬ σ 4 j < 0) {L : Nat} (hL : L ≤ 121) (hlen : σ 0 0 = nI L) (k : Int32) : ¬ x_numberAt5 σ k < 0 := by
  unfold x_numberAt5
  by_cases c1 : k < 0
  · rw [if_pos c1]; decide
  · rw [if_neg c1]
    by_cases c2 : σ 0 0 ≤ k
    · rw [if_pos c2]; decide
    · rw [if_neg c2]
      exact h _ (by have := (ix_of (by omega) hlen c1 c2).2; omega)
/-- a number that was taken, with no fault behind it -/
theorem tn_ok {σ : gM} {L : Nat} (hL : L ≤ 121) (hlen : σ 13 0 = nI L) (hn : ∀ j, j < 121 → ¬ σ 17 j < 0) {mo : Int32} (h : (x_takeNumber4 σ mo).2 12 1 = 0) : σ 12 1 = 0 ∧ ¬ (x_takeNumber4 σ mo).1 < 0 ∧ (x_takeNumber4 σ mo).1 ≤ mo := by
  have hp := na_pos (σ := mget σ 13) hn hL hlen (σ 12 0)
  unfold x_takeNumber4 at h ⊢
  by_cases c1 : σ 12 1 = 0
  · refine ⟨c1, ?_⟩
    rw [if_pos c1] at h ⊢
    by_cases c2 : x_sortAt5 (mget σ 13) (σ 12 0) = 14
    · rw [if_pos c2] at h ⊢
      by_cases c3 : x_numberAt5 (mget σ 13) (σ 12 0) ≤ mo
      · rw [if_pos c3] at h ⊢
        exact ⟨hp, c3⟩
      · rw [if_neg c3] at h
        exact absurd h (by show ¬ (1 : Int32) = 0; decide)
    · rw [if_neg c2] at h
      exact absurd h (by show ¬ (1 : Int32) = 0; decide)
  · rw [if_neg c1] at h
    exact absurd h (by show ¬ (1 : Int32) = 0; decide)
theorem nat_le {x y : Int32} {M : Nat} (h0 : ¬ x < 0) (h1 : x ≤ y) (hy : y.toInt < M) : x = nI (nN x) ∧ nN x < M := by
  obtain ⟨j, hj, rfl⟩ := nI_of h0
  rw [nN_nI hj]
  have := Int32.le_iff_toInt_le.mp h1
  rw [nI_toInt hj] at this
  exact ⟨rfl, by omega⟩

def x_takeTrait4 (σ : gM) (word : Int32) (g : Nat) (trait : Int32) : gM := if (x_takes4 σ word).1 = 0 then (x_takes4 σ word).2 else (mput (x_takeNumber4 (x_takes4 σ word).2 (x_mostOf1 trait)).2 g 1 (x_setTrait1 (mget (x_takeNumber4 (x_takes4 σ word).2 (x_mostOf1 trait)).2 g) trait (x_takeNumber4 (x_takes4 σ word).2 (x_mostOf1 trait)).1))
def rm_yX4_takeTrait : Room := { frames := 2, cells := 0, slots := 0, locals := 43 }
set_option maxHeartbeats 4000000 in
set_option maxRecDepth 100000 in
theorem c_yX4_takeTrait (l : Launch) (G : gG) (ad : Nat → Nat) (hI : gI G.2.2.1 20 ad) (σ : gM) (word : Int32) (g : Nat) (trait : Int32) (L : Nat) (hL : L ≤ 121) (hlen : σ 13 0 = nI L) (hg : g < 8) : gMutV l yX4_takeTrait cX4_takeTrait 4 none rm_yX4_takeTrait G [.ref (ad 12), .int word, .ref (ad g), .int trait] 20 ad (shR G ad) σ (x_takeTrait4 σ word g trait) := by
  refine g_start [.ref (ad 12), .int word, .ref (ad g), .int trait] (by decide +kernel) (Nat.le_of_ble_eq_true rfl) ?_
  intro p e s m below meth c ls B Z hl
  obtain ⟨C, hr, hlk⟩ := B
  have hx := C.1
  have hb := C.2.1
  obtain ⟨hX, hP⟩ := Z
  have hS : va_S (gA 20 ad) s.heap s.heap [] := va_S.rf
  revert hP hS
  intro hP hS
  have hl : lv_has ls 4 [(0, .ref (ad 12)), (1, .int word), (2, .ref (ad g)), (3, .int trait)] := hl
  refine lv_aload_n hx hb dX4_takeTrait_0 rfl (lv_at hl 0 rfl) ?_
  refine lv_iload_n hx hb dX4_takeTrait_1 rfl (lv_at hl 1 rfl) ?_
  refine g_wrI0 hS (g_runV (As := [.int word]) (rest := []) ky_yX4_takes lk_RX4_38 C hX (gS_b0 hI hS) hP 12 (c_yX4_takes l G ad hI σ word L hL hlen) (by decide) (shR_12 G ad _) ⟨rfl, rfl, by decide, by decide⟩ rfl hl.1 rfl (Nat.le_of_ble_eq_true rfl) ⟨Nat.zero_le _, Nat.zero_le _⟩ dX4_takeTrait_2) (fun H locs hP hS => ?_)
  refine lv_if_eq (tgt := 21) hx hb dX4_takeTrait_5 (by decide) (fun c1 => ?_) (fun c1 => ?_)
  · exact g_vretM C hr hlk (by rw [x_takeTrait4, if_pos c1]) hP hS dX4_takeTrait_21
  · refine lv_aload_n hx hb dX4_takeTrait_8 rfl (lv_at hl 2 rfl) ?_
    refine lv_iload_n hx hb dX4_takeTrait_9 rfl (lv_at hl 3 rfl) ?_
    refine lv_aload_n hx hb dX4_takeTrait_10 rfl (lv_at hl 0 rfl) ?_
    refine lv_iload_n hx hb dX4_takeTrait_11 rfl (lv_at hl 3 rfl) ?_
    refine g_rd (g_runSW (As := [.int trait]) (rest := [.ref (ad 12), .int trait, .ref (ad g)]) ky_yX1_mostOf lk_RX4_92 C hX (gS_b0 hI hS) (gP0 _ _ _ _) (c_yX1_mostOf l G ad gI0 (x_takes4 σ word).2 trait) ⟨rfl, rfl, by decide, by decide⟩ rfl hl.1 rfl (Nat.le_of_ble_eq_true rfl) ⟨Nat.zero_le _, Nat.zero_le _⟩ dX4_takeTrait_12) ?_
    refine g_wrI0 hS (g_runV (As := [.int (x_mostOf1 trait)]) (rest := [.int trait, .ref (ad g)]) ky_yX4_takeNumber lk_RX4_54 C hX (gS_b0 hI hS) hP 12 (c_yX4_takeNumber l G ad hI (x_takes4 σ word).2 (x_mostOf1 trait) L hL (by rw [tk_row (by decide)]; exact hlen)) (by decide) (shR_12 G ad _) ⟨rfl, rfl, by decide, by decide⟩ rfl hl.1 rfl (Nat.le_of_ble_eq_true rfl) ⟨Nat.zero_le _, Nat.zero_le _⟩ dX4_takeTrait_15) (fun H locs hP hS => ?_)
    refine g_wrV (o := g) (m1 := 1) (by omega) (shR_glove G ad hg) hI hP hS (g_runV (As := [.int trait, .int (x_takeNumber4 (x_takes4 σ word).2 (x_mostOf1 trait)).1]) (rest := []) ky_yX1_setTrait lk_RX4_95 C hX (gS_b0 hI hS) (hP.sub (sh1 := shG) g 1 (by omega) (shR_glove G ad hg)) 0 (c_yX1_setTrait l G (fun q_ => ad (g + q_)) (hI.sub (m := 1) g (by omega)) (mget (x_takeNumber4 (x_takes4 σ word).2 (x_mostOf1 trait)).2 g) trait (x_takeNumber4 (x_takes4 σ word).2 (x_mostOf1 trait)).1) (by decide) (shG_g _) ⟨rfl, rfl, by decide, by decide⟩ rfl hl.1 rfl (Nat.le_of_ble_eq_true rfl) ⟨Nat.zero_le _, Nat.zero_le _⟩ dX4_takeTrait_18) (fun H locs hP hS => ?_)
    exact g_vretM C hr hlk (by rw [x_takeTrait4, if_neg c1]) hP hS dX4_takeTrait_21

def x_takeSaying4_m4 (σ : gM) (σ1 : gM) (pv : Int32) (σ2 : gM) (rv : Int32) (σ3 : gM) (tv : Int32) (σ4 : gM) (lv : Int32) : gM := if (σ4 12 1) = 0 then (mset σ4 9 (nN pv) (x_sayingOf rv tv lv)) else σ4
def x_takeSaying4_m3 (σ : gM) (σ1 : gM) (pv : Int32) (σ2 : gM) (rv : Int32) (σ3 : gM) (tv : Int32) : gM := (x_takeSaying4_m4 σ σ1 pv σ2 rv σ3 tv (x_takeNumber4 σ3 9).2 (x_takeNumber4 σ3 9).1)
def x_takeSaying4_m2 (σ : gM) (σ1 : gM) (pv : Int32) (σ2 : gM) (rv : Int32) : gM := (x_takeSaying4_m3 σ σ1 pv σ2 rv (x_takeNumber4 σ2 15).2 (x_takeNumber4 σ2 15).1)
def x_takeSaying4_m1 (σ : gM) (σ1 : gM) (pv : Int32) : gM := (x_takeSaying4_m2 σ σ1 pv (x_takeNumber4 σ1 5).2 (x_takeNumber4 σ1 5).1)
def x_takeSaying4 (σ : gM) : gM := (x_takeSaying4_m1 σ (x_takeNumber4 σ 5).2 (x_takeNumber4 σ 5).1)
def rm_yX4_takeSaying : Room := { frames := 2, cells := 0, slots := 0, locals := 43 }
set_option maxHeartbeats 4000000 in
set_option maxRecDepth 100000 in
theorem c_yX4_takeSaying (l : Launch) (G : gG) (ad : Nat → Nat) (hI : gI G.2.2.1 20 ad) (σ : gM) (L : Nat) (hL : L ≤ 121) (hlen : σ 13 0 = nI L) (hn : ∀ j, j < 121 → ¬ σ 17 j < 0) : gMutV l yX4_takeSaying cX4_takeSaying 6 none rm_yX4_takeSaying G [.ref (ad 12), .ref (ad 8)] 20 ad (shR G ad) σ (x_takeSaying4 σ) := by
  refine g_start [.ref (ad 12), .ref (ad 8)] (by decide +kernel) (Nat.le_of_ble_eq_true rfl) ?_
  intro p e s m below meth c ls B Z hl
  obtain ⟨C, hr, hlk⟩ := B
  have hx := C.1
  have hb := C.2.1
  obtain ⟨hX, hP⟩ := Z
  have hS : va_S (gA 20 ad) s.heap s.heap [] := va_S.rf
  revert hP hS
  intro hP hS
  have hl : lv_has ls 6 [(0, .ref (ad 12)), (1, .ref (ad 8))] := hl
  refine lv_aload_n hx hb dX4_takeSaying_0 rfl (lv_at hl 0 rfl) ?_
  refine lv_iconst (v := 5) hx hb dX4_takeSaying_1 (by decide) ?_
  refine g_wrI0 hS (g_runV (As := [.int 5]) (rest := []) ky_yX4_takeNumber lk_RX4_54 C hX (gS_b0 hI hS) hP 12 (c_yX4_takeNumber l G ad hI σ 5 L hL hlen) (by decide) (shR_12 G ad _) ⟨rfl, rfl, by decide, by decide⟩ rfl hl.1 rfl (Nat.le_of_ble_eq_true rfl) ⟨Nat.zero_le _, Nat.zero_le _⟩ dX4_takeSaying_2) (fun H locs hP hS => ?_)
  obtain ⟨σ1, eσ1⟩ : ∃ τ_ : gM, τ_ = (x_takeNumber4 σ 5).2 := ⟨_, rfl⟩
  rw [← eσ1] at hP
  have h13σ1 : σ1 13 0 = nI L := by rw [eσ1, tn_row (by decide)]; exact hlen
  have h17σ1 : σ1 17 = σ 17 := by rw [eσ1, tn_row (by decide)]
  obtain ⟨pv, epv⟩ : ∃ z : Int32, z = (x_takeNumber4 σ 5).1 := ⟨_, rfl⟩
  refine lv_as (y := pv) epv.symm ?_
  refine lv_istore_n (lv' := [(2, .int pv), (0, .ref (ad 12)), (1, .ref (ad 8))]) hx hb dX4_takeSaying_5 rfl hl (by decide) rfl (fun ls hl => ?_)
  refine lv_aload_n hx hb dX4_takeSaying_6 rfl (lv_at hl 1 rfl) ?_
  refine lv_iconst (v := 5) hx hb dX4_takeSaying_7 (by decide) ?_
  refine g_wrI0 hS (g_runV (As := [.int 5]) (rest := []) ky_yX4_takeNumber lk_RX4_54 C hX (gS_b0 hI hS) hP 12 (c_yX4_takeNumber l G ad hI σ1 5 L hL h13σ1) (by decide) (shR_12 G ad _) ⟨rfl, rfl, by decide, by decide⟩ rfl hl.1 rfl (Nat.le_of_ble_eq_true rfl) ⟨Nat.zero_le _, Nat.zero_le _⟩ dX4_takeSaying_8) (fun H locs hP hS => ?_)
  obtain ⟨σ2, eσ2⟩ : ∃ τ_ : gM, τ_ = (x_takeNumber4 σ1 5).2 := ⟨_, rfl⟩
  rw [← eσ2] at hP
  have h13σ2 : σ2 13 0 = nI L := by rw [eσ2, tn_row (by decide)]; exact h13σ1
  have h17σ2 : σ2 17 = σ1 17 := by rw [eσ2, tn_row (by decide)]
  obtain ⟨rv, erv⟩ : ∃ z : Int32, z = (x_takeNumber4 σ1 5).1 := ⟨_, rfl⟩
  refine lv_as (y := rv) erv.symm ?_
  refine lv_istore_n (lv' := [(3, .int rv), (2, .int pv), (0, .ref (ad 12)), (1, .ref (ad 8))]) hx hb dX4_takeSaying_11 rfl hl (by decide) rfl (fun ls hl => ?_)
  refine lv_aload_n hx hb dX4_takeSaying_12 rfl (lv_at hl 2 rfl) ?_
  refine lv_bipush (v := 15) hx hb dX4_takeSaying_13 (by decide) ?_
  refine g_wrI0 hS (g_runV (As := [.int 15]) (rest := []) ky_yX4_takeNumber lk_RX4_54 C hX (gS_b0 hI hS) hP 12 (c_yX4_takeNumber l G ad hI σ2 15 L hL h13σ2) (by decide) (shR_12 G ad _) ⟨rfl, rfl, by decide, by decide⟩ rfl hl.1 rfl (Nat.le_of_ble_eq_true rfl) ⟨Nat.zero_le _, Nat.zero_le _⟩ dX4_takeSaying_15) (fun H locs hP hS => ?_)
  obtain ⟨σ3, eσ3⟩ : ∃ τ_ : gM, τ_ = (x_takeNumber4 σ2 15).2 := ⟨_, rfl⟩
  rw [← eσ3] at hP
  have h13σ3 : σ3 13 0 = nI L := by rw [eσ3, tn_row (by decide)]; exact h13σ2
  have h17σ3 : σ3 17 = σ2 17 := by rw [eσ3, tn_row (by decide)]
  obtain ⟨tv, etv⟩ : ∃ z : Int32, z = (x_takeNumber4 σ2 15).1 := ⟨_, rfl⟩
  refine lv_as (y := tv) etv.symm ?_
  refine lv_istore (lv' := [(4, .int tv), (3, .int rv), (2, .int pv), (0, .ref (ad 12)), (1, .ref (ad 8))]) hx hb dX4_takeSaying_18 hl (by decide) rfl (fun ls hl => ?_)
  refine lv_aload_n hx hb dX4_takeSaying_20 rfl (lv_at hl 3 rfl) ?_
  refine lv_bipush (v := 9) hx hb dX4_takeSaying_21 (by decide) ?_
  refine g_wrI0 hS (g_runV (As := [.int 9]) (rest := []) ky_yX4_takeNumber lk_RX4_54 C hX (gS_b0 hI hS) hP 12 (c_yX4_takeNumber l G ad hI σ3 9 L hL h13σ3) (by decide) (shR_12 G ad _) ⟨rfl, rfl, by decide, by decide⟩ rfl hl.1 rfl (Nat.le_of_ble_eq_true rfl) ⟨Nat.zero_le _, Nat.zero_le _⟩ dX4_takeSaying_23) (fun H locs hP hS => ?_)
  obtain ⟨σ4, eσ4⟩ : ∃ τ_ : gM, τ_ = (x_takeNumber4 σ3 9).2 := ⟨_, rfl⟩
  rw [← eσ4] at hP
  have h13σ4 : σ4 13 0 = nI L := by rw [eσ4, tn_row (by decide)]; exact h13σ3
  have h17σ4 : σ4 17 = σ3 17 := by rw [eσ4, tn_row (by decide)]
  obtain ⟨lv, elv⟩ : ∃ z : Int32, z = (x_takeNumber4 σ3 9).1 := ⟨_, rfl⟩
  refine lv_as (y := lv) elv.symm ?_
  refine lv_istore (lv' := [(5, .int lv), (4, .int tv), (3, .int rv), (2, .int pv), (0, .ref (ad 12)), (1, .ref (ad 8))]) hx hb dX4_takeSaying_26 hl (by decide) rfl (fun ls hl => ?_)
  refine lv_aload_n hx hb dX4_takeSaying_28 rfl (lv_at hl 4 rfl) ?_
  refine g_get fd_RX4_22 C hX hP 12 (by decide) (shR_12 G ad _) (v := .int (σ4 12 1)) rfl dX4_takeSaying_29 ?_
  refine lv_if_ne (tgt := 49) hx hb dX4_takeSaying_32 (by decide) (fun c1 => ?_) (fun c1 => ?_)
  · exact g_vretM C hr hlk (by rw [x_takeSaying4, ← eσ1, ← epv, x_takeSaying4_m1, ← eσ2, ← erv, x_takeSaying4_m2, ← eσ3, ← etv, x_takeSaying4_m3, ← eσ4, ← elv, x_takeSaying4_m4, if_neg c1]) hP hS dX4_takeSaying_49
  · have hc4 := c1
    rw [eσ4] at hc4
    have hq3 := (tn_ok hL h13σ3 (by rw [h17σ3, h17σ2, h17σ1]; exact hn) hc4).1
    rw [eσ3] at hq3
    have hq2 := (tn_ok hL h13σ2 (by rw [h17σ2, h17σ1]; exact hn) hq3).1
    rw [eσ2] at hq2
    have hq1 := (tn_ok hL h13σ1 (by rw [h17σ1]; exact hn) hq2).1
    rw [eσ1] at hq1
    have hq0 := tn_ok hL hlen hn hq1
    rw [← epv] at hq0
    obtain ⟨hp1, hp2⟩ := nat_le (M := 6) hq0.2.1 hq0.2.2 (by decide)
    refine lv_aload_n hx hb dX4_takeSaying_35 rfl (lv_at hl 5 rfl) ?_
    refine g_get fd_RX4_57 C hX hP 8 (by decide) (shR_8 G ad _) (v := .ref (ad 9)) rfl dX4_takeSaying_36 ?_
    refine lv_iload_n hx hb dX4_takeSaying_39 rfl (lv_at hl 3 rfl) ?_
    refine lv_iload_n hx hb dX4_takeSaying_40 rfl (lv_at hl 2 rfl) ?_
    refine lv_iload hx hb dX4_takeSaying_41 (lv_at hl 1 rfl) ?_
    refine lv_iload hx hb dX4_takeSaying_43 (lv_at hl 0 rfl) ?_
    refine g_rd (g_runSN (As := [.int rv, .int tv, .int lv]) (rest := [.int pv, .ref (ad 9)]) ky_yX6_sayingOf ln_RX4_63 hX C (c_yX6_sayingOf l rv tv lv) ⟨rfl, rfl, by decide, by decide⟩ rfl hl.1 rfl (Nat.le_of_ble_eq_true rfl) ⟨Nat.zero_le _, Nat.zero_le _⟩ dX4_takeSaying_45) ?_
    refine lv_as1 (y := (nI (nN pv))) hp1 ?_
    refine g_iast C hX hI hP hS 9 (by decide) (shR_9 G ad _) (nN pv) hp2 (by decide) (upd (σ4 9) (nN pv) (x_sayingOf rv tv lv)) rfl dX4_takeSaying_48 (fun H locs hP hS => ?_)
    have hP : gP G.1 20 ad (gE (shR G ad) (mset σ4 9 (nN pv) (x_sayingOf rv tv lv))) H := hP
    exact g_vretM C hr hlk (by rw [x_takeSaying4, ← eσ1, ← epv, x_takeSaying4_m1, ← eσ2, ← erv, x_takeSaying4_m2, ← eσ3, ← etv, x_takeSaying4_m3, ← eσ4, ← elv, x_takeSaying4_m4, if_pos c1]) hP hS dX4_takeSaying_49

def x_takeHand4_m2 (σ : gM) (σ1 : gM) (gv : Int32) (σ2 : gM) (tv : Int32) : gM := if (σ2 12 1) = 0 then (mset σ2 (nN gv) 5 tv) else σ2
def x_takeHand4_m1 (σ : gM) (σ1 : gM) (gv : Int32) : gM := (x_takeHand4_m2 σ σ1 gv (x_takeNumber4 σ1 65535).2 (x_takeNumber4 σ1 65535).1)
def x_takeHand4 (σ : gM) : gM := (x_takeHand4_m1 σ (x_takeNumber4 σ ((σ 8 0) - 1)).2 (x_takeNumber4 σ ((σ 8 0) - 1)).1)
def rm_yX4_takeHand : Room := { frames := 2, cells := 0, slots := 0, locals := 43 }
set_option maxHeartbeats 4000000 in
set_option maxRecDepth 100000 in
theorem c_yX4_takeHand (l : Launch) (G : gG) (ad : Nat → Nat) (hI : gI G.2.2.1 20 ad) (σ : gM) (L : Nat) (N : Nat) (hL : L ≤ 121) (hlen : σ 13 0 = nI L) (hn : ∀ j, j < 121 → ¬ σ 17 j < 0) (hN : N ≤ 8) (hs : σ 8 0 = nI N) : gMutV l yX4_takeHand cX4_takeHand 4 none rm_yX4_takeHand G [.ref (ad 12), .ref (ad 8)] 20 ad (shR G ad) σ (x_takeHand4 σ) := by
  refine g_start [.ref (ad 12), .ref (ad 8)] (by decide +kernel) (Nat.le_of_ble_eq_true rfl) ?_
  intro p e s m below meth c ls B Z hl
  obtain ⟨C, hr, hlk⟩ := B
  have hx := C.1
  have hb := C.2.1
  obtain ⟨hX, hP⟩ := Z
  have hS : va_S (gA 20 ad) s.heap s.heap [] := va_S.rf
  revert hP hS
  intro hP hS
  have hl : lv_has ls 4 [(0, .ref (ad 12)), (1, .ref (ad 8))] := hl
  refine lv_aload_n hx hb dX4_takeHand_0 rfl (lv_at hl 0 rfl) ?_
  refine lv_aload_n hx hb dX4_takeHand_1 rfl (lv_at hl 1 rfl) ?_
  refine g_get fd_RX4_67 C hX hP 8 (by decide) (shR_8 G ad _) (v := .int (σ 8 0)) rfl dX4_takeHand_2 ?_
  refine lv_iconst (v := 1) hx hb dX4_takeHand_5 (by decide) ?_
  refine lv_isub hx hb dX4_takeHand_6 ?_
  refine g_wrI0 hS (g_runV (As := [.int ((σ 8 0) - 1)]) (rest := []) ky_yX4_takeNumber lk_RX4_54 C hX (gS_b0 hI hS) hP 12 (c_yX4_takeNumber l G ad hI σ ((σ 8 0) - 1) L hL hlen) (by decide) (shR_12 G ad _) ⟨rfl, rfl, by decide, by decide⟩ rfl hl.1 rfl (Nat.le_of_ble_eq_true rfl) ⟨Nat.zero_le _, Nat.zero_le _⟩ dX4_takeHand_7) (fun H locs hP hS => ?_)
  obtain ⟨σ1, eσ1⟩ : ∃ τ_ : gM, τ_ = (x_takeNumber4 σ ((σ 8 0) - 1)).2 := ⟨_, rfl⟩
  rw [← eσ1] at hP
  have h13σ1 : σ1 13 0 = nI L := by rw [eσ1, tn_row (by decide)]; exact hlen
  have h17σ1 : σ1 17 = σ 17 := by rw [eσ1, tn_row (by decide)]
  obtain ⟨gv, egv⟩ : ∃ z : Int32, z = (x_takeNumber4 σ ((σ 8 0) - 1)).1 := ⟨_, rfl⟩
  refine lv_as (y := gv) egv.symm ?_
  refine lv_istore_n (lv' := [(2, .int gv), (0, .ref (ad 12)), (1, .ref (ad 8))]) hx hb dX4_takeHand_10 rfl hl (by decide) rfl (fun ls hl => ?_)
  refine lv_aload_n hx hb dX4_takeHand_11 rfl (lv_at hl 1 rfl) ?_
  refine lv_ldc hx hb C.2.2.2.1 (C.2.2.2.2 _ kc_RX4_70) dX4_takeHand_12 ?_
  refine g_wrI0 hS (g_runV (As := [.int 65535]) (rest := []) ky_yX4_takeNumber lk_RX4_54 C hX (gS_b0 hI hS) hP 12 (c_yX4_takeNumber l G ad hI σ1 65535 L hL h13σ1) (by decide) (shR_12 G ad _) ⟨rfl, rfl, by decide, by decide⟩ rfl hl.1 rfl (Nat.le_of_ble_eq_true rfl) ⟨Nat.zero_le _, Nat.zero_le _⟩ dX4_takeHand_14) (fun H locs hP hS => ?_)
  obtain ⟨σ2, eσ2⟩ : ∃ τ_ : gM, τ_ = (x_takeNumber4 σ1 65535).2 := ⟨_, rfl⟩
  rw [← eσ2] at hP
  have h13σ2 : σ2 13 0 = nI L := by rw [eσ2, tn_row (by decide)]; exact h13σ1
  have h17σ2 : σ2 17 = σ1 17 := by rw [eσ2, tn_row (by decide)]
  obtain ⟨tv, etv⟩ : ∃ z : Int32, z = (x_takeNumber4 σ1 65535).1 := ⟨_, rfl⟩
  refine lv_as (y := tv) etv.symm ?_
  refine lv_istore_n (lv' := [(3, .int tv), (2, .int gv), (0, .ref (ad 12)), (1, .ref (ad 8))]) hx hb dX4_takeHand_17 rfl hl (by decide) rfl (fun ls hl => ?_)
  refine lv_aload_n hx hb dX4_takeHand_18 rfl (lv_at hl 2 rfl) ?_
  refine g_get fd_RX4_22 C hX hP 12 (by decide) (shR_12 G ad _) (v := .int (σ2 12 1)) rfl dX4_takeHand_19 ?_
  refine lv_if_ne (tgt := 35) hx hb dX4_takeHand_22 (by decide) (fun c1 => ?_) (fun c1 => ?_)
  · exact g_vretM C hr hlk (by rw [x_takeHand4, ← eσ1, ← egv, x_takeHand4_m1, ← eσ2, ← etv, x_takeHand4_m2, if_neg c1]) hP hS dX4_takeHand_35
  · have hc4 := c1
    rw [eσ2] at hc4
    have hq1 := (tn_ok hL h13σ1 (by rw [h17σ1]; exact hn) hc4).1
    rw [eσ1] at hq1
    have hq0 := tn_ok hL hlen hn hq1
    rw [← egv, hs] at hq0
    obtain ⟨hp1, hp2⟩ := nat_le (M := 8) hq0.2.1 hq0.2.2 (by rw [show (1 : Int32) = nI 1 from rfl, pk_sub_toInt (by omega) (by decide)]; omega)
    refine lv_aload_n hx hb dX4_takeHand_25 rfl (lv_at hl 3 rfl) ?_
    refine g_get fd_RX4_71 C hX hP 8 (by decide) (shR_8 G ad _) (v := .ref (ad 11)) rfl dX4_takeHand_26 ?_
    refine lv_iload_n hx hb dX4_takeHand_29 rfl (lv_at hl 1 rfl) ?_
    refine lv_as (y := (nI (nN gv))) hp1 ?_
    refine g_aald (t0 := 2) C hX hP 11 (by decide) (shR_11 G ad _) rfl (nN gv) hp2 (by decide) rfl dX4_takeHand_30 ?_
    refine lv_iload_n hx hb dX4_takeHand_31 rfl (lv_at hl 0 rfl) ?_
    refine g_put fd_RX4_75 C hX hI hP hS (nN gv) (by omega) (shR_g G ad hp2 _) rfl rfl (Nat.le_of_ble_eq_true rfl) (upd (σ2 (nN gv)) 5 tv) (by rw [(shR_g G ad hp2 _)]; rfl) dX4_takeHand_32 (fun H locs hP hS => ?_)
    have hP : gP G.1 20 ad (gE (shR G ad) (mset σ2 (nN gv) 5 tv)) H := hP
    exact g_vretM C hr hlk (by rw [x_takeHand4, ← eσ1, ← egv, x_takeHand4_m1, ← eσ2, ← etv, x_takeHand4_m2, if_pos c1]) hP hS dX4_takeHand_35

theorem tt_row {σ : gM} {g k : Nat} (hk : ¬ k = 12) (hg : ¬ k = g) (wo tr : Int32) : (x_takeTrait4 σ wo g tr) k = σ k := by
  unfold x_takeTrait4
  split
  · exact tk_row hk _
  · rw [mput_out _ _ (by omega), tn_row hk, tk_row hk]
theorem pd_v {σ : gM} {N : Nat} (hN : N < 8) (hs : σ 8 0 = nI N) (k r : Int32) : (x_putDown0 σ k r).1 = nI N ∧ (x_putDown0 σ k r).2 8 0 = nI (N + 1) := by
  unfold x_putDown0
  rw [if_pos (by rw [hs]; exact nI_lt (b := 8) hN (by decide)), hs]
  constructor
  · show nI N + 1 - 1 = _
    rw [nI_1, nI_pred]
  · show nI N + 1 = _
    exact nI_1 N

def x_takeGlove4_m4 (σ : gM) (σ1 : gM) (gv : Int32) (σ2 : gM) (σ3 : gM) (σ4 : gM) : gM := (x_takeTrait4 σ4 10 (nN gv) 4)
def x_takeGlove4_m3 (σ : gM) (σ1 : gM) (gv : Int32) (σ2 : gM) (σ3 : gM) : gM := (x_takeGlove4_m4 σ σ1 gv σ2 σ3 (x_takeTrait4 σ3 9 (nN gv) 3))
def x_takeGlove4_m2 (σ : gM) (σ1 : gM) (gv : Int32) (σ2 : gM) : gM := (x_takeGlove4_m3 σ σ1 gv σ2 (x_takeTrait4 σ2 8 (nN gv) 2))
def x_takeGlove4_m1 (σ : gM) (σ1 : gM) (gv : Int32) : gM := (x_takeGlove4_m2 σ σ1 gv (x_takeTrait4 σ1 7 (nN gv) 1))
def x_takeGlove4 (σ : gM) : gM := if (x_isWithin (x_sortAt5 (mget σ 13) (σ 12 0)) 6) = 0 then (mset σ 12 1 1) else (if (σ 8 0) < 8 then (x_takeGlove4_m1 σ (mput (mset σ 12 0 ((σ 12 0) + 1)) 0 12 (x_putDown0 (mget (mset σ 12 0 ((σ 12 0) + 1)) 0) (x_sortAt5 (mget σ 13) (σ 12 0)) 0).2) (x_putDown0 (mget (mset σ 12 0 ((σ 12 0) + 1)) 0) (x_sortAt5 (mget σ 13) (σ 12 0)) 0).1) else (mset σ 12 1 1))
def rm_yX4_takeGlove : Room := { frames := 3, cells := 0, slots := 0, locals := 66 }
set_option maxHeartbeats 4000000 in
set_option maxRecDepth 100000 in
theorem c_yX4_takeGlove (l : Launch) (G : gG) (ad : Nat → Nat) (hI : gI G.2.2.1 20 ad) (σ : gM) (L : Nat) (N : Nat) (hL : L ≤ 121) (hlen : σ 13 0 = nI L) (hN : N ≤ 8) (hs : σ 8 0 = nI N) : gMutV l yX4_takeGlove cX4_takeGlove 4 none rm_yX4_takeGlove G [.ref (ad 12), .ref (ad 8)] 20 ad (shR G ad) σ (x_takeGlove4 σ) := by
  refine g_start [.ref (ad 12), .ref (ad 8)] (by decide +kernel) (Nat.le_of_ble_eq_true rfl) ?_
  intro p e s m below meth c ls B Z hl
  obtain ⟨C, hr, hlk⟩ := B
  have hx := C.1
  have hb := C.2.1
  obtain ⟨hX, hP⟩ := Z
  have hS : va_S (gA 20 ad) s.heap s.heap [] := va_S.rf
  revert hP hS
  intro hP hS
  have hl : lv_has ls 4 [(0, .ref (ad 12)), (1, .ref (ad 8))] := hl
  refine lv_aload_n hx hb dX4_takeGlove_0 rfl (lv_at hl 0 rfl) ?_
  refine g_get fd_RX4_12 C hX hP 12 (by decide) (shR_12 G ad _) (v := .ref (ad 13)) rfl dX4_takeGlove_1 ?_
  refine lv_aload_n hx hb dX4_takeGlove_4 rfl (lv_at hl 0 rfl) ?_
  refine g_get fd_RX4_18 C hX hP 12 (by decide) (shR_12 G ad _) (v := .int (σ 12 0)) rfl dX4_takeGlove_5 ?_
  refine g_rd (g_runV (As := [.int (σ 12 0)]) (rest := []) ky_yX5_sortAt lk_RX4_34 C hX (gS_b0 hI hS) (hP.sub (sh1 := (shK G (fun q_ => ad (13 + q_)))) 13 7 (by omega) (shR_tok G ad)) 0 (c_yX5_sortAt l G (fun q_ => ad (13 + q_)) (hI.sub (m := 7) 13 (by omega)) (mget σ 13) (σ 12 0) L hL hlen) (by decide) (shK_0 G (fun q_ => ad (13 + q_)) _) ⟨rfl, rfl, by decide, by decide⟩ rfl hl.1 rfl (Nat.le_of_ble_eq_true rfl) ⟨Nat.zero_le _, Nat.zero_le _⟩ dX4_takeGlove_8) ?_
  refine lv_istore_n (lv' := [(2, .int (x_sortAt5 (mget σ 13) (σ 12 0))), (0, .ref (ad 12)), (1, .ref (ad 8))]) hx hb dX4_takeGlove_11 rfl hl (by decide) rfl (fun ls hl => ?_)
  refine lv_iload_n hx hb dX4_takeGlove_12 rfl (lv_at hl 0 rfl) ?_
  refine lv_bipush (v := 6) hx hb dX4_takeGlove_13 (by decide) ?_
  refine g_rd (g_runSN (As := [.int (x_sortAt5 (mget σ 13) (σ 12 0)), .int 6]) (rest := []) ky_yX6_isWithin ln_RX4_80 hX C (c_yX6_isWithin l (x_sortAt5 (mget σ 13) (σ 12 0)) 6) ⟨rfl, rfl, by decide, by decide⟩ rfl hl.1 rfl (Nat.le_of_ble_eq_true rfl) ⟨Nat.zero_le _, Nat.zero_le _⟩ dX4_takeGlove_15) ?_
  refine lv_if_eq (tgt := 30) hx hb dX4_takeGlove_18 (by decide) (fun c1 => ?_) (fun c1 => ?_)
  · refine lv_aload_n hx hb dX4_takeGlove_30 rfl (lv_at hl 1 rfl) ?_
    refine lv_iconst (v := 1) hx hb dX4_takeGlove_31 (by decide) ?_
    refine g_put fd_RX4_22 C hX hI hP hS 12 (by decide) (shR_12 G ad _) rfl rfl (Nat.le_of_ble_eq_true rfl) (upd (σ 12) 1 1) rfl dX4_takeGlove_32 (fun H locs hP hS => ?_)
    have hP : gP G.1 20 ad (gE (shR G ad) (mset σ 12 1 1)) H := hP
    exact g_vretM C hr hlk (by rw [x_takeGlove4, if_pos c1]) hP hS dX4_takeGlove_35
  · refine lv_aload_n hx hb dX4_takeGlove_21 rfl (lv_at hl 2 rfl) ?_
    refine g_get fd_RX4_67 C hX hP 8 (by decide) (shR_8 G ad _) (v := .int (σ 8 0)) rfl dX4_takeGlove_22 ?_
    refine lv_bipush (v := 8) hx hb dX4_takeGlove_25 (by decide) ?_
    refine lv_icmp_lt (tgt := 36) hx hb dX4_takeGlove_27 (by decide) (fun c2 => ?_) (fun c2 => ?_)
    · have hlt : N < 8 := Nat.not_le.mp (fun q => by have hc := c2; rw [hs] at hc; exact absurd hc (show ¬ nI N < nI 8 from nI_nlt q (by omega)))
      refine lv_aload_n hx hb dX4_takeGlove_36 rfl (lv_at hl 1 rfl) ?_
      refine lv_dup hx hb dX4_takeGlove_37 rfl ?_
      refine g_get fd_RX4_18 C hX hP 12 (by decide) (shR_12 G ad _) (v := .int (σ 12 0)) rfl dX4_takeGlove_38 ?_
      refine lv_iconst (v := 1) hx hb dX4_takeGlove_41 (by decide) ?_
      refine lv_iadd hx hb dX4_takeGlove_42 ?_
      refine g_put fd_RX4_18 C hX hI hP hS 12 (by decide) (shR_12 G ad _) rfl rfl (Nat.le_of_ble_eq_true rfl) (upd (σ 12) 0 ((σ 12 0) + 1)) rfl dX4_takeGlove_43 (fun H locs hP hS => ?_)
      have hP : gP G.1 20 ad (gE (shR G ad) (mset σ 12 0 ((σ 12 0) + 1))) H := hP
      refine lv_aload_n hx hb dX4_takeGlove_46 rfl (lv_at hl 2 rfl) ?_
      refine g_get fd_RX4_71 C hX hP 8 (by decide) (shR_8 G ad _) (v := .ref (ad 11)) rfl dX4_takeGlove_47 ?_
      refine lv_aload_n hx hb dX4_takeGlove_50 rfl (lv_at hl 2 rfl) ?_
      refine lv_iload_n hx hb dX4_takeGlove_51 rfl (lv_at hl 0 rfl) ?_
      refine lv_iconst (v := 0) hx hb dX4_takeGlove_52 (by decide) ?_
      refine g_wrI (o := 0) (m1 := 12) (by omega) (shR_club G ad) hI hP hS (g_runV (As := [.int (x_sortAt5 (mget σ 13) (σ 12 0)), .int 0]) (rest := [.ref (ad 11)]) ky_yX0_putDown lk_RX4_84 C hX (gS_b0 hI hS) (hP.sub (sh1 := (shC G (fun q_ => ad (0 + q_)))) 0 12 (by omega) (shR_club G ad)) 8 (c_yX0_putDown l G (fun q_ => ad (0 + q_)) (hI.sub (m := 12) 0 (by omega)) (mget (mset σ 12 0 ((σ 12 0) + 1)) 0) (x_sortAt5 (mget σ 13) (σ 12 0)) 0 N (by omega) hs) (by decide) (shC_8 G (fun q_ => ad (0 + q_)) _) ⟨rfl, rfl, by decide, by decide⟩ rfl hl.1 rfl (Nat.le_of_ble_eq_true rfl) ⟨Nat.zero_le _, Nat.zero_le _⟩ dX4_takeGlove_53) (fun H locs hP hS => ?_)
      obtain ⟨σ1, eσ1⟩ : ∃ τ_ : gM, τ_ = (mput (mset σ 12 0 ((σ 12 0) + 1)) 0 12 (x_putDown0 (mget (mset σ 12 0 ((σ 12 0) + 1)) 0) (x_sortAt5 (mget σ 13) (σ 12 0)) 0).2) := ⟨_, rfl⟩
      rw [← eσ1] at hP
      have h13σ1 : σ1 13 0 = nI L := by rw [eσ1]; exact hlen
      obtain ⟨gv, egv⟩ : ∃ z : Int32, z = (x_putDown0 (mget (mset σ 12 0 ((σ 12 0) + 1)) 0) (x_sortAt5 (mget σ 13) (σ 12 0)) 0).1 := ⟨_, rfl⟩
      refine lv_as (y := gv) egv.symm ?_
      have hv : gv = nI N := by rw [egv]; exact (pd_v (σ := mget (mset σ 12 0 (σ 12 0 + 1)) 0) hlt hs _ _).1
      obtain ⟨hv1, hv2⟩ : gv = nI (nN gv) ∧ nN gv < 8 := by rw [hv, nN_nI (by omega)]; exact ⟨rfl, hlt⟩
      refine lv_as (y := (nI (nN gv))) hv1 ?_
      refine g_aald (t0 := 2) C hX hP 11 (by decide) (shR_11 G ad _) rfl (nN gv) hv2 (by decide) rfl dX4_takeGlove_56 ?_
      refine lv_astore_n (lv' := [(3, .ref (ad (nN gv))), (2, .int (x_sortAt5 (mget σ 13) (σ 12 0))), (0, .ref (ad 12)), (1, .ref (ad 8))]) hx hb dX4_takeGlove_57 rfl hl (by decide) rfl (fun ls hl => ?_)
      refine lv_aload_n hx hb dX4_takeGlove_58 rfl (lv_at hl 2 rfl) ?_
      refine lv_bipush (v := 7) hx hb dX4_takeGlove_59 (by decide) ?_
      refine lv_aload_n hx hb dX4_takeGlove_61 rfl (lv_at hl 0 rfl) ?_
      refine lv_iconst (v := 1) hx hb dX4_takeGlove_62 (by decide) ?_
      refine g_wrV0 hS (g_runV (As := [.int 7, .ref (ad (nN gv)), .int 1]) (rest := []) ky_yX4_takeTrait lk_RX4_88 C hX (gS_b0 hI hS) hP 12 (c_yX4_takeTrait l G ad hI σ1 7 (nN gv) 1 L hL h13σ1 hv2) (by decide) (shR_12 G ad _) ⟨rfl, rfl, by decide, by decide⟩ rfl hl.1 rfl (Nat.le_of_ble_eq_true rfl) ⟨Nat.zero_le _, Nat.zero_le _⟩ dX4_takeGlove_63) (fun H locs hP hS => ?_)
      obtain ⟨σ2, eσ2⟩ : ∃ τ_ : gM, τ_ = (x_takeTrait4 σ1 7 (nN gv) 1) := ⟨_, rfl⟩
      rw [← eσ2] at hP
      have h13σ2 : σ2 13 0 = nI L := by rw [eσ2, tt_row (by decide) (by omega)]; exact h13σ1
      refine lv_aload_n hx hb dX4_takeGlove_66 rfl (lv_at hl 2 rfl) ?_
      refine lv_bipush (v := 8) hx hb dX4_takeGlove_67 (by decide) ?_
      refine lv_aload_n hx hb dX4_takeGlove_69 rfl (lv_at hl 0 rfl) ?_
      refine lv_iconst (v := 2) hx hb dX4_takeGlove_70 (by decide) ?_
      refine g_wrV0 hS (g_runV (As := [.int 8, .ref (ad (nN gv)), .int 2]) (rest := []) ky_yX4_takeTrait lk_RX4_88 C hX (gS_b0 hI hS) hP 12 (c_yX4_takeTrait l G ad hI σ2 8 (nN gv) 2 L hL h13σ2 hv2) (by decide) (shR_12 G ad _) ⟨rfl, rfl, by decide, by decide⟩ rfl hl.1 rfl (Nat.le_of_ble_eq_true rfl) ⟨Nat.zero_le _, Nat.zero_le _⟩ dX4_takeGlove_71) (fun H locs hP hS => ?_)
      obtain ⟨σ3, eσ3⟩ : ∃ τ_ : gM, τ_ = (x_takeTrait4 σ2 8 (nN gv) 2) := ⟨_, rfl⟩
      rw [← eσ3] at hP
      have h13σ3 : σ3 13 0 = nI L := by rw [eσ3, tt_row (by decide) (by omega)]; exact h13σ2
      refine lv_aload_n hx hb dX4_takeGlove_74 rfl (lv_at hl 2 rfl) ?_
      refine lv_bipush (v := 9) hx hb dX4_takeGlove_75 (by decide) ?_
      refine lv_aload_n hx hb dX4_takeGlove_77 rfl (lv_at hl 0 rfl) ?_
      refine lv_iconst (v := 3) hx hb dX4_takeGlove_78 (by decide) ?_
      refine g_wrV0 hS (g_runV (As := [.int 9, .ref (ad (nN gv)), .int 3]) (rest := []) ky_yX4_takeTrait lk_RX4_88 C hX (gS_b0 hI hS) hP 12 (c_yX4_takeTrait l G ad hI σ3 9 (nN gv) 3 L hL h13σ3 hv2) (by decide) (shR_12 G ad _) ⟨rfl, rfl, by decide, by decide⟩ rfl hl.1 rfl (Nat.le_of_ble_eq_true rfl) ⟨Nat.zero_le _, Nat.zero_le _⟩ dX4_takeGlove_79) (fun H locs hP hS => ?_)
      obtain ⟨σ4, eσ4⟩ : ∃ τ_ : gM, τ_ = (x_takeTrait4 σ3 9 (nN gv) 3) := ⟨_, rfl⟩
      rw [← eσ4] at hP
      have h13σ4 : σ4 13 0 = nI L := by rw [eσ4, tt_row (by decide) (by omega)]; exact h13σ3
      refine lv_aload_n hx hb dX4_takeGlove_82 rfl (lv_at hl 2 rfl) ?_
      refine lv_bipush (v := 10) hx hb dX4_takeGlove_83 (by decide) ?_
      refine lv_aload_n hx hb dX4_takeGlove_85 rfl (lv_at hl 0 rfl) ?_
      refine lv_iconst (v := 4) hx hb dX4_takeGlove_86 (by decide) ?_
      refine g_wrV0 hS (g_runV (As := [.int 10, .ref (ad (nN gv)), .int 4]) (rest := []) ky_yX4_takeTrait lk_RX4_88 C hX (gS_b0 hI hS) hP 12 (c_yX4_takeTrait l G ad hI σ4 10 (nN gv) 4 L hL h13σ4 hv2) (by decide) (shR_12 G ad _) ⟨rfl, rfl, by decide, by decide⟩ rfl hl.1 rfl (Nat.le_of_ble_eq_true rfl) ⟨Nat.zero_le _, Nat.zero_le _⟩ dX4_takeGlove_87) (fun H locs hP hS => ?_)
      exact g_vretM C hr hlk (by rw [x_takeGlove4, if_neg c1, if_pos c2, ← eσ1, ← egv, x_takeGlove4_m1, ← eσ2, x_takeGlove4_m2, ← eσ3, x_takeGlove4_m3, ← eσ4, x_takeGlove4_m4]) hP hS dX4_takeGlove_90
    · refine lv_aload_n hx hb dX4_takeGlove_30 rfl (lv_at hl 1 rfl) ?_
      refine lv_iconst (v := 1) hx hb dX4_takeGlove_31 (by decide) ?_
      refine g_put fd_RX4_22 C hX hI hP hS 12 (by decide) (shR_12 G ad _) rfl rfl (Nat.le_of_ble_eq_true rfl) (upd (σ 12) 1 1) rfl dX4_takeGlove_32 (fun H locs hP hS => ?_)
      have hP : gP G.1 20 ad (gE (shR G ad) (mset σ 12 1 1)) H := hP
      exact g_vretM C hr hlk (by rw [x_takeGlove4, if_neg c1, if_neg c2]) hP hS dX4_takeGlove_35

theorem ts_row {σ : gM} {k : Nat} (hk : 13 ≤ k ∨ k = 8) : (x_takeSaying4 σ) k = σ k := by
  unfold x_takeSaying4 x_takeSaying4_m1 x_takeSaying4_m2 x_takeSaying4_m3 x_takeSaying4_m4
  split
  · rw [mset_ne _ _ _ (by omega), tn_row (by omega), tn_row (by omega), tn_row (by omega), tn_row (by omega)]
  · rw [tn_row (by omega), tn_row (by omega), tn_row (by omega), tn_row (by omega)]
theorem th_row {σ : gM} (L : Nat) (N : Nat) (hL : L ≤ 121) (hlen : σ 13 0 = nI L) (hn : ∀ j, j < 121 → ¬ σ 17 j < 0) (hN : N ≤ 8) (hs : σ 8 0 = nI N) {k : Nat} (hk : 13 ≤ k ∨ k = 8) : (x_takeHand4 σ) k = σ k := by
  unfold x_takeHand4 x_takeHand4_m1 x_takeHand4_m2
  split
  · rename_i hc
    have hq1 := (tn_ok hL (by rw [tn_row (by decide)]; exact hlen) (by rw [tn_row (by decide)]; exact hn) hc).1
    have hq0 := tn_ok hL hlen hn hq1
    rw [hs] at hq0
    have hp := nat_le (M := 8) hq0.2.1 hq0.2.2 (by rw [show (1 : Int32) = nI 1 from rfl, pk_sub_toInt (by omega) (by decide)]; omega)
    rw [← hs] at hp
    have hp2 := hp.2
    rw [mset_ne _ _ _ (by omega), tn_row (by omega), tn_row (by omega)]
  · rw [tn_row (by omega), tn_row (by omega)]
theorem tg_ok {σ : gM} (N : Nat) (hN : N ≤ 8) (hs : σ 8 0 = nI N) : (∀ k, 13 ≤ k → (x_takeGlove4 σ) k = σ k) ∧ ∃ N', N' ≤ 8 ∧ (x_takeGlove4 σ) 8 0 = nI N' := by
  unfold x_takeGlove4
  by_cases c1 : (x_isWithin (x_sortAt5 (mget σ 13) (σ 12 0)) 6) = 0
  · rw [if_pos c1]
    exact ⟨fun k hk => mset_ne _ _ _ (by omega), N, hN, hs⟩
  · rw [if_neg c1]
    by_cases c2 : σ 8 0 < 8
    · rw [if_pos c2]
      have hlt : N < 8 := Nat.not_le.mp (fun q => by rw [hs] at c2; exact absurd c2 (show ¬ nI N < nI 8 from nI_nlt q (by omega)))
      obtain ⟨ρ, hρ⟩ : ∃ ρ, ρ = mset σ 12 0 ((σ 12 0) + 1) := ⟨_, rfl⟩
      have hρ8 : ρ 8 0 = nI N := by rw [hρ]; exact hs
      have hρk : ∀ k, 13 ≤ k → ρ k = σ k := fun k hk => by rw [hρ]; exact mset_ne _ _ _ (by omega)
      rw [← hρ]
      obtain ⟨kd, hkd⟩ : ∃ kd, kd = x_sortAt5 (mget σ 13) (σ 12 0) := ⟨_, rfl⟩
      rw [← hkd]
      have hpd := pd_v (σ := mget ρ 0) hlt hρ8 kd 0
      obtain ⟨w, hw⟩ : ∃ w, w = x_putDown0 (mget ρ 0) kd 0 := ⟨_, rfl⟩
      rw [← hw] at hpd ⊢
      unfold x_takeGlove4_m1 x_takeGlove4_m2 x_takeGlove4_m3 x_takeGlove4_m4
      rw [hpd.1, nN_nI (by omega)]
      refine ⟨fun k hk => ?_, N + 1, hlt, ?_⟩
      · rw [tt_row (by omega) (by omega), tt_row (by omega) (by omega), tt_row (by omega) (by omega), tt_row (by omega) (by omega), mput_out _ _ (by omega)]
        exact hρk k hk
      · rw [tt_row (by omega) (by omega), tt_row (by omega) (by omega), tt_row (by omega) (by omega), tt_row (by omega) (by omega)]
        exact hpd.2
    · rw [if_neg c2]
      exact ⟨fun k hk => mset_ne _ _ _ (by omega), N, hN, hs⟩
theorem tg_row {σ : gM} (N : Nat) (hN : N ≤ 8) (hs : σ 8 0 = nI N) {k : Nat} (hk : 13 ≤ k) : (x_takeGlove4 σ) k = σ k := (tg_ok N hN hs).1 k hk
theorem tg_8 {σ : gM} (N : Nat) (hN : N ≤ 8) (hs : σ 8 0 = nI N) : ∃ N', N' ≤ 8 ∧ (x_takeGlove4 σ) 8 0 = nI N' := (tg_ok N hN hs).2

def x_takeItem4 (σ : gM) : gM := if (x_takes4 σ 11).1 = 0 then (if (x_takes4 (x_takes4 σ 11).2 12).1 = 0 then (x_takeGlove4 (x_takes4 (x_takes4 σ 11).2 12).2) else (x_takeHand4 (x_takes4 (x_takes4 σ 11).2 12).2)) else (x_takeSaying4 (x_takes4 σ 11).2)
def rm_yX4_takeItem : Room := { frames := 4, cells := 0, slots := 0, locals := 89 }
set_option maxHeartbeats 4000000 in
set_option maxRecDepth 100000 in
theorem c_yX4_takeItem (l : Launch) (G : gG) (ad : Nat → Nat) (hI : gI G.2.2.1 20 ad) (σ : gM) (L : Nat) (N : Nat) (hL : L ≤ 121) (hlen : σ 13 0 = nI L) (hn : ∀ j, j < 121 → ¬ σ 17 j < 0) (hN : N ≤ 8) (hs : σ 8 0 = nI N) : gMutV l yX4_takeItem cX4_takeItem 2 none rm_yX4_takeItem G [.ref (ad 12), .ref (ad 8)] 20 ad (shR G ad) σ (x_takeItem4 σ) := by
  refine g_start [.ref (ad 12), .ref (ad 8)] (by decide +kernel) (Nat.le_of_ble_eq_true rfl) ?_
  intro p e s m below meth c ls B Z hl
  obtain ⟨C, hr, hlk⟩ := B
  have hx := C.1
  have hb := C.2.1
  obtain ⟨hX, hP⟩ := Z
  have hS : va_S (gA 20 ad) s.heap s.heap [] := va_S.rf
  revert hP hS
  intro hP hS
  have hl : lv_has ls 2 [(0, .ref (ad 12)), (1, .ref (ad 8))] := hl
  refine lv_aload_n hx hb dX4_takeItem_0 rfl (lv_at hl 0 rfl) ?_
  refine lv_bipush (v := 11) hx hb dX4_takeItem_1 (by decide) ?_
  refine g_wrI0 hS (g_runV (As := [.int 11]) (rest := []) ky_yX4_takes lk_RX4_38 C hX (gS_b0 hI hS) hP 12 (c_yX4_takes l G ad hI σ 11 L hL hlen) (by decide) (shR_12 G ad _) ⟨rfl, rfl, by decide, by decide⟩ rfl hl.1 rfl (Nat.le_of_ble_eq_true rfl) ⟨Nat.zero_le _, Nat.zero_le _⟩ dX4_takeItem_3) (fun H locs hP hS => ?_)
  refine lv_if_eq (tgt := 17) hx hb dX4_takeItem_6 (by decide) (fun c1 => ?_) (fun c1 => ?_)
  · refine lv_aload_n hx hb dX4_takeItem_17 rfl (lv_at hl 0 rfl) ?_
    refine lv_bipush (v := 12) hx hb dX4_takeItem_18 (by decide) ?_
    refine g_wrI0 hS (g_runV (As := [.int 12]) (rest := []) ky_yX4_takes lk_RX4_38 C hX (gS_b0 hI hS) hP 12 (c_yX4_takes l G ad hI (x_takes4 σ 11).2 12 L hL (by rw [tk_row (by decide)]; exact hlen)) (by decide) (shR_12 G ad _) ⟨rfl, rfl, by decide, by decide⟩ rfl hl.1 rfl (Nat.le_of_ble_eq_true rfl) ⟨Nat.zero_le _, Nat.zero_le _⟩ dX4_takeItem_20) (fun H locs hP hS => ?_)
    refine lv_if_eq (tgt := 34) hx hb dX4_takeItem_23 (by decide) (fun c2 => ?_) (fun c2 => ?_)
    · refine lv_aload_n hx hb dX4_takeItem_34 rfl (lv_at hl 0 rfl) ?_
      refine lv_aload_n hx hb dX4_takeItem_35 rfl (lv_at hl 1 rfl) ?_
      refine g_wrV0 hS (g_runV (As := [.ref (ad 8)]) (rest := []) ky_yX4_takeGlove lk_RX4_51 C hX (gS_b0 hI hS) hP 12 (c_yX4_takeGlove l G ad hI (x_takes4 (x_takes4 σ 11).2 12).2  L N hL (by rw [tk_row (by decide), tk_row (by decide)]; exact hlen) hN (by rw [tk_row (by decide), tk_row (by decide)]; exact hs)) (by decide) (shR_12 G ad _) ⟨rfl, rfl, by decide, by decide⟩ rfl hl.1 rfl (Nat.le_of_ble_eq_true rfl) ⟨Nat.zero_le _, Nat.zero_le _⟩ dX4_takeItem_36) (fun H locs hP hS => ?_)
      exact g_vretM C hr hlk (by rw [x_takeItem4, if_pos c1, if_pos c2]) hP hS dX4_takeItem_39
    · refine lv_aload_n hx hb dX4_takeItem_26 rfl (lv_at hl 0 rfl) ?_
      refine lv_aload_n hx hb dX4_takeItem_27 rfl (lv_at hl 1 rfl) ?_
      refine g_wrV0 hS (g_runV (As := [.ref (ad 8)]) (rest := []) ky_yX4_takeHand lk_RX4_48 C hX (gS_b0 hI hS) hP 12 (c_yX4_takeHand l G ad hI (x_takes4 (x_takes4 σ 11).2 12).2  L N hL (by rw [tk_row (by decide), tk_row (by decide)]; exact hlen) (by rw [tk_row (by decide), tk_row (by decide)]; exact hn) hN (by rw [tk_row (by decide), tk_row (by decide)]; exact hs)) (by decide) (shR_12 G ad _) ⟨rfl, rfl, by decide, by decide⟩ rfl hl.1 rfl (Nat.le_of_ble_eq_true rfl) ⟨Nat.zero_le _, Nat.zero_le _⟩ dX4_takeItem_28) (fun H locs hP hS => ?_)
      refine lv_goto (tgt := 39) hx hb dX4_takeItem_31 (by decide) ?_
      exact g_vretM C hr hlk (by rw [x_takeItem4, if_pos c1, if_neg c2]) hP hS dX4_takeItem_39
  · refine lv_aload_n hx hb dX4_takeItem_9 rfl (lv_at hl 0 rfl) ?_
    refine lv_aload_n hx hb dX4_takeItem_10 rfl (lv_at hl 1 rfl) ?_
    refine g_wrV0 hS (g_runV (As := [.ref (ad 8)]) (rest := []) ky_yX4_takeSaying lk_RX4_45 C hX (gS_b0 hI hS) hP 12 (c_yX4_takeSaying l G ad hI (x_takes4 σ 11).2  L hL (by rw [tk_row (by decide)]; exact hlen) (by rw [tk_row (by decide)]; exact hn)) (by decide) (shR_12 G ad _) ⟨rfl, rfl, by decide, by decide⟩ rfl hl.1 rfl (Nat.le_of_ble_eq_true rfl) ⟨Nat.zero_le _, Nat.zero_le _⟩ dX4_takeItem_11) (fun H locs hP hS => ?_)
    refine lv_goto (tgt := 39) hx hb dX4_takeItem_14 (by decide) ?_
    exact g_vretM C hr hlk (by rw [x_takeItem4, if_neg c1]) hP hS dX4_takeItem_39

theorem ti_row {σ : gM} (L N : Nat) (hL : L ≤ 121) (hlen : σ 13 0 = nI L) (hn : ∀ j, j < 121 → ¬ σ 17 j < 0) (hN : N ≤ 8) (hs : σ 8 0 = nI N) {k : Nat} (hk : 13 ≤ k) : (x_takeItem4 σ) k = σ k := by
  unfold x_takeItem4
  split
  · split
    · rw [tg_row N hN (by rw [tk_row (by decide), tk_row (by decide)]; exact hs) hk, tk_row (by omega), tk_row (by omega)]
    · rw [th_row L N hL (by rw [tk_row (by decide), tk_row (by decide)]; exact hlen) (by rw [tk_row (by decide), tk_row (by decide)]; exact hn) hN (by rw [tk_row (by decide), tk_row (by decide)]; exact hs) (Or.inl hk), tk_row (by omega), tk_row (by omega)]
  · rw [ts_row (Or.inl hk), tk_row (by omega)]
theorem ti_8 {σ : gM} (L N : Nat) (hL : L ≤ 121) (hlen : σ 13 0 = nI L) (hn : ∀ j, j < 121 → ¬ σ 17 j < 0) (hN : N ≤ 8) (hs : σ 8 0 = nI N) : ∃ N', N' ≤ 8 ∧ (x_takeItem4 σ) 8 0 = nI N' := by
  unfold x_takeItem4
  split
  · split
    · exact tg_8 N hN (by rw [tk_row (by decide), tk_row (by decide)]; exact hs)
    · exact ⟨N, hN, by rw [th_row L N hL (by rw [tk_row (by decide), tk_row (by decide)]; exact hlen) (by rw [tk_row (by decide), tk_row (by decide)]; exact hn) hN (by rw [tk_row (by decide), tk_row (by decide)]; exact hs) (Or.inr rfl), tk_row (by decide), tk_row (by decide)]; exact hs⟩
  · exact ⟨N, hN, by rw [ts_row (Or.inr rfl), tk_row (by decide)]; exact hs⟩

def x_read4_L20 (σ : gM) (σ1 : gM) : Nat → Nat → gM → Int32 × gM
  | 0, i, τ => (((-1) - (x_startAt5 (mget τ 13) (τ 12 0))), τ)
  | n20 + 1, i, τ => if (τ 12 1) = 0 then (if ((x_takeItem4 τ) 12 1) = 0 then (if (x_sortAt5 (mget (x_takeItem4 τ) 13) ((x_takeItem4 τ) 12 0)) = 17 then ((nI i), (x_takeItem4 τ)) else (if (x_takes4 (x_takeItem4 τ) 15).1 = 0 then (x_read4_L20 σ σ1 n20 (i + 1) (mset (x_takes4 (x_takeItem4 τ) 15).2 12 1 1)) else (x_read4_L20 σ σ1 n20 (i + 1) ((x_takes4 (x_takeItem4 τ) 15).2)))) else (if (x_takes4 (x_takeItem4 τ) 15).1 = 0 then (x_read4_L20 σ σ1 n20 (i + 1) (mset (x_takes4 (x_takeItem4 τ) 15).2 12 1 1)) else (x_read4_L20 σ σ1 n20 (i + 1) ((x_takes4 (x_takeItem4 τ) 15).2)))) else (((-1) - (x_startAt5 (mget τ 13) (τ 12 0))), τ)
def x_read4_m1 (σ : gM) (σ1 : gM) : Int32 × gM := (x_read4_L20 σ σ1 120 1 (mset (mset σ1 12 0 0) 12 1 0))
def x_read4 (σ : gM) : Int32 × gM := (x_read4_m1 σ (mput σ 13 7 (x_readFrom5 (mget σ 13))))
def rm_yX4_read : Room := { frames := 7, cells := 0, slots := 0, locals := 157 }
set_option maxHeartbeats 4000000 in
set_option maxRecDepth 100000 in
theorem c_yX4_read (l : Launch) (G : gG) (ad : Nat → Nat) (hI : gI G.2.2.1 20 ad) (σ : gM) (T : Nat) (L2 : Nat) (N : Nat) (hT : T ≤ 120) (hT2 : σ 18 0 = nI T) (hL2 : L2 ≤ 121) (hrs : (x_readFrom5 (mget σ 13)) 0 0 = nI L2) (hrn : ∀ j, j < 121 → ¬ (x_readFrom5 (mget σ 13)) 4 j < 0) (hN : N ≤ 8) (hs : σ 8 0 = nI N) : gMutI l yX4_read cX4_read 4 (some .int) rm_yX4_read G [.ref (ad 12), .ref (ad 18), .ref (ad 8)] 20 ad (shR G ad) σ (x_read4 σ) := by
  refine g_start [.ref (ad 12), .ref (ad 18), .ref (ad 8)] (by decide +kernel) (Nat.le_of_ble_eq_true rfl) ?_
  intro p e s m below meth c ls B Z hl
  obtain ⟨C, hr, hlk⟩ := B
  have hx := C.1
  have hb := C.2.1
  obtain ⟨hX, hP⟩ := Z
  have hS : va_S (gA 20 ad) s.heap s.heap [] := va_S.rf
  revert hP hS
  intro hP hS
  have hl : lv_has ls 4 [(0, .ref (ad 12)), (1, .ref (ad 18)), (2, .ref (ad 8))] := hl
  refine lv_aload_n hx hb dX4_read_0 rfl (lv_at hl 0 rfl) ?_
  refine g_get fd_RX4_12 C hX hP 12 (by decide) (shR_12 G ad _) (v := .ref (ad 13)) rfl dX4_read_1 ?_
  refine lv_aload_n hx hb dX4_read_4 rfl (lv_at hl 1 rfl) ?_
  refine g_wrV (o := 13) (m1 := 7) (by omega) (shR_tok G ad) hI hP hS (g_runV (As := [.ref (ad 18)]) (rest := []) ky_yX5_readFrom lk_RX4_26 C hX (gS_b0 hI hS) (hP.sub (sh1 := (shK G (fun q_ => ad (13 + q_)))) 13 7 (by omega) (shR_tok G ad)) 0 (c_yX5_readFrom l G (fun q_ => ad (13 + q_)) (hI.sub (m := 7) 13 (by omega)) (mget σ 13)  T hT hT2) (by decide) (shK_0 G (fun q_ => ad (13 + q_)) _) ⟨rfl, rfl, by decide, by decide⟩ rfl hl.1 rfl (Nat.le_of_ble_eq_true rfl) ⟨Nat.zero_le _, Nat.zero_le _⟩ dX4_read_5) (fun H locs hP hS => ?_)
  obtain ⟨σ1, eσ1⟩ : ∃ τ_ : gM, τ_ = (mput σ 13 7 (x_readFrom5 (mget σ 13))) := ⟨_, rfl⟩
  rw [← eσ1] at hP
  have h13σ1 : σ1 13 0 = nI L2 := by rw [eσ1]; exact hrs
  have h17σ1 : ∀ j, j < 121 → ¬ σ1 17 j < 0 := by rw [eσ1]; exact hrn
  refine lv_aload_n hx hb dX4_read_8 rfl (lv_at hl 0 rfl) ?_
  refine lv_iconst (v := 0) hx hb dX4_read_9 (by decide) ?_
  refine g_put fd_RX4_18 C hX hI hP hS 12 (by decide) (shR_12 G ad _) rfl rfl (Nat.le_of_ble_eq_true rfl) (upd (σ1 12) 0 0) rfl dX4_read_10 (fun H locs hP hS => ?_)
  have hP : gP G.1 20 ad (gE (shR G ad) (mset σ1 12 0 0)) H := hP
  refine lv_aload_n hx hb dX4_read_13 rfl (lv_at hl 0 rfl) ?_
  refine lv_iconst (v := 0) hx hb dX4_read_14 (by decide) ?_
  refine g_put fd_RX4_22 C hX hI hP hS 12 (by decide) (shR_12 G ad _) rfl rfl (Nat.le_of_ble_eq_true rfl) (upd ((mset σ1 12 0 0) 12) 1 0) rfl dX4_read_15 (fun H locs hP hS => ?_)
  have hP : gP G.1 20 ad (gE (shR G ad) (mset (mset σ1 12 0 0) 12 1 0)) H := hP
  refine lv_iconst (v := 1) hx hb dX4_read_18 (by decide) ?_
  refine lv_istore_n (lv' := [(3, .int 1), (0, .ref (ad 12)), (1, .ref (ad 18)), (2, .ref (ad 8))]) hx hb dX4_read_19 rfl hl (by decide) rfl (fun ls hl => ?_)
  suffices loop20 : ∀ (n20 : Nat) (i : Nat) (τ : gM) (H : Heap) (locs : List Loc) (ls : Array Slot), (i + n20 = 121) → (∀ k, 13 ≤ k → τ k = σ1 k) → (∃ N, N ≤ 8 ∧ τ 8 0 = nI N) → x_read4 σ = (x_read4_L20 σ σ1 n20 i τ) → gP G.1 20 ad (gE (shR G ad) τ) H → va_S (gA 20 ad) s.heap H locs → lv_has ls 4 [(3, .int (nI i)), (0, .ref (ad 12)), (1, .ref (ad 18)), (2, .ref (ad 8))] → W p l e rm_yX4_read s m ([.ref (ad 12), .ref (ad 18), .ref (ad 8)] : List Value).toArray below meth c H locs 0 0 (MQ below (va_Qi (fun (x : Int32) (τ : gM) => x_read4 σ = (x, τ)) (fun τ t => gP G.1 20 ad (gE (shR G ad) τ) t.heap) (gA 20 ad)) ([.ref (ad 12), .ref (ad 18), .ref (ad 8)] : List Value).toArray s 0 0 (gA 20 ad)) (F0 m 20 ls []) by
    exact loop20 120 1 (mset (mset σ1 12 0 0) 12 1 0) _ _ _ rfl (fun k hk => by rw [mset_ne _ _ _ (by omega), mset_ne _ _ _ (by omega)]) ⟨N, hN, (by show σ1 8 0 = _; rw [eσ1]; exact hs)⟩ (by rw [x_read4, ← eσ1, x_read4_m1]) hP hS (lv_sub hl [0, 1, 2, 3] rfl)
  intro n20
  induction n20 with
  | zero =>
    intro i τ H locs ls hi20 h13 h8 hres20 hP hS hl
    have q13 : τ 13 0 = nI L2 := by rw [h13 13 (by decide)]; exact h13σ1
    refine lv_iload_n hx hb dX4_read_20 rfl (lv_at hl 0 rfl) ?_
    refine lv_bipush (v := 120) hx hb dX4_read_21 (by decide) ?_
    refine lv_icmp_gt (tgt := 83) hx hb dX4_read_23 (by decide) (fun c1 => ?_) (fun c1 => ?_)
    · refine lv_iconst (v := (-1)) hx hb dX4_read_83 (by decide) ?_
      refine lv_aload_n hx hb dX4_read_84 rfl (lv_at hl 1 rfl) ?_
      refine g_get fd_RX4_12 C hX hP 12 (by decide) (shR_12 G ad _) (v := .ref (ad 13)) rfl dX4_read_85 ?_
      refine lv_aload_n hx hb dX4_read_88 rfl (lv_at hl 1 rfl) ?_
      refine g_get fd_RX4_18 C hX hP 12 (by decide) (shR_12 G ad _) (v := .int (τ 12 0)) rfl dX4_read_89 ?_
      refine g_rd (g_runV (As := [.int (τ 12 0)]) (rest := [.int (-1)]) ky_yX5_startAt lk_RX4_42 C hX (gS_b0 hI hS) (hP.sub (sh1 := (shK G (fun q_ => ad (13 + q_)))) 13 7 (by omega) (shR_tok G ad)) 0 (c_yX5_startAt l G (fun q_ => ad (13 + q_)) (hI.sub (m := 7) 13 (by omega)) (mget τ 13) (τ 12 0) L2 hL2 (by first | exact q13 | exact q13b)) (by decide) (shK_0 G (fun q_ => ad (13 + q_)) _) ⟨rfl, rfl, by decide, by decide⟩ rfl hl.1 rfl (Nat.le_of_ble_eq_true rfl) ⟨Nat.zero_le _, Nat.zero_le _⟩ dX4_read_92) ?_
      refine lv_isub hx hb dX4_read_95 ?_
      exact g_iretM C hr hlk rfl (by rw [hres20, x_read4_L20]) hP hS dX4_read_96
    · exact absurd (show nI 120 < nI i from nI_lt (by omega) (by omega)) c1
  | succ n20 ih20 =>
    intro i τ H locs ls hi20 h13 h8 hres20 hP hS hl
    obtain ⟨N1, hN1, hs1⟩ := h8
    have q13 : τ 13 0 = nI L2 := by rw [h13 13 (by decide)]; exact h13σ1
    have q17 : ∀ j, j < 121 → ¬ τ 17 j < 0 := by rw [h13 17 (by decide)]; exact h17σ1
    refine lv_iload_n hx hb dX4_read_20 rfl (lv_at hl 0 rfl) ?_
    refine lv_bipush (v := 120) hx hb dX4_read_21 (by decide) ?_
    refine lv_icmp_gt (tgt := 83) hx hb dX4_read_23 (by decide) (fun c2 => ?_) (fun c2 => ?_)
    · exact absurd (show nI 120 < nI i from c2) (nI_nlt (by omega) (by omega))
    · refine lv_aload_n hx hb dX4_read_26 rfl (lv_at hl 1 rfl) ?_
      refine g_get fd_RX4_22 C hX hP 12 (by decide) (shR_12 G ad _) (v := .int (τ 12 1)) rfl dX4_read_27 ?_
      refine lv_if_ne (tgt := 83) hx hb dX4_read_30 (by decide) (fun c3 => ?_) (fun c3 => ?_)
      · refine lv_iconst (v := (-1)) hx hb dX4_read_83 (by decide) ?_
        refine lv_aload_n hx hb dX4_read_84 rfl (lv_at hl 1 rfl) ?_
        refine g_get fd_RX4_12 C hX hP 12 (by decide) (shR_12 G ad _) (v := .ref (ad 13)) rfl dX4_read_85 ?_
        refine lv_aload_n hx hb dX4_read_88 rfl (lv_at hl 1 rfl) ?_
        refine g_get fd_RX4_18 C hX hP 12 (by decide) (shR_12 G ad _) (v := .int (τ 12 0)) rfl dX4_read_89 ?_
        refine g_rd (g_runV (As := [.int (τ 12 0)]) (rest := [.int (-1)]) ky_yX5_startAt lk_RX4_42 C hX (gS_b0 hI hS) (hP.sub (sh1 := (shK G (fun q_ => ad (13 + q_)))) 13 7 (by omega) (shR_tok G ad)) 0 (c_yX5_startAt l G (fun q_ => ad (13 + q_)) (hI.sub (m := 7) 13 (by omega)) (mget τ 13) (τ 12 0) L2 hL2 (by first | exact q13 | exact q13b)) (by decide) (shK_0 G (fun q_ => ad (13 + q_)) _) ⟨rfl, rfl, by decide, by decide⟩ rfl hl.1 rfl (Nat.le_of_ble_eq_true rfl) ⟨Nat.zero_le _, Nat.zero_le _⟩ dX4_read_92) ?_
        refine lv_isub hx hb dX4_read_95 ?_
        exact g_iretM C hr hlk rfl (by rw [hres20, x_read4_L20, if_neg c3]) hP hS dX4_read_96
      · refine lv_aload_n hx hb dX4_read_33 rfl (lv_at hl 1 rfl) ?_
        refine lv_aload_n hx hb dX4_read_34 rfl (lv_at hl 3 rfl) ?_
        refine g_wrV0 hS (g_runV (As := [.ref (ad 8)]) (rest := []) ky_yX4_takeItem lk_RX4_30 C hX (gS_b0 hI hS) hP 12 (c_yX4_takeItem l G ad hI τ  L2 N1 hL2 q13 q17 hN1 hs1) (by decide) (shR_12 G ad _) ⟨rfl, rfl, by decide, by decide⟩ rfl hl.1 rfl (Nat.le_of_ble_eq_true rfl) ⟨Nat.zero_le _, Nat.zero_le _⟩ dX4_read_35) (fun H locs hP hS => ?_)
        obtain ⟨τ1, eτ1⟩ : ∃ τ_ : gM, τ_ = (x_takeItem4 τ) := ⟨_, rfl⟩
        rw [← eτ1] at hP
        have h13b : ∀ k, 13 ≤ k → τ1 k = σ1 k := fun k hk => by rw [eτ1, ti_row L2 N1 hL2 q13 q17 hN1 hs1 hk]; exact h13 k hk
        have h8b : ∃ N, N ≤ 8 ∧ τ1 8 0 = nI N := by rw [eτ1]; exact ti_8 L2 N1 hL2 q13 q17 hN1 hs1
        have q13b : τ1 13 0 = nI L2 := by rw [h13b 13 (by decide)]; exact h13σ1
        refine lv_aload_n hx hb dX4_read_38 rfl (lv_at hl 1 rfl) ?_
        refine g_get fd_RX4_22 C hX hP 12 (by decide) (shR_12 G ad _) (v := .int (τ1 12 1)) rfl dX4_read_39 ?_
        refine lv_if_ne (tgt := 63) hx hb dX4_read_42 (by decide) (fun c4 => ?_) (fun c4 => ?_)
        · refine lv_aload_n hx hb dX4_read_63 rfl (lv_at hl 1 rfl) ?_
          refine lv_bipush (v := 15) hx hb dX4_read_64 (by decide) ?_
          refine g_wrI0 hS (g_runV (As := [.int 15]) (rest := []) ky_yX4_takes lk_RX4_38 C hX (gS_b0 hI hS) hP 12 (c_yX4_takes l G ad hI τ1 15 L2 hL2 q13b) (by decide) (shR_12 G ad _) ⟨rfl, rfl, by decide, by decide⟩ rfl hl.1 rfl (Nat.le_of_ble_eq_true rfl) ⟨Nat.zero_le _, Nat.zero_le _⟩ dX4_read_66) (fun H locs hP hS => ?_)
          refine lv_if_ne (tgt := 77) hx hb dX4_read_69 (by decide) (fun c5 => ?_) (fun c5 => ?_)
          · refine lv_iinc (v := (nI (i + 1))) (lv' := [(3, .int (nI (i + 1))), (0, .ref (ad 12)), (1, .ref (ad 18)), (2, .ref (ad 8))]) hx hb dX4_read_77 hl (k := 0) rfl (by exact nI_1 _) (by decide) rfl (fun ls hl => ?_)
            refine lv_goto (tgt := 20) hx hb dX4_read_80 (by decide) ?_
            exact ih20 (i + 1) ((x_takes4 τ1 15).2) _ _ _ (by omega) (fun k hk => by first | exact h13b k hk | (rw [tk_row (by omega)]; exact h13b k hk) | (rw [mset_ne _ _ _ (by omega), tk_row (by omega)]; exact h13b k hk)) (by first | exact h8b | (rw [tk_row (by decide)]; exact h8b) | (rw [mset_ne _ _ _ (by decide), tk_row (by decide)]; exact h8b)) (by rw [hres20, x_read4_L20, if_pos c3, ← eτ1, if_neg c4, if_neg c5]) hP hS (lv_sub hl [0, 1, 2, 3] rfl)
          · refine lv_aload_n hx hb dX4_read_72 rfl (lv_at hl 1 rfl) ?_
            refine lv_iconst (v := 1) hx hb dX4_read_73 (by decide) ?_
            refine g_put fd_RX4_22 C hX hI hP hS 12 (by decide) (shR_12 G ad _) rfl rfl (Nat.le_of_ble_eq_true rfl) (upd ((x_takes4 τ1 15).2 12) 1 1) (by generalize ((x_takes4 τ1 15).2 12) = f_; rfl) dX4_read_74 (fun H locs hP hS => ?_)
            have hP : gP G.1 20 ad (gE (shR G ad) (mset (x_takes4 τ1 15).2 12 1 1)) H := hP
            refine lv_iinc (v := (nI (i + 1))) (lv' := [(3, .int (nI (i + 1))), (0, .ref (ad 12)), (1, .ref (ad 18)), (2, .ref (ad 8))]) hx hb dX4_read_77 hl (k := 0) rfl (by exact nI_1 _) (by decide) rfl (fun ls hl => ?_)
            refine lv_goto (tgt := 20) hx hb dX4_read_80 (by decide) ?_
            exact ih20 (i + 1) (mset (x_takes4 τ1 15).2 12 1 1) _ _ _ (by omega) (fun k hk => by first | exact h13b k hk | (rw [tk_row (by omega)]; exact h13b k hk) | (rw [mset_ne _ _ _ (by omega), tk_row (by omega)]; exact h13b k hk)) (by first | exact h8b | (rw [tk_row (by decide)]; exact h8b) | (rw [mset_ne _ _ _ (by decide), tk_row (by decide)]; exact h8b)) (by rw [hres20, x_read4_L20, if_pos c3, ← eτ1, if_neg c4, if_pos c5]) hP hS (lv_sub hl [0, 1, 2, 3] rfl)
        · refine lv_aload_n hx hb dX4_read_45 rfl (lv_at hl 1 rfl) ?_
          refine g_get fd_RX4_12 C hX hP 12 (by decide) (shR_12 G ad _) (v := .ref (ad 13)) rfl dX4_read_46 ?_
          refine lv_aload_n hx hb dX4_read_49 rfl (lv_at hl 1 rfl) ?_
          refine g_get fd_RX4_18 C hX hP 12 (by decide) (shR_12 G ad _) (v := .int (τ1 12 0)) rfl dX4_read_50 ?_
          refine g_rd (g_runV (As := [.int (τ1 12 0)]) (rest := []) ky_yX5_sortAt lk_RX4_34 C hX (gS_b0 hI hS) (hP.sub (sh1 := (shK G (fun q_ => ad (13 + q_)))) 13 7 (by omega) (shR_tok G ad)) 0 (c_yX5_sortAt l G (fun q_ => ad (13 + q_)) (hI.sub (m := 7) 13 (by omega)) (mget τ1 13) (τ1 12 0) L2 hL2 q13b) (by decide) (shK_0 G (fun q_ => ad (13 + q_)) _) ⟨rfl, rfl, by decide, by decide⟩ rfl hl.1 rfl (Nat.le_of_ble_eq_true rfl) ⟨Nat.zero_le _, Nat.zero_le _⟩ dX4_read_53) ?_
          refine lv_bipush (v := 17) hx hb dX4_read_56 (by decide) ?_
          refine lv_icmp_ne (tgt := 63) hx hb dX4_read_58 (by decide) (fun c6 => ?_) (fun c6 => ?_)
          · refine lv_aload_n hx hb dX4_read_63 rfl (lv_at hl 1 rfl) ?_
            refine lv_bipush (v := 15) hx hb dX4_read_64 (by decide) ?_
            refine g_wrI0 hS (g_runV (As := [.int 15]) (rest := []) ky_yX4_takes lk_RX4_38 C hX (gS_b0 hI hS) hP 12 (c_yX4_takes l G ad hI τ1 15 L2 hL2 q13b) (by decide) (shR_12 G ad _) ⟨rfl, rfl, by decide, by decide⟩ rfl hl.1 rfl (Nat.le_of_ble_eq_true rfl) ⟨Nat.zero_le _, Nat.zero_le _⟩ dX4_read_66) (fun H locs hP hS => ?_)
            refine lv_if_ne (tgt := 77) hx hb dX4_read_69 (by decide) (fun c7 => ?_) (fun c7 => ?_)
            · refine lv_iinc (v := (nI (i + 1))) (lv' := [(3, .int (nI (i + 1))), (0, .ref (ad 12)), (1, .ref (ad 18)), (2, .ref (ad 8))]) hx hb dX4_read_77 hl (k := 0) rfl (by exact nI_1 _) (by decide) rfl (fun ls hl => ?_)
              refine lv_goto (tgt := 20) hx hb dX4_read_80 (by decide) ?_
              exact ih20 (i + 1) ((x_takes4 τ1 15).2) _ _ _ (by omega) (fun k hk => by first | exact h13b k hk | (rw [tk_row (by omega)]; exact h13b k hk) | (rw [mset_ne _ _ _ (by omega), tk_row (by omega)]; exact h13b k hk)) (by first | exact h8b | (rw [tk_row (by decide)]; exact h8b) | (rw [mset_ne _ _ _ (by decide), tk_row (by decide)]; exact h8b)) (by rw [hres20, x_read4_L20, if_pos c3, ← eτ1, if_pos c4, if_neg c6, if_neg c7]) hP hS (lv_sub hl [0, 1, 2, 3] rfl)
            · refine lv_aload_n hx hb dX4_read_72 rfl (lv_at hl 1 rfl) ?_
              refine lv_iconst (v := 1) hx hb dX4_read_73 (by decide) ?_
              refine g_put fd_RX4_22 C hX hI hP hS 12 (by decide) (shR_12 G ad _) rfl rfl (Nat.le_of_ble_eq_true rfl) (upd ((x_takes4 τ1 15).2 12) 1 1) (by generalize ((x_takes4 τ1 15).2 12) = f_; rfl) dX4_read_74 (fun H locs hP hS => ?_)
              have hP : gP G.1 20 ad (gE (shR G ad) (mset (x_takes4 τ1 15).2 12 1 1)) H := hP
              refine lv_iinc (v := (nI (i + 1))) (lv' := [(3, .int (nI (i + 1))), (0, .ref (ad 12)), (1, .ref (ad 18)), (2, .ref (ad 8))]) hx hb dX4_read_77 hl (k := 0) rfl (by exact nI_1 _) (by decide) rfl (fun ls hl => ?_)
              refine lv_goto (tgt := 20) hx hb dX4_read_80 (by decide) ?_
              exact ih20 (i + 1) (mset (x_takes4 τ1 15).2 12 1 1) _ _ _ (by omega) (fun k hk => by first | exact h13b k hk | (rw [tk_row (by omega)]; exact h13b k hk) | (rw [mset_ne _ _ _ (by omega), tk_row (by omega)]; exact h13b k hk)) (by first | exact h8b | (rw [tk_row (by decide)]; exact h8b) | (rw [mset_ne _ _ _ (by decide), tk_row (by decide)]; exact h8b)) (by rw [hres20, x_read4_L20, if_pos c3, ← eτ1, if_pos c4, if_neg c6, if_pos c7]) hP hS (lv_sub hl [0, 1, 2, 3] rfl)
          · refine lv_iload_n hx hb dX4_read_61 rfl (lv_at hl 0 rfl) ?_
            exact g_iretM C hr hlk rfl (by rw [hres20, x_read4_L20, if_pos c3, ← eτ1, if_pos c4, if_pos c6]) hP hS dX4_read_62
