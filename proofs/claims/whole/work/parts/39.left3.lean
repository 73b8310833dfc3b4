def x_lackOf (σ : gM) (sn : Int32) : Int32 := if (x_isSheet sn) = 0 then (-1000001) else (if (x_isMissing2 (mget σ (47 + 2 * (nN sn)))) = 0 then 0 else (-1000006))
def rm_yX6_lackOf : Room := { frames := 2, cells := 0, slots := 0, locals := 41 }
set_option maxHeartbeats 4000000 in
set_option maxRecDepth 100000 in
theorem c_yX6_lackOf (l : Launch) (G : gG) (ad : Nat → Nat) (hI : gI G.2.2.1 55 ad) (σ : gM) (sn : Int32) : gRead l yX6_lackOf cX6_lackOf 2 (some .int) rm_yX6_lackOf G [.ref (ad 44), .int sn] 55 ad (gE (shX G ad) σ) (x_lackOf σ sn) := by
  refine g_start [.ref (ad 44), .int sn] (by decide +kernel) (Nat.le_of_ble_eq_true rfl) ?_
  intro p e s m below meth c ls B Z hl
  obtain ⟨C, hr, hlk⟩ := B
  have hx := C.1
  have hb := C.2.1
  obtain ⟨hX, hP⟩ := Z
  have hS : va_S (gA 55 ad) s.heap s.heap [] := va_S.rf
  have hl : lv_has ls 2 [(0, .ref (ad 44)), (1, .int sn)] := hl
  refine lv_iload_n hx hb dX6_lackOf_0 rfl (lv_at hl 1 rfl) ?_
  refine g_rd (g_runS (As := [.int sn]) (rest := []) ky_yX6_isSheet lk_RX6_252 C (c_yX6_isSheet l sn) ⟨rfl, rfl, by decide, by decide⟩ rfl hl.1 rfl (Nat.le_of_ble_eq_true rfl) ⟨Nat.zero_le _, Nat.zero_le _⟩ dX6_lackOf_1) ?_
  refine lv_if_ne (tgt := 10) hx hb dX6_lackOf_4 (by decide) (fun c1 => ?_) (fun c1 => ?_)
  · obtain ⟨hh1, hh2⟩ := isW_of (M := 3) (by decide) c1
    refine lv_aload_n hx hb dX6_lackOf_10 rfl (lv_at hl 0 rfl) ?_
    refine g_get fd_RX6_42 C hX hP 44 (by decide) (shX_44 G ad _) (v := .ref (ad 46)) rfl dX6_lackOf_11 ?_
    refine lv_iload_n hx hb dX6_lackOf_14 rfl (lv_at hl 1 rfl) ?_
    refine lv_as (y := (nI (nN sn))) hh1 ?_
    refine g_aald (t0 := 3) C hX hP 46 (by decide) (shX_46 G ad _) rfl (nN sn) (by omega) (by decide) rfl dX6_lackOf_15 ?_
    refine g_rd (g_runV (As := []) (rest := []) ky_yX2_isMissing lk_RX6_262 C hX (gS_b0 hI hS) (hP.sub (sh1 := (shS G (fun q_ => ad ((47 + 2 * (nN sn)) + q_)))) (47 + 2 * (nN sn)) 2 (by omega) (shX_sheet G ad (by omega))) 0 (c_yX2_isMissing l G (fun q_ => ad ((47 + 2 * (nN sn)) + q_)) (hI.sub (m := 2) (47 + 2 * (nN sn)) (by omega)) (mget σ (47 + 2 * (nN sn))) ) (by decide) (shS_0 G (fun q_ => ad ((47 + 2 * (nN sn)) + q_)) _) ⟨rfl, rfl, by decide, by decide⟩ rfl hl.1 rfl (Nat.le_of_ble_eq_true rfl) ⟨Nat.zero_le _, Nat.zero_le _⟩ dX6_lackOf_16) ?_
    refine lv_if_eq (tgt := 27) hx hb dX6_lackOf_19 (by decide) (fun c2 => ?_) (fun c2 => ?_)
    · refine lv_iconst (v := 0) hx hb dX6_lackOf_27 (by decide) ?_
      exact g_iret C hr hlk rfl (by rw [x_lackOf, if_neg c1, if_pos c2]) rfl rfl dX6_lackOf_28
    · refine lv_ldc hx hb C.2.2.2.1 (C.2.2.2.2 _ kc_RX6_247) dX6_lackOf_22 ?_
      refine lv_goto (tgt := 28) hx hb dX6_lackOf_24 (by decide) ?_
      exact g_iret C hr hlk rfl (by rw [x_lackOf, if_neg c1, if_neg c2]) rfl rfl dX6_lackOf_28
  · refine lv_ldc hx hb C.2.2.2.1 (C.2.2.2.2 _ kc_RX6_59) dX6_lackOf_7 ?_
    exact g_iret C hr hlk rfl (by rw [x_lackOf, if_pos c1]) rfl rfl dX6_lackOf_9

theorem lack_ok {σ : gM} {sn : Int32} (h : x_lackOf σ sn = 0) : sn = nI (nN sn) ∧ nN sn < 4 ∧ ¬ σ (47 + 2 * nN sn) 0 = 0 := by
  unfold x_lackOf at h
  by_cases h1 : x_isSheet sn = 0
  · rw [if_pos h1] at h
    exact absurd h (by decide)
  · rw [if_neg h1] at h
    obtain ⟨a, b⟩ := isW_of (M := 3) (by decide) h1
    refine ⟨a, by omega, fun q => ?_⟩
    have e : x_isMissing2 (mget σ (47 + 2 * nN sn)) = 1 := if_pos q
    rw [e] at h
    exact absurd h (by decide)
theorem hr_ok {σ : gM} {f c : Int32} {Z : Nat} (hZ : Z ≤ 40) (hz : σ 0 1 = nI Z) (h : ¬ x_hasRow2 σ f c = 0) : f = nI (nN f) ∧ c = nI (nN c) ∧ nN f + nN c ≤ Z := by
  unfold x_hasRow2 at h
  rw [hz] at h
  by_cases h1 : x_isWithin f (nI Z) = 0
  · rw [if_pos h1] at h
    exact absurd rfl h
  · rw [if_neg h1] at h
    obtain ⟨a1, a2⟩ := isW_of (by omega) h1
    by_cases h2 : x_isWithin c (nI Z - f) = 0
    · rw [if_pos h2] at h
      exact absurd rfl h
    · rw [a1, pk_sub a2] at h2
      obtain ⟨b1, b2⟩ := isW_of (by omega) h2
      exact ⟨a1, b1, by omega⟩

def x_trialGoesAsTold_L2 (σ : gM) (sn : Nat) (g : Nat) : Nat → Nat → gM → Int32 × gM
  | 0, i, τ => (1, τ)
  | n2 + 1, i, τ => if (τ (48 + 2 * sn) i) = (-1) then (x_trialGoesAsTold_L2 σ sn g n2 (i + 1) (mput τ 24 12 (x_passDay0 (mget τ 24) 0))) else (if (τ (48 + 2 * sn) i) = (τ (24 + g) 3) then (x_trialGoesAsTold_L2 σ sn g n2 (i + 1) (mput τ 24 12 (x_passDay0 (mget τ 24) 0))) else (0, τ))
def x_trialGoesAsTold (σ : gM) (sn : Nat) (g : Nat) : Int32 × gM := (x_trialGoesAsTold_L2 σ sn g (nN (σ (47 + 2 * sn) 1)) 0 σ)
def rm_yX6_trialGoesAsTold : Room := { frames := 4, cells := 0, slots := 0, locals := 96 }
set_option maxHeartbeats 4000000 in
set_option maxRecDepth 100000 in
theorem c_yX6_trialGoesAsTold (l : Launch) (G : gG) (ad : Nat → Nat) (hI : gI G.2.2.1 55 ad) (σ : gM) (sn : Nat) (g : Nat) (N : Nat) (Z : Nat) (hN : N ≤ 8) (hsT : σ 32 0 = nI N) (hZ : Z ≤ 40) (hsn : sn < 4) (hz : σ (47 + 2 * sn) 1 = nI Z) (hg : g < 8) : gMutI l yX6_trialGoesAsTold cX6_trialGoesAsTold 5 (some .boolean) rm_yX6_trialGoesAsTold G [.ref (ad 44), .ref (ad (47 + 2 * sn)), .int (nI g)] 55 ad (shX G ad) σ (x_trialGoesAsTold σ sn g) := by
  refine g_start [.ref (ad 44), .ref (ad (47 + 2 * sn)), .int (nI g)] (by decide +kernel) (Nat.le_of_ble_eq_true rfl) ?_
  intro p e s m below meth c ls B Z hl
  obtain ⟨C, hr, hlk⟩ := B
  have hx := C.1
  have hb := C.2.1
  obtain ⟨hX, hP⟩ := Z
  have hS : va_S (gA 55 ad) s.heap s.heap [] := va_S.rf
  revert hP hS
  intro hP hS
  have hl : lv_has ls 5 [(0, .ref (ad 44)), (1, .ref (ad (47 + 2 * sn))), (2, .int (nI g))] := hl
  refine lv_iconst (v := 0) hx hb dX6_trialGoesAsTold_0 (by decide) ?_
  refine lv_istore_n (lv' := [(3, .int 0), (0, .ref (ad 44)), (1, .ref (ad (47 + 2 * sn))), (2, .int (nI g))]) hx hb dX6_trialGoesAsTold_1 rfl hl (by decide) rfl (fun ls hl => ?_)
  suffices loop2 : ∀ (n2 : Nat) (i : Nat) (τ : gM) (H : Heap) (locs : List Loc) (ls : Array Slot), (i + n2 = Z) → (τ (47 + 2 * sn) 1 = nI Z) → (τ 32 0 = nI N) → x_trialGoesAsTold σ sn g = (x_trialGoesAsTold_L2 σ sn g n2 i τ) → gP G.1 55 ad (gE (shX G ad) τ) H → va_S (gA 55 ad) s.heap H locs → lv_has ls 5 [(3, .int (nI i)), (0, .ref (ad 44)), (1, .ref (ad (47 + 2 * sn))), (2, .int (nI g))] → W p l e rm_yX6_trialGoesAsTold s m ([.ref (ad 44), .ref (ad (47 + 2 * sn)), .int (nI g)] : List Value).toArray below meth c H locs 0 0 (MQ below (va_Qi (fun (x : Int32) (τ : gM) => x_trialGoesAsTold σ sn g = (x, τ)) (fun τ t => gP G.1 55 ad (gE (shX G ad) τ) t.heap) (gA 55 ad)) ([.ref (ad 44), .ref (ad (47 + 2 * sn)), .int (nI g)] : List Value).toArray s 0 0 (gA 55 ad)) (F0 m 2 ls []) by
    exact loop2 Z 0 σ _ _ _ (by omega) hz hsT (by rw [x_trialGoesAsTold, hz, nN_nI (by omega)]) hP hS (lv_sub hl [0, 1, 2, 3] rfl)
  intro n2
  induction n2 with
  | zero =>
    intro i τ H locs ls hi2 hz1 hT hres2 hP hS hl
    refine lv_iload_n hx hb dX6_trialGoesAsTold_2 rfl (lv_at hl 0 rfl) ?_
    refine lv_aload_n hx hb dX6_trialGoesAsTold_3 rfl (lv_at hl 2 rfl) ?_
    refine g_get fd_RX6_219 C hX hP (47 + 2 * sn) (by omega) (shX_s G ad hsn _) (v := .int (τ (47 + 2 * sn) 1)) rfl dX6_trialGoesAsTold_4 ?_
    refine lv_as (y := (nI Z)) hz1 ?_
    refine lv_icmp_ge (tgt := 57) hx hb dX6_trialGoesAsTold_7 (by decide) (fun c1 => ?_) (fun c1 => ?_)
    · refine lv_iconst (v := 1) hx hb dX6_trialGoesAsTold_57 (by decide) ?_
      exact g_iretM C hr hlk rfl (by rw [hres2, x_trialGoesAsTold_L2]) hP hS dX6_trialGoesAsTold_58
    · exact absurd (show nI (Z) ≤ nI i from nI_le (by omega) (by omega)) c1
  | succ n2 ih2 =>
    intro i τ H locs ls hi2 hz1 hT hres2 hP hS hl
    refine lv_iload_n hx hb dX6_trialGoesAsTold_2 rfl (lv_at hl 0 rfl) ?_
    refine lv_aload_n hx hb dX6_trialGoesAsTold_3 rfl (lv_at hl 2 rfl) ?_
    refine g_get fd_RX6_219 C hX hP (47 + 2 * sn) (by omega) (shX_s G ad hsn _) (v := .int (τ (47 + 2 * sn) 1)) rfl dX6_trialGoesAsTold_4 ?_
    refine lv_as (y := (nI Z)) hz1 ?_
    refine lv_icmp_ge (tgt := 57) hx hb dX6_trialGoesAsTold_7 (by decide) (fun c2 => ?_) (fun c2 => ?_)
    · exact absurd (show nI (Z) ≤ nI i from c2) (nI_ge (by omega) (by omega))
    · refine lv_aload_n hx hb dX6_trialGoesAsTold_10 rfl (lv_at hl 2 rfl) ?_
      refine g_get fd_RX6_220 C hX hP (47 + 2 * sn) (by omega) (shX_s G ad hsn _) (v := .ref (ad (48 + 2 * sn))) rfl dX6_trialGoesAsTold_11 ?_
      refine lv_iload_n hx hb dX6_trialGoesAsTold_14 rfl (lv_at hl 0 rfl) ?_
      refine g_iald C hX hP (48 + 2 * sn) (by omega) (shX_n G ad hsn _) i (by omega) (by decide) dX6_trialGoesAsTold_15 ?_
      refine lv_istore (lv' := [(4, .int (τ (48 + 2 * sn) i)), (3, .int (nI i)), (0, .ref (ad 44)), (1, .ref (ad (47 + 2 * sn))), (2, .int (nI g))]) hx hb dX6_trialGoesAsTold_16 hl (by decide) rfl (fun ls hl => ?_)
      refine lv_iload hx hb dX6_trialGoesAsTold_18 (lv_at hl 0 rfl) ?_
      refine lv_iconst (v := (-1)) hx hb dX6_trialGoesAsTold_20 (by decide) ?_
      refine lv_icmp_eq (tgt := 43) hx hb dX6_trialGoesAsTold_21 (by decide) (fun c3 => ?_) (fun c3 => ?_)
      · refine lv_aload_n hx hb dX6_trialGoesAsTold_43 rfl (lv_at hl 2 rfl) ?_
        refine g_get fd_RX6_19 C hX hP 44 (by decide) (shX_44 G ad _) (v := .ref (ad 32)) rfl dX6_trialGoesAsTold_44 ?_
        refine lv_iconst (v := 0) hx hb dX6_trialGoesAsTold_47 (by decide) ?_
        refine g_wrV (o := 24) (m1 := 12) (by omega) (shX_trial G ad) hI hP hS (g_runV (As := [.int 0]) (rest := []) ky_yX0_passDay lk_RX6_169 C hX (gS_b0 hI hS) (hP.sub (sh1 := (shC G (fun q_ => ad (24 + q_)))) 24 12 (by omega) (shX_trial G ad)) 8 (c_yX0_passDay l G (fun q_ => ad (24 + q_)) (hI.sub (m := 12) 24 (by omega)) (mget τ 24) 0 N hN hT) (by decide) (shC_8 G (fun q_ => ad (24 + q_)) _) ⟨rfl, rfl, by decide, by decide⟩ rfl hl.1 rfl (Nat.le_of_ble_eq_true rfl) ⟨Nat.zero_le _, Nat.zero_le _⟩ dX6_trialGoesAsTold_48) (fun H locs hP hS => ?_)
        refine lv_iinc (v := (nI (i + 1))) (lv' := [(3, .int (nI (i + 1))), (4, .int (τ (48 + 2 * sn) i)), (0, .ref (ad 44)), (1, .ref (ad (47 + 2 * sn))), (2, .int (nI g))]) hx hb dX6_trialGoesAsTold_51 hl (k := 1) rfl (by exact nI_1 _) (by decide) rfl (fun ls hl => ?_)
        refine lv_goto (tgt := 2) hx hb dX6_trialGoesAsTold_54 (by decide) ?_
        exact ih2 (i + 1) (mput τ 24 12 (x_passDay0 (mget τ 24) 0)) _ _ _ (by omega) (by rw [mput_out _ _ (by omega)]; exact hz1) (by exact pd_8 (σ := mget τ 24) hN hT 0) (by rw [hres2, x_trialGoesAsTold_L2, if_pos c3]) hP hS (lv_sub hl [0, 2, 3, 4] rfl)
      · refine lv_iload hx hb dX6_trialGoesAsTold_24 (lv_at hl 0 rfl) ?_
        refine lv_aload_n hx hb dX6_trialGoesAsTold_26 rfl (lv_at hl 2 rfl) ?_
        refine g_get fd_RX6_19 C hX hP 44 (by decide) (shX_44 G ad _) (v := .ref (ad 32)) rfl dX6_trialGoesAsTold_27 ?_
        refine g_get fd_RX6_96 C hX hP 32 (by decide) (shX_32 G ad _) (v := .ref (ad 35)) rfl dX6_trialGoesAsTold_30 ?_
        refine lv_iload_n hx hb dX6_trialGoesAsTold_33 rfl (lv_at hl 4 rfl) ?_
        refine g_aald (t0 := 2) C hX hP 35 (by decide) (shX_35 G ad _) rfl g (by omega) (by decide) rfl dX6_trialGoesAsTold_34 ?_
        refine g_get fd_RX6_174 C hX hP (24 + g) (by omega) (shX_t G ad (by omega) _) (v := .int (τ (24 + g) 3)) rfl dX6_trialGoesAsTold_35 ?_
        refine lv_icmp_eq (tgt := 43) hx hb dX6_trialGoesAsTold_38 (by decide) (fun c4 => ?_) (fun c4 => ?_)
        · refine lv_aload_n hx hb dX6_trialGoesAsTold_43 rfl (lv_at hl 2 rfl) ?_
          refine g_get fd_RX6_19 C hX hP 44 (by decide) (shX_44 G ad _) (v := .ref (ad 32)) rfl dX6_trialGoesAsTold_44 ?_
          refine lv_iconst (v := 0) hx hb dX6_trialGoesAsTold_47 (by decide) ?_
          refine g_wrV (o := 24) (m1 := 12) (by omega) (shX_trial G ad) hI hP hS (g_runV (As := [.int 0]) (rest := []) ky_yX0_passDay lk_RX6_169 C hX (gS_b0 hI hS) (hP.sub (sh1 := (shC G (fun q_ => ad (24 + q_)))) 24 12 (by omega) (shX_trial G ad)) 8 (c_yX0_passDay l G (fun q_ => ad (24 + q_)) (hI.sub (m := 12) 24 (by omega)) (mget τ 24) 0 N hN hT) (by decide) (shC_8 G (fun q_ => ad (24 + q_)) _) ⟨rfl, rfl, by decide, by decide⟩ rfl hl.1 rfl (Nat.le_of_ble_eq_true rfl) ⟨Nat.zero_le _, Nat.zero_le _⟩ dX6_trialGoesAsTold_48) (fun H locs hP hS => ?_)
          refine lv_iinc (v := (nI (i + 1))) (lv' := [(3, .int (nI (i + 1))), (4, .int (τ (48 + 2 * sn) i)), (0, .ref (ad 44)), (1, .ref (ad (47 + 2 * sn))), (2, .int (nI g))]) hx hb dX6_trialGoesAsTold_51 hl (k := 1) rfl (by exact nI_1 _) (by decide) rfl (fun ls hl => ?_)
          refine lv_goto (tgt := 2) hx hb dX6_trialGoesAsTold_54 (by decide) ?_
          exact ih2 (i + 1) (mput τ 24 12 (x_passDay0 (mget τ 24) 0)) _ _ _ (by omega) (by rw [mput_out _ _ (by omega)]; exact hz1) (by exact pd_8 (σ := mget τ 24) hN hT 0) (by rw [hres2, x_trialGoesAsTold_L2, if_neg c3, if_pos c4]) hP hS (lv_sub hl [0, 2, 3, 4] rfl)
        · refine lv_iconst (v := 0) hx hb dX6_trialGoesAsTold_41 (by decide) ?_
          exact g_iretM C hr hlk rfl (by rw [hres2, x_trialGoesAsTold_L2, if_neg c3, if_neg c4]) hP hS dX6_trialGoesAsTold_42

theorem tgtL {σ : gM} {sn g j : Nat} (hj : j < 24 ∨ 36 ≤ j) : ∀ (n i : Nat) (τ : gM), (x_trialGoesAsTold_L2 σ sn g n i τ).2 j = τ j := by
  intro n
  induction n with
  | zero => intro i τ; rw [x_trialGoesAsTold_L2]
  | succ n ih =>
    intro i τ
    rw [x_trialGoesAsTold_L2]
    repeat' split
    all_goals first | rfl | (rw [ih, mput_out _ _ (by omega)])
theorem tgt_out {σ : gM} {sn g j : Nat} (hj : j < 24 ∨ 36 ≤ j) : (x_trialGoesAsTold σ sn g).2 j = σ j := by
  unfold x_trialGoesAsTold
  exact tgtL hj _ _ _

def x_choicesAsTold_L43 (σ : gM) (sn : Int32) (glove : Int32) (trait : Int32) (most : Nat) : Nat → Nat → Int32 → gM → Int32 × gM
  | 0, i, set, τ => (set, τ)
  | n43 + 1, i, set, τ => if (x_trialGoesAsTold (x_tryOut τ (nN glove) trait (nI i)) (nN sn) (nN glove)).1 = 0 then (x_choicesAsTold_L43 σ sn glove trait most n43 (i + 1) set ((x_trialGoesAsTold (x_tryOut τ (nN glove) trait (nI i)) (nN sn) (nN glove)).2)) else (x_choicesAsTold_L43 σ sn glove trait most n43 (i + 1) (set ||| (jshl 1 (nI i))) ((x_trialGoesAsTold (x_tryOut τ (nN glove) trait (nI i)) (nN sn) (nN glove)).2))
def x_choicesAsTold (σ : gM) (sn : Int32) (glove : Int32) (trait : Int32) (most : Nat) : Int32 × gM := if (x_lackOf σ sn) = 0 then (if (x_has0 (mget σ 0) glove) = 0 then ((x_finding σ (-1000001)).1, (x_finding σ (-1000001)).2) else (x_choicesAsTold_L43 σ sn glove trait most (most + 1) 0 0 σ)) else ((x_finding σ (x_lackOf σ sn)).1, (x_finding σ (x_lackOf σ sn)).2)
def rm_yX6_choicesAsTold : Room := { frames := 5, cells := 0, slots := 0, locals := 125 }
set_option maxHeartbeats 4000000 in
set_option maxRecDepth 100000 in
theorem c_yX6_choicesAsTold (l : Launch) (G : gG) (ad : Nat → Nat) (hI : gI G.2.2.1 55 ad) (σ : gM) (sn : Int32) (glove : Int32) (trait : Int32) (most : Nat) (N : Nat) (hN : N ≤ 8) (hs : σ 8 0 = nI N) (hsz : ∀ j, j < 4 → ∃ Z, Z ≤ 40 ∧ σ (47 + 2 * j) 1 = nI Z) (hm : most < 100) : gMutI l yX6_choicesAsTold cX6_choicesAsTold 8 (some .int) rm_yX6_choicesAsTold G [.ref (ad 44), .int sn, .int glove, .int trait, .int (nI most)] 55 ad (shX G ad) σ (x_choicesAsTold σ sn glove trait most) := by
  refine g_start [.ref (ad 44), .int sn, .int glove, .int trait, .int (nI most)] (by decide +kernel) (Nat.le_of_ble_eq_true rfl) ?_
  intro p e s m below meth c ls B Z hl
  obtain ⟨C, hr, hlk⟩ := B
  have hx := C.1
  have hb := C.2.1
  obtain ⟨hX, hP⟩ := Z
  have hS : va_S (gA 55 ad) s.heap s.heap [] := va_S.rf
  revert hP hS
  intro hP hS
  have hl : lv_has ls 8 [(0, .ref (ad 44)), (1, .int sn), (2, .int glove), (3, .int trait), (4, .int (nI most))] := hl
  refine lv_aload_n hx hb dX6_choicesAsTold_0 rfl (lv_at hl 0 rfl) ?_
  refine lv_iload_n hx hb dX6_choicesAsTold_1 rfl (lv_at hl 1 rfl) ?_
  refine g_rd (g_runV (As := [.int sn]) (rest := []) ky_yX6_lackOf lk_RX6_212 C hX (gS_b0 hI hS) hP 44 (c_yX6_lackOf l G ad hI σ sn) (by decide) (shX_44 G ad _) ⟨rfl, rfl, by decide, by decide⟩ rfl hl.1 rfl (Nat.le_of_ble_eq_true rfl) ⟨Nat.zero_le _, Nat.zero_le _⟩ dX6_choicesAsTold_2) ?_
  refine lv_istore (lv' := [(5, .int (x_lackOf σ sn)), (0, .ref (ad 44)), (1, .int sn), (2, .int glove), (3, .int trait), (4, .int (nI most))]) hx hb dX6_choicesAsTold_5 hl (by decide) rfl (fun ls hl => ?_)
  refine lv_iload hx hb dX6_choicesAsTold_7 (lv_at hl 0 rfl) ?_
  refine lv_if_eq (tgt := 19) hx hb dX6_choicesAsTold_9 (by decide) (fun c1 => ?_) (fun c1 => ?_)
  · obtain ⟨hh1, hh2, hh3⟩ := lack_ok c1
    obtain ⟨Z, hZ, hz⟩ := hsz _ hh2
    refine lv_aload_n hx hb dX6_choicesAsTold_19 rfl (lv_at hl 1 rfl) ?_
    refine g_get fd_RX6_12 C hX hP 44 (by decide) (shX_44 G ad _) (v := .ref (ad 8)) rfl dX6_choicesAsTold_20 ?_
    refine lv_iload_n hx hb dX6_choicesAsTold_23 rfl (lv_at hl 3 rfl) ?_
    refine g_rd (g_runV (As := [.int glove]) (rest := []) ky_yX0_has lk_RX6_88 C hX (gS_b0 hI hS) (hP.sub (sh1 := (shC G (fun q_ => ad (0 + q_)))) 0 12 (by omega) (shX_club G ad)) 8 (c_yX0_has l G (fun q_ => ad (0 + q_)) (hI.sub (m := 12) 0 (by omega)) (mget σ 0) glove) (by decide) (shC_8 G (fun q_ => ad (0 + q_)) _) ⟨rfl, rfl, by decide, by decide⟩ rfl hl.1 rfl (Nat.le_of_ble_eq_true rfl) ⟨Nat.zero_le _, Nat.zero_le _⟩ dX6_choicesAsTold_24) ?_
    refine lv_if_ne (tgt := 37) hx hb dX6_choicesAsTold_27 (by decide) (fun c2 => ?_) (fun c2 => ?_)
    · obtain ⟨hg1, hg2⟩ := has_of hN hs c2
      refine lv_iconst (v := 0) hx hb dX6_choicesAsTold_37 (by decide) ?_
      refine lv_istore (lv' := [(6, .int 0), (5, .int (x_lackOf σ sn)), (0, .ref (ad 44)), (1, .int sn), (2, .int glove), (3, .int trait), (4, .int (nI most))]) hx hb dX6_choicesAsTold_38 hl (by decide) rfl (fun ls hl => ?_)
      refine lv_iconst (v := 0) hx hb dX6_choicesAsTold_40 (by decide) ?_
      refine lv_istore (lv' := [(7, .int 0), (6, .int 0), (5, .int (x_lackOf σ sn)), (0, .ref (ad 44)), (1, .int sn), (2, .int glove), (3, .int trait), (4, .int (nI most))]) hx hb dX6_choicesAsTold_41 hl (by decide) rfl (fun ls hl => ?_)
      suffices loop43 : ∀ (n43 : Nat) (i : Nat) (set : Int32) (τ : gM) (H : Heap) (locs : List Loc) (ls : Array Slot), (i + n43 = most + 1) → (τ 8 0 = nI N) → (τ (47 + 2 * nN sn) 1 = nI Z) → x_choicesAsTold σ sn glove trait most = (x_choicesAsTold_L43 σ sn glove trait most n43 i set τ) → gP G.1 55 ad (gE (shX G ad) τ) H → va_S (gA 55 ad) s.heap H locs → lv_has ls 8 [(7, .int (nI i)), (6, .int set), (5, .int (x_lackOf σ sn)), (0, .ref (ad 44)), (1, .int sn), (2, .int glove), (3, .int trait), (4, .int (nI most))] → W p l e rm_yX6_choicesAsTold s m ([.ref (ad 44), .int sn, .int glove, .int trait, .int (nI most)] : List Value).toArray below meth c H locs 0 0 (MQ below (va_Qi (fun (x : Int32) (τ : gM) => x_choicesAsTold σ sn glove trait most = (x, τ)) (fun τ t => gP G.1 55 ad (gE (shX G ad) τ) t.heap) (gA 55 ad)) ([.ref (ad 44), .int sn, .int glove, .int trait, .int (nI most)] : List Value).toArray s 0 0 (gA 55 ad)) (F0 m 43 ls []) by
        exact loop43 (most + 1) 0 0 σ _ _ _ (by omega) hs hz (by rw [x_choicesAsTold, if_pos c1, if_neg c2]) hP hS (lv_sub hl [0, 1, 2, 3, 4, 5, 6, 7] rfl)
      intro n43
      induction n43 with
      | zero =>
        intro i set τ H locs ls hi43 hC hz1 hres43 hP hS hl
        refine lv_iload hx hb dX6_choicesAsTold_43 (lv_at hl 0 rfl) ?_
        refine lv_iload hx hb dX6_choicesAsTold_45 (lv_at hl 7 rfl) ?_
        refine lv_icmp_gt (tgt := 87) hx hb dX6_choicesAsTold_47 (by decide) (fun c3 => ?_) (fun c3 => ?_)
        · refine lv_iload hx hb dX6_choicesAsTold_87 (lv_at hl 1 rfl) ?_
          exact g_iretM C hr hlk rfl (by rw [hres43, x_choicesAsTold_L43]) hP hS dX6_choicesAsTold_89
        · exact absurd (show nI most < nI i from nI_lt (by omega) (by omega)) c3
      | succ n43 ih43 =>
        intro i set τ H locs ls hi43 hC hz1 hres43 hP hS hl
        refine lv_iload hx hb dX6_choicesAsTold_43 (lv_at hl 0 rfl) ?_
        refine lv_iload hx hb dX6_choicesAsTold_45 (lv_at hl 7 rfl) ?_
        refine lv_icmp_gt (tgt := 87) hx hb dX6_choicesAsTold_47 (by decide) (fun c4 => ?_) (fun c4 => ?_)
        · exact absurd (show nI most < nI i from c4) (nI_nlt (by omega) (by omega))
        · refine lv_aload_n hx hb dX6_choicesAsTold_50 rfl (lv_at hl 3 rfl) ?_
          refine lv_iload_n hx hb dX6_choicesAsTold_51 rfl (lv_at hl 5 rfl) ?_
          refine lv_as (y := (nI (nN glove))) hg1 ?_
          refine lv_iload_n hx hb dX6_choicesAsTold_52 rfl (lv_at hl 6 rfl) ?_
          refine lv_iload hx hb dX6_choicesAsTold_53 (lv_at hl 0 rfl) ?_
          refine g_wrV0 hS (g_runV (As := [.int (nI (nN glove)), .int trait, .int (nI i)]) (rest := []) ky_yX6_tryOut lk_RX6_187 C hX (gS_b0 hI hS) hP 44 (c_yX6_tryOut l G ad hI τ (nN glove) trait (nI i) N hN hC (by omega)) (by decide) (shX_44 G ad _) ⟨rfl, rfl, by decide, by decide⟩ rfl hl.1 rfl (Nat.le_of_ble_eq_true rfl) ⟨Nat.zero_le _, Nat.zero_le _⟩ dX6_choicesAsTold_55) (fun H locs hP hS => ?_)
          refine lv_aload_n hx hb dX6_choicesAsTold_58 rfl (lv_at hl 3 rfl) ?_
          refine lv_aload_n hx hb dX6_choicesAsTold_59 rfl (lv_at hl 3 rfl) ?_
          refine g_get fd_RX6_42 C hX hP 44 (by decide) (shX_44 G ad _) (v := .ref (ad 46)) rfl dX6_choicesAsTold_60 ?_
          refine lv_iload_n hx hb dX6_choicesAsTold_63 rfl (lv_at hl 4 rfl) ?_
          refine lv_as (y := (nI (nN sn))) hh1 ?_
          refine g_aald (t0 := 3) C hX hP 46 (by decide) (shX_46 G ad _) rfl (nN sn) (by omega) (by decide) rfl dX6_choicesAsTold_64 ?_
          refine lv_iload_n hx hb dX6_choicesAsTold_65 rfl (lv_at hl 5 rfl) ?_
          refine lv_as (y := (nI (nN glove))) hg1 ?_
          refine g_wrI0 hS (g_runV (As := [.ref (ad (47 + 2 * (nN sn))), .int (nI (nN glove))]) (rest := []) ky_yX6_trialGoesAsTold lk_RX6_215 C hX (gS_b0 hI hS) hP 44 (c_yX6_trialGoesAsTold l G ad hI (x_tryOut τ (nN glove) trait (nI i)) (nN sn) (nN glove) N Z hN (to_32 hN hC (by omega) _ _) hZ hh2 (by rw [to_out hN hC (by omega) (Or.inr (by omega))]; exact hz1) (by omega)) (by decide) (shX_44 G ad _) ⟨rfl, rfl, by decide, by decide⟩ rfl hl.1 rfl (Nat.le_of_ble_eq_true rfl) ⟨Nat.zero_le _, Nat.zero_le _⟩ dX6_choicesAsTold_66) (fun H locs hP hS => ?_)
          refine lv_if_eq (tgt := 81) hx hb dX6_choicesAsTold_69 (by decide) (fun c5 => ?_) (fun c5 => ?_)
          · refine lv_iinc (v := (nI (i + 1))) (lv' := [(7, .int (nI (i + 1))), (6, .int set), (5, .int (x_lackOf σ sn)), (0, .ref (ad 44)), (1, .int sn), (2, .int glove), (3, .int trait), (4, .int (nI most))]) hx hb dX6_choicesAsTold_81 hl (k := 0) rfl (by exact nI_1 _) (by decide) rfl (fun ls hl => ?_)
            refine lv_goto (tgt := 43) hx hb dX6_choicesAsTold_84 (by decide) ?_
            exact ih43 (i + 1) set ((x_trialGoesAsTold (x_tryOut τ (nN glove) trait (nI i)) (nN sn) (nN glove)).2) _ _ _ (by omega) (by rw [tgt_out (Or.inl (by decide))]; exact to_8 hN hC (by omega) _ _) (by rw [tgt_out (Or.inr (by omega)), to_out hN hC (by omega) (Or.inr (by omega))]; exact hz1) (by rw [hres43, x_choicesAsTold_L43, if_pos c5]) hP hS (lv_sub hl [0, 1, 2, 3, 4, 5, 6, 7] rfl)
          · refine lv_iload hx hb dX6_choicesAsTold_72 (lv_at hl 1 rfl) ?_
            refine lv_iconst (v := 1) hx hb dX6_choicesAsTold_74 (by decide) ?_
            refine lv_iload hx hb dX6_choicesAsTold_75 (lv_at hl 0 rfl) ?_
            refine g_ishl hx hb dX6_choicesAsTold_77 ?_
            refine lv_ior hx hb dX6_choicesAsTold_78 ?_
            refine lv_istore (lv' := [(6, .int (set ||| (jshl 1 (nI i)))), (7, .int (nI i)), (5, .int (x_lackOf σ sn)), (0, .ref (ad 44)), (1, .int sn), (2, .int glove), (3, .int trait), (4, .int (nI most))]) hx hb dX6_choicesAsTold_79 hl (by decide) rfl (fun ls hl => ?_)
            refine lv_iinc (v := (nI (i + 1))) (lv' := [(7, .int (nI (i + 1))), (6, .int (set ||| (jshl 1 (nI i)))), (5, .int (x_lackOf σ sn)), (0, .ref (ad 44)), (1, .int sn), (2, .int glove), (3, .int trait), (4, .int (nI most))]) hx hb dX6_choicesAsTold_81 hl (k := 1) rfl (by exact nI_1 _) (by decide) rfl (fun ls hl => ?_)
            refine lv_goto (tgt := 43) hx hb dX6_choicesAsTold_84 (by decide) ?_
            exact ih43 (i + 1) (set ||| (jshl 1 (nI i))) ((x_trialGoesAsTold (x_tryOut τ (nN glove) trait (nI i)) (nN sn) (nN glove)).2) _ _ _ (by omega) (by rw [tgt_out (Or.inl (by decide))]; exact to_8 hN hC (by omega) _ _) (by rw [tgt_out (Or.inr (by omega)), to_out hN hC (by omega) (Or.inr (by omega))]; exact hz1) (by rw [hres43, x_choicesAsTold_L43, if_neg c5]) hP hS (lv_sub hl [0, 1, 2, 3, 4, 5, 6, 7] rfl)
    · refine lv_aload_n hx hb dX6_choicesAsTold_30 rfl (lv_at hl 1 rfl) ?_
      refine lv_ldc hx hb C.2.2.2.1 (C.2.2.2.2 _ kc_RX6_59) dX6_choicesAsTold_31 ?_
      refine g_wrI0 hS (g_runV (As := [.int (-1000001)]) (rest := []) ky_yX6_finding lk_RX6_60 C hX (gS_b0 hI hS) hP 44 (c_yX6_finding l G ad hI σ (-1000001)) (by decide) (shX_44 G ad _) ⟨rfl, rfl, by decide, by decide⟩ rfl hl.1 rfl (Nat.le_of_ble_eq_true rfl) ⟨Nat.zero_le _, Nat.zero_le _⟩ dX6_choicesAsTold_33) (fun H locs hP hS => ?_)
      exact g_iretM C hr hlk rfl (by rw [x_choicesAsTold, if_pos c1, if_pos c2]) hP hS dX6_choicesAsTold_36
  · refine lv_aload_n hx hb dX6_choicesAsTold_12 rfl (lv_at hl 1 rfl) ?_
    refine lv_iload hx hb dX6_choicesAsTold_13 (lv_at hl 0 rfl) ?_
    refine g_wrI0 hS (g_runV (As := [.int (x_lackOf σ sn)]) (rest := []) ky_yX6_finding lk_RX6_60 C hX (gS_b0 hI hS) hP 44 (c_yX6_finding l G ad hI σ (x_lackOf σ sn)) (by decide) (shX_44 G ad _) ⟨rfl, rfl, by decide, by decide⟩ rfl hl.1 rfl (Nat.le_of_ble_eq_true rfl) ⟨Nat.zero_le _, Nat.zero_le _⟩ dX6_choicesAsTold_15) (fun H locs hP hS => ?_)
    exact g_iretM C hr hlk rfl (by rw [x_choicesAsTold, if_neg c1]) hP hS dX6_choicesAsTold_18

def x_fits (σ : gM) (sn : Int32) (glove : Int32) : Int32 × gM := ((x_choicesAsTold σ sn glove 1 5).1, (x_choicesAsTold σ sn glove 1 5).2)
def rm_yX6_fits : Room := { frames := 6, cells := 0, slots := 0, locals := 152 }
set_option maxHeartbeats 4000000 in
set_option maxRecDepth 100000 in
theorem c_yX6_fits (l : Launch) (G : gG) (ad : Nat → Nat) (hI : gI G.2.2.1 55 ad) (σ : gM) (sn : Int32) (glove : Int32) (N : Nat) (hN : N ≤ 8) (hs : σ 8 0 = nI N) (hsz : ∀ j, j < 4 → ∃ Z, Z ≤ 40 ∧ σ (47 + 2 * j) 1 = nI Z) : gMutI l yX6_fits cX6_fits 3 (some .int) rm_yX6_fits G [.ref (ad 44), .int sn, .int glove] 55 ad (shX G ad) σ (x_fits σ sn glove) := by
  refine g_start [.ref (ad 44), .int sn, .int glove] (by decide +kernel) (Nat.le_of_ble_eq_true rfl) ?_
  intro p e s m below meth c ls B Z hl
  obtain ⟨C, hr, hlk⟩ := B
  have hx := C.1
  have hb := C.2.1
  obtain ⟨hX, hP⟩ := Z
  have hS : va_S (gA 55 ad) s.heap s.heap [] := va_S.rf
  revert hP hS
  intro hP hS
  have hl : lv_has ls 3 [(0, .ref (ad 44)), (1, .int sn), (2, .int glove)] := hl
  refine lv_aload_n hx hb dX6_fits_0 rfl (lv_at hl 0 rfl) ?_
  refine lv_iload_n hx hb dX6_fits_1 rfl (lv_at hl 1 rfl) ?_
  refine lv_iload_n hx hb dX6_fits_2 rfl (lv_at hl 2 rfl) ?_
  refine lv_iconst (v := 1) hx hb dX6_fits_3 (by decide) ?_
  refine lv_iconst (v := 5) hx hb dX6_fits_4 (by decide) ?_
  refine g_wrI0 hS (g_runV (As := [.int sn, .int glove, .int 1, .int 5]) (rest := []) ky_yX6_choicesAsTold lk_RX6_209 C hX (gS_b0 hI hS) hP 44 (c_yX6_choicesAsTold l G ad hI σ sn glove 1 5 N hN hs hsz (by decide)) (by decide) (shX_44 G ad _) ⟨rfl, rfl, by decide, by decide⟩ rfl hl.1 rfl (Nat.le_of_ble_eq_true rfl) ⟨Nat.zero_le _, Nat.zero_le _⟩ dX6_fits_5) (fun H locs hP hS => ?_)
  exact g_iretM C hr hlk rfl (by rw [x_fits]) hP hS dX6_fits_8

def x_kinds (σ : gM) (sn : Int32) (glove : Int32) : Int32 × gM := ((x_choicesAsTold σ sn glove 0 6).1, (x_choicesAsTold σ sn glove 0 6).2)
def rm_yX6_kinds : Room := { frames := 6, cells := 0, slots := 0, locals := 152 }
set_option maxHeartbeats 4000000 in
set_option maxRecDepth 100000 in
theorem c_yX6_kinds (l : Launch) (G : gG) (ad : Nat → Nat) (hI : gI G.2.2.1 55 ad) (σ : gM) (sn : Int32) (glove : Int32) (N : Nat) (hN : N ≤ 8) (hs : σ 8 0 = nI N) (hsz : ∀ j, j < 4 → ∃ Z, Z ≤ 40 ∧ σ (47 + 2 * j) 1 = nI Z) : gMutI l yX6_kinds cX6_kinds 3 (some .int) rm_yX6_kinds G [.ref (ad 44), .int sn, .int glove] 55 ad (shX G ad) σ (x_kinds σ sn glove) := by
  refine g_start [.ref (ad 44), .int sn, .int glove] (by decide +kernel) (Nat.le_of_ble_eq_true rfl) ?_
  intro p e s m below meth c ls B Z hl
  obtain ⟨C, hr, hlk⟩ := B
  have hx := C.1
  have hb := C.2.1
  obtain ⟨hX, hP⟩ := Z
  have hS : va_S (gA 55 ad) s.heap s.heap [] := va_S.rf
  revert hP hS
  intro hP hS
  have hl : lv_has ls 3 [(0, .ref (ad 44)), (1, .int sn), (2, .int glove)] := hl
  refine lv_aload_n hx hb dX6_kinds_0 rfl (lv_at hl 0 rfl) ?_
  refine lv_iload_n hx hb dX6_kinds_1 rfl (lv_at hl 1 rfl) ?_
  refine lv_iload_n hx hb dX6_kinds_2 rfl (lv_at hl 2 rfl) ?_
  refine lv_iconst (v := 0) hx hb dX6_kinds_3 (by decide) ?_
  refine lv_bipush (v := 6) hx hb dX6_kinds_4 (by decide) ?_
  refine g_wrI0 hS (g_runV (As := [.int sn, .int glove, .int 0, .int 6]) (rest := []) ky_yX6_choicesAsTold lk_RX6_209 C hX (gS_b0 hI hS) hP 44 (c_yX6_choicesAsTold l G ad hI σ sn glove 0 6 N hN hs hsz (by decide)) (by decide) (shX_44 G ad _) ⟨rfl, rfl, by decide, by decide⟩ rfl hl.1 rfl (Nat.le_of_ble_eq_true rfl) ⟨Nat.zero_le _, Nat.zero_le _⟩ dX6_kinds_6) (fun H locs hP hS => ?_)
  exact g_iretM C hr hlk rfl (by rw [x_kinds]) hP hS dX6_kinds_9

theorem ds_8 {σ : gM} : (x_drawSaying0 σ) 8 0 = σ 8 0 := rfl
theorem ap_0 {σ : gM} {t : Nat} (ht : t < 120) (h : σ 0 0 = nI t) (b : Int32) : (x_append3 σ b) 0 0 = nI (t + 1) := by
  unfold x_append3
  rw [if_neg (by rw [h]; exact nI_ge (b := 120) ht (by decide))]
  show σ 0 0 + 1 = _
  rw [h]
  exact nI_1 t

def x_talk_L41 (σ : gM) (k : Int32) : Nat → Nat → gM → Int32 × gM
  | 0, i, τ => ((x_knownByGloves0 (mget τ 0)), τ)
  | n41 + 1, i, τ => (x_talk_L41 σ k n41 (i + 1) ((mput (mput τ 0 12 (x_drawSaying0 (mget τ 0))) 0 12 (x_passDay0 (mget (mput τ 0 12 (x_drawSaying0 (mget τ 0))) 0) 0))))
def x_talk (σ : gM) (k : Int32) : Int32 × gM := if k < 1 then ((x_finding σ (-1000001)).1, (x_finding σ (-1000001)).2) else (if k ≤ 20 then (if ((σ 8 1) + k) ≤ 99999 then (x_talk_L41 σ k (nN k) 0 σ) else ((x_finding σ (-1000005)).1, (x_finding σ (-1000005)).2)) else ((x_finding σ (-1000001)).1, (x_finding σ (-1000001)).2))
def rm_yX6_talk : Room := { frames := 4, cells := 0, slots := 0, locals := 96 }
set_option maxHeartbeats 4000000 in
set_option maxRecDepth 100000 in
theorem c_yX6_talk (l : Launch) (G : gG) (ad : Nat → Nat) (hI : gI G.2.2.1 55 ad) (σ : gM) (k : Int32) (N : Nat) (hN : N ≤ 8) (hs : σ 8 0 = nI N) : gMutI l yX6_talk cX6_talk 3 (some .int) rm_yX6_talk G [.ref (ad 44), .int k] 55 ad (shX G ad) σ (x_talk σ k) := by
  refine g_start [.ref (ad 44), .int k] (by decide +kernel) (Nat.le_of_ble_eq_true rfl) ?_
  intro p e s m below meth c ls B Z hl
  obtain ⟨C, hr, hlk⟩ := B
  have hx := C.1
  have hb := C.2.1
  obtain ⟨hX, hP⟩ := Z
  have hS : va_S (gA 55 ad) s.heap s.heap [] := va_S.rf
  revert hP hS
  intro hP hS
  have hl : lv_has ls 3 [(0, .ref (ad 44)), (1, .int k)] := hl
  refine lv_iload_n hx hb dX6_talk_0 rfl (lv_at hl 1 rfl) ?_
  refine lv_iconst (v := 1) hx hb dX6_talk_1 (by decide) ?_
  refine lv_icmp_lt (tgt := 11) hx hb dX6_talk_2 (by decide) (fun c1 => ?_) (fun c1 => ?_)
  · refine lv_aload_n hx hb dX6_talk_11 rfl (lv_at hl 0 rfl) ?_
    refine lv_ldc hx hb C.2.2.2.1 (C.2.2.2.2 _ kc_RX6_59) dX6_talk_12 ?_
    refine g_wrI0 hS (g_runV (As := [.int (-1000001)]) (rest := []) ky_yX6_finding lk_RX6_60 C hX (gS_b0 hI hS) hP 44 (c_yX6_finding l G ad hI σ (-1000001)) (by decide) (shX_44 G ad _) ⟨rfl, rfl, by decide, by decide⟩ rfl hl.1 rfl (Nat.le_of_ble_eq_true rfl) ⟨Nat.zero_le _, Nat.zero_le _⟩ dX6_talk_14) (fun H locs hP hS => ?_)
    exact g_iretM C hr hlk rfl (by rw [x_talk, if_pos c1]) hP hS dX6_talk_17
  · have hge1 := c1
    refine lv_iload_n hx hb dX6_talk_5 rfl (lv_at hl 1 rfl) ?_
    refine lv_bipush (v := 20) hx hb dX6_talk_6 (by decide) ?_
    refine lv_icmp_le (tgt := 18) hx hb dX6_talk_8 (by decide) (fun c2 => ?_) (fun c2 => ?_)
    · obtain ⟨hk1, hk2⟩ := nat_le (M := 21) (n0_of hge1) c2 (by decide)
      refine lv_aload_n hx hb dX6_talk_18 rfl (lv_at hl 0 rfl) ?_
      refine g_get fd_RX6_12 C hX hP 44 (by decide) (shX_44 G ad _) (v := .ref (ad 8)) rfl dX6_talk_19 ?_
      refine g_get fd_RX6_125 C hX hP 8 (by decide) (shX_8 G ad _) (v := .int (σ 8 1)) rfl dX6_talk_22 ?_
      refine lv_iload_n hx hb dX6_talk_25 rfl (lv_at hl 1 rfl) ?_
      refine lv_iadd hx hb dX6_talk_26 ?_
      refine lv_ldc hx hb C.2.2.2.1 (C.2.2.2.2 _ kc_RX6_128) dX6_talk_27 ?_
      refine lv_icmp_le (tgt := 39) hx hb dX6_talk_29 (by decide) (fun c3 => ?_) (fun c3 => ?_)
      · refine lv_iconst (v := 0) hx hb dX6_talk_39 (by decide) ?_
        refine lv_istore_n (lv' := [(2, .int 0), (0, .ref (ad 44)), (1, .int k)]) hx hb dX6_talk_40 rfl hl (by decide) rfl (fun ls hl => ?_)
        suffices loop41 : ∀ (n41 : Nat) (i : Nat) (τ : gM) (H : Heap) (locs : List Loc) (ls : Array Slot), (i + n41 = (nN k)) → (τ 8 0 = nI N) → x_talk σ k = (x_talk_L41 σ k n41 i τ) → gP G.1 55 ad (gE (shX G ad) τ) H → va_S (gA 55 ad) s.heap H locs → lv_has ls 3 [(2, .int (nI i)), (0, .ref (ad 44)), (1, .int k)] → W p l e rm_yX6_talk s m ([.ref (ad 44), .int k] : List Value).toArray below meth c H locs 0 0 (MQ below (va_Qi (fun (x : Int32) (τ : gM) => x_talk σ k = (x, τ)) (fun τ t => gP G.1 55 ad (gE (shX G ad) τ) t.heap) (gA 55 ad)) ([.ref (ad 44), .int k] : List Value).toArray s 0 0 (gA 55 ad)) (F0 m 41 ls []) by
          exact loop41 (nN k) 0 σ _ _ _ (by omega) hs (by rw [x_talk, if_neg c1, if_pos c2, if_pos c3]) hP hS (lv_sub hl [0, 1, 2] rfl)
        intro n41
        induction n41 with
        | zero =>
          intro i τ H locs ls hi41 hC hres41 hP hS hl
          refine lv_iload_n hx hb dX6_talk_41 rfl (lv_at hl 0 rfl) ?_
          refine lv_iload_n hx hb dX6_talk_42 rfl (lv_at hl 2 rfl) ?_
          refine lv_as (y := (nI (nN k))) hk1 ?_
          refine lv_icmp_ge (tgt := 67) hx hb dX6_talk_43 (by decide) (fun c4 => ?_) (fun c4 => ?_)
          · refine lv_aload_n hx hb dX6_talk_67 rfl (lv_at hl 1 rfl) ?_
            refine g_get fd_RX6_12 C hX hP 44 (by decide) (shX_44 G ad _) (v := .ref (ad 8)) rfl dX6_talk_68 ?_
            refine g_rd (g_runV (As := []) (rest := []) ky_yX0_knownByGloves lk_RX6_132 C hX (gS_b0 hI hS) (hP.sub (sh1 := (shC G (fun q_ => ad (0 + q_)))) 0 12 (by omega) (shX_club G ad)) 8 (c_yX0_knownByGloves l G (fun q_ => ad (0 + q_)) (hI.sub (m := 12) 0 (by omega)) (mget τ 0)  N hN hC) (by decide) (shC_8 G (fun q_ => ad (0 + q_)) _) ⟨rfl, rfl, by decide, by decide⟩ rfl hl.1 rfl (Nat.le_of_ble_eq_true rfl) ⟨Nat.zero_le _, Nat.zero_le _⟩ dX6_talk_71) ?_
            exact g_iretM C hr hlk rfl (by rw [hres41, x_talk_L41]) hP hS dX6_talk_74
          · exact absurd (show nI ((nN k)) ≤ nI i from nI_le (by omega) (by omega)) c4
        | succ n41 ih41 =>
          intro i τ H locs ls hi41 hC hres41 hP hS hl
          refine lv_iload_n hx hb dX6_talk_41 rfl (lv_at hl 0 rfl) ?_
          refine lv_iload_n hx hb dX6_talk_42 rfl (lv_at hl 2 rfl) ?_
          refine lv_as (y := (nI (nN k))) hk1 ?_
          refine lv_icmp_ge (tgt := 67) hx hb dX6_talk_43 (by decide) (fun c5 => ?_) (fun c5 => ?_)
          · exact absurd (show nI ((nN k)) ≤ nI i from c5) (nI_ge (by omega) (by omega))
          · refine lv_aload_n hx hb dX6_talk_46 rfl (lv_at hl 1 rfl) ?_
            refine g_get fd_RX6_12 C hX hP 44 (by decide) (shX_44 G ad _) (v := .ref (ad 8)) rfl dX6_talk_47 ?_
            refine g_wrV (o := 0) (m1 := 12) (by omega) (shX_club G ad) hI hP hS (g_runV (As := []) (rest := []) ky_yX0_drawSaying lk_RX6_223 C hX (gS_b0 hI hS) (hP.sub (sh1 := (shC G (fun q_ => ad (0 + q_)))) 0 12 (by omega) (shX_club G ad)) 8 (c_yX0_drawSaying l G (fun q_ => ad (0 + q_)) (hI.sub (m := 12) 0 (by omega)) (mget τ 0) ) (by decide) (shC_8 G (fun q_ => ad (0 + q_)) _) ⟨rfl, rfl, by decide, by decide⟩ rfl hl.1 rfl (Nat.le_of_ble_eq_true rfl) ⟨Nat.zero_le _, Nat.zero_le _⟩ dX6_talk_50) (fun H locs hP hS => ?_)
            refine lv_aload_n hx hb dX6_talk_53 rfl (lv_at hl 1 rfl) ?_
            refine g_get fd_RX6_12 C hX hP 44 (by decide) (shX_44 G ad _) (v := .ref (ad 8)) rfl dX6_talk_54 ?_
            refine lv_iconst (v := 0) hx hb dX6_talk_57 (by decide) ?_
            refine g_wrV (o := 0) (m1 := 12) (by omega) (shX_club G ad) hI hP hS (g_runV (As := [.int 0]) (rest := []) ky_yX0_passDay lk_RX6_169 C hX (gS_b0 hI hS) (hP.sub (sh1 := (shC G (fun q_ => ad (0 + q_)))) 0 12 (by omega) (shX_club G ad)) 8 (c_yX0_passDay l G (fun q_ => ad (0 + q_)) (hI.sub (m := 12) 0 (by omega)) (mget (mput τ 0 12 (x_drawSaying0 (mget τ 0))) 0) 0 N hN (by exact hC)) (by decide) (shC_8 G (fun q_ => ad (0 + q_)) _) ⟨rfl, rfl, by decide, by decide⟩ rfl hl.1 rfl (Nat.le_of_ble_eq_true rfl) ⟨Nat.zero_le _, Nat.zero_le _⟩ dX6_talk_58) (fun H locs hP hS => ?_)
            refine lv_iinc (v := (nI (i + 1))) (lv' := [(2, .int (nI (i + 1))), (0, .ref (ad 44)), (1, .int k)]) hx hb dX6_talk_61 hl (k := 0) rfl (by exact nI_1 _) (by decide) rfl (fun ls hl => ?_)
            refine lv_goto (tgt := 41) hx hb dX6_talk_64 (by decide) ?_
            exact ih41 (i + 1) ((mput (mput τ 0 12 (x_drawSaying0 (mget τ 0))) 0 12 (x_passDay0 (mget (mput τ 0 12 (x_drawSaying0 (mget τ 0))) 0) 0))) _ _ _ (by omega) (by exact pd_8 (σ := mget (mput τ 0 12 (x_drawSaying0 (mget τ 0))) 0) hN hC 0) (by rw [hres41, x_talk_L41]) hP hS (lv_sub hl [0, 1, 2] rfl)
      · refine lv_aload_n hx hb dX6_talk_32 rfl (lv_at hl 0 rfl) ?_
        refine lv_ldc hx hb C.2.2.2.1 (C.2.2.2.2 _ kc_RX6_114) dX6_talk_33 ?_
        refine g_wrI0 hS (g_runV (As := [.int (-1000005)]) (rest := []) ky_yX6_finding lk_RX6_60 C hX (gS_b0 hI hS) hP 44 (c_yX6_finding l G ad hI σ (-1000005)) (by decide) (shX_44 G ad _) ⟨rfl, rfl, by decide, by decide⟩ rfl hl.1 rfl (Nat.le_of_ble_eq_true rfl) ⟨Nat.zero_le _, Nat.zero_le _⟩ dX6_talk_35) (fun H locs hP hS => ?_)
        exact g_iretM C hr hlk rfl (by rw [x_talk, if_neg c1, if_pos c2, if_neg c3]) hP hS dX6_talk_38
    · refine lv_aload_n hx hb dX6_talk_11 rfl (lv_at hl 0 rfl) ?_
      refine lv_ldc hx hb C.2.2.2.1 (C.2.2.2.2 _ kc_RX6_59) dX6_talk_12 ?_
      refine g_wrI0 hS (g_runV (As := [.int (-1000001)]) (rest := []) ky_yX6_finding lk_RX6_60 C hX (gS_b0 hI hS) hP 44 (c_yX6_finding l G ad hI σ (-1000001)) (by decide) (shX_44 G ad _) ⟨rfl, rfl, by decide, by decide⟩ rfl hl.1 rfl (Nat.le_of_ble_eq_true rfl) ⟨Nat.zero_le _, Nat.zero_le _⟩ dX6_talk_14) (fun H locs hP hS => ?_)
      exact g_iretM C hr hlk rfl (by rw [x_talk, if_neg c1, if_neg c2]) hP hS dX6_talk_17

def x_power_L5 (base : Int32) (k : Nat) : Nat → Nat → Int64 → Int64
  | 0, i, prod => prod
  | n5 + 1, i, prod => (x_power_L5 base k n5 (i + 1) (prod * ((base).toInt64)))
def x_power (base : Int32) (k : Nat) : Int64 := (x_power_L5 base k k 0 1)
def rm_yX6_power : Room := { frames := 0, cells := 0, slots := 0, locals := 0 }
set_option maxHeartbeats 4000000 in
set_option maxRecDepth 100000 in
theorem c_yX6_power (l : Launch) (base : Int32) (k : Nat) (hk : k < 1000) : gPureL l yX6_power cX6_power 5 (some .long) rm_yX6_power [.int base, .int (nI k)] (x_power base k) := by
  refine g_start [.int base, .int (nI k)] (by decide +kernel) (Nat.le_of_ble_eq_true rfl) ?_
  intro p e s m below meth c ls B Z hl
  obtain ⟨C, hr, hlk⟩ := B
  have hx := C.1
  have hb := C.2.1
  have hl : lv_has ls 5 [(0, .int base), (1, .int (nI k))] := hl
  refine lv_lconst (v := 1) hx hb dX6_power_0 (by decide) ?_
  refine lv_lstore_n (lv' := [(2, .long 1), (0, .int base), (1, .int (nI k))]) hx hb dX6_power_1 rfl hl (by decide) rfl (fun ls hl => ?_)
  refine lv_iconst (v := 0) hx hb dX6_power_2 (by decide) ?_
  refine lv_istore (lv' := [(4, .int 0), (2, .long 1), (0, .int base), (1, .int (nI k))]) hx hb dX6_power_3 hl (by decide) rfl (fun ls hl => ?_)
  suffices loop5 : ∀ (n5 : Nat) (i : Nat) (prod : Int64) (ls : Array Slot), (i + n5 = k) → x_power base k = (x_power_L5 base k n5 i prod) → lv_has ls 5 [(4, .int (nI i)), (2, .long prod), (0, .int base), (1, .int (nI k))] → W p l e rm_yX6_power s m ([.int base, .int (nI k)] : List Value).toArray below meth c s.heap [] 0 0 (MQ below (vp_Sl (fun x => x = x_power base k)) ([.int base, .int (nI k)] : List Value).toArray s 0 0 (fun _ => False)) (F0 m 5 ls []) by
    exact loop5 k 0 1 _ (by omega) (by rw [x_power]) (lv_sub hl [0, 1, 2, 3] rfl)
  intro n5
  induction n5 with
  | zero =>
    intro i prod ls hi5 hres5 hl
    refine lv_iload hx hb dX6_power_5 (lv_at hl 0 rfl) ?_
    refine lv_iload_n hx hb dX6_power_7 rfl (lv_at hl 3 rfl) ?_
    refine lv_icmp_ge (tgt := 22) hx hb dX6_power_8 (by decide) (fun c1 => ?_) (fun c1 => ?_)
    · refine lv_lload_n hx hb dX6_power_22 rfl (lv_at hl 1 rfl) ?_
      exact g_lret C hr hlk (by rw [hres5, x_power_L5]) rfl rfl dX6_power_23
    · exact absurd (show nI (k) ≤ nI i from nI_le (by omega) (by omega)) c1
  | succ n5 ih5 =>
    intro i prod ls hi5 hres5 hl
    refine lv_iload hx hb dX6_power_5 (lv_at hl 0 rfl) ?_
    refine lv_iload_n hx hb dX6_power_7 rfl (lv_at hl 3 rfl) ?_
    refine lv_icmp_ge (tgt := 22) hx hb dX6_power_8 (by decide) (fun c2 => ?_) (fun c2 => ?_)
    · exact absurd (show nI (k) ≤ nI i from c2) (nI_ge (by omega) (by omega))
    · refine lv_lload_n hx hb dX6_power_11 rfl (lv_at hl 1 rfl) ?_
      refine lv_iload_n hx hb dX6_power_12 rfl (lv_at hl 2 rfl) ?_
      refine lv_i2l (v := (base).toInt64) hx hb dX6_power_13 rfl ?_
      refine lv_lmul hx hb dX6_power_14 ?_
      refine lv_lstore_n (lv' := [(2, .long (prod * ((base).toInt64))), (4, .int (nI i)), (0, .int base), (1, .int (nI k))]) hx hb dX6_power_15 rfl hl (by decide) rfl (fun ls hl => ?_)
      refine lv_iinc (v := (nI (i + 1))) (lv' := [(4, .int (nI (i + 1))), (2, .long (prod * ((base).toInt64))), (0, .int base), (1, .int (nI k))]) hx hb dX6_power_16 hl (k := 1) rfl (by exact nI_1 _) (by decide) rfl (fun ls hl => ?_)
      refine lv_goto (tgt := 5) hx hb dX6_power_19 (by decide) ?_
      exact ih5 (i + 1) (prod * ((base).toInt64)) _ (by omega) (by rw [hres5, x_power_L5]) (lv_sub hl [0, 1, 2, 3] rfl)

def x_odds_L50 (σ : gM) (glove : Int32) (k : Int32) (what : Int32) : Nat → Int32 → Int32 → Int64 × gM
  | 0, above, blw => (0, σ)
  | n50 + 1, above, blw => if blw ≤ 1 then (if what = 0 then ((x_power above (nN k)), σ) else ((x_power blw (nN k)), σ)) else (if (jrem above 2) = 0 then (x_odds_L50 σ glove k what n50 (above / 2) (blw / 2)) else (if what = 0 then ((x_power above (nN k)), σ) else ((x_power blw (nN k)), σ)))
def x_odds (σ : gM) (glove : Int32) (k : Int32) (what : Int32) : Int64 × gM := if (x_has0 (mget σ 0) glove) = 0 then ((((x_finding σ (-1000001)).1).toInt64), (x_finding σ (-1000001)).2) else (if (x_isWithin k 15) = 0 then ((((x_finding σ (-1000001)).1).toInt64), (x_finding σ (-1000001)).2) else (if (x_isWithin what 1) = 0 then ((((x_finding σ (-1000001)).1).toInt64), (x_finding σ (-1000001)).2) else (x_odds_L50 σ glove k what 5 ((x_topicsInHand0 (mget σ 0) (nN glove))) 16)))
def rm_yX6_odds : Room := { frames := 2, cells := 0, slots := 0, locals := 43 }
set_option maxHeartbeats 4000000 in
set_option maxRecDepth 100000 in
theorem c_yX6_odds (l : Launch) (G : gG) (ad : Nat → Nat) (hI : gI G.2.2.1 55 ad) (σ : gM) (glove : Int32) (k : Int32) (what : Int32) (N : Nat) (hN : N ≤ 8) (hs : σ 8 0 = nI N) : gMutL l yX6_odds cX6_odds 6 (some .long) rm_yX6_odds G [.ref (ad 44), .int glove, .int k, .int what] 55 ad (shX G ad) σ (x_odds σ glove k what) := by
  refine g_start [.ref (ad 44), .int glove, .int k, .int what] (by decide +kernel) (Nat.le_of_ble_eq_true rfl) ?_
  intro p e s m below meth c ls B Z hl
  obtain ⟨C, hr, hlk⟩ := B
  have hx := C.1
  have hb := C.2.1
  obtain ⟨hX, hP⟩ := Z
  have hS : va_S (gA 55 ad) s.heap s.heap [] := va_S.rf
  revert hP hS
  intro hP hS
  have hl : lv_has ls 6 [(0, .ref (ad 44)), (1, .int glove), (2, .int k), (3, .int what)] := hl
  refine lv_aload_n hx hb dX6_odds_0 rfl (lv_at hl 0 rfl) ?_
  refine g_get fd_RX6_12 C hX hP 44 (by decide) (shX_44 G ad _) (v := .ref (ad 8)) rfl dX6_odds_1 ?_
  refine lv_iload_n hx hb dX6_odds_4 rfl (lv_at hl 1 rfl) ?_
  refine g_rd (g_runV (As := [.int glove]) (rest := []) ky_yX0_has lk_RX6_88 C hX (gS_b0 hI hS) (hP.sub (sh1 := (shC G (fun q_ => ad (0 + q_)))) 0 12 (by omega) (shX_club G ad)) 8 (c_yX0_has l G (fun q_ => ad (0 + q_)) (hI.sub (m := 12) 0 (by omega)) (mget σ 0) glove) (by decide) (shC_8 G (fun q_ => ad (0 + q_)) _) ⟨rfl, rfl, by decide, by decide⟩ rfl hl.1 rfl (Nat.le_of_ble_eq_true rfl) ⟨Nat.zero_le _, Nat.zero_le _⟩ dX6_odds_5) ?_
  refine lv_if_eq (tgt := 28) hx hb dX6_odds_8 (by decide) (fun c1 => ?_) (fun c1 => ?_)
  · refine lv_aload_n hx hb dX6_odds_28 rfl (lv_at hl 0 rfl) ?_
    refine lv_ldc hx hb C.2.2.2.1 (C.2.2.2.2 _ kc_RX6_59) dX6_odds_29 ?_
    refine g_wrI0 hS (g_runV (As := [.int (-1000001)]) (rest := []) ky_yX6_finding lk_RX6_60 C hX (gS_b0 hI hS) hP 44 (c_yX6_finding l G ad hI σ (-1000001)) (by decide) (shX_44 G ad _) ⟨rfl, rfl, by decide, by decide⟩ rfl hl.1 rfl (Nat.le_of_ble_eq_true rfl) ⟨Nat.zero_le _, Nat.zero_le _⟩ dX6_odds_31) (fun H locs hP hS => ?_)
    refine lv_i2l (v := ((x_finding σ (-1000001)).1).toInt64) hx hb dX6_odds_34 rfl ?_
    exact g_lretM C hr hlk (by rw [x_odds, if_pos c1]) hP hS dX6_odds_35
  · obtain ⟨hg1, hg2⟩ := has_of hN hs c1
    refine lv_iload_n hx hb dX6_odds_11 rfl (lv_at hl 2 rfl) ?_
    refine lv_bipush (v := 15) hx hb dX6_odds_12 (by decide) ?_
    refine g_rd (g_runS (As := [.int k, .int 15]) (rest := []) ky_yX6_isWithin lk_RX6_51 C (c_yX6_isWithin l k 15) ⟨rfl, rfl, by decide, by decide⟩ rfl hl.1 rfl (Nat.le_of_ble_eq_true rfl) ⟨Nat.zero_le _, Nat.zero_le _⟩ dX6_odds_14) ?_
    refine lv_if_eq (tgt := 28) hx hb dX6_odds_17 (by decide) (fun c2 => ?_) (fun c2 => ?_)
    · refine lv_aload_n hx hb dX6_odds_28 rfl (lv_at hl 0 rfl) ?_
      refine lv_ldc hx hb C.2.2.2.1 (C.2.2.2.2 _ kc_RX6_59) dX6_odds_29 ?_
      refine g_wrI0 hS (g_runV (As := [.int (-1000001)]) (rest := []) ky_yX6_finding lk_RX6_60 C hX (gS_b0 hI hS) hP 44 (c_yX6_finding l G ad hI σ (-1000001)) (by decide) (shX_44 G ad _) ⟨rfl, rfl, by decide, by decide⟩ rfl hl.1 rfl (Nat.le_of_ble_eq_true rfl) ⟨Nat.zero_le _, Nat.zero_le _⟩ dX6_odds_31) (fun H locs hP hS => ?_)
      refine lv_i2l (v := ((x_finding σ (-1000001)).1).toInt64) hx hb dX6_odds_34 rfl ?_
      exact g_lretM C hr hlk (by rw [x_odds, if_neg c1, if_pos c2]) hP hS dX6_odds_35
    · obtain ⟨hk1, hk2⟩ := isW_of (M := 15) (by decide) c2
      refine lv_iload_n hx hb dX6_odds_20 rfl (lv_at hl 3 rfl) ?_
      refine lv_iconst (v := 1) hx hb dX6_odds_21 (by decide) ?_
      refine g_rd (g_runS (As := [.int what, .int 1]) (rest := []) ky_yX6_isWithin lk_RX6_51 C (c_yX6_isWithin l what 1) ⟨rfl, rfl, by decide, by decide⟩ rfl hl.1 rfl (Nat.le_of_ble_eq_true rfl) ⟨Nat.zero_le _, Nat.zero_le _⟩ dX6_odds_22) ?_
      refine lv_if_ne (tgt := 36) hx hb dX6_odds_25 (by decide) (fun c3 => ?_) (fun c3 => ?_)
      · refine lv_aload_n hx hb dX6_odds_36 rfl (lv_at hl 0 rfl) ?_
        refine g_get fd_RX6_12 C hX hP 44 (by decide) (shX_44 G ad _) (v := .ref (ad 8)) rfl dX6_odds_37 ?_
        refine lv_iload_n hx hb dX6_odds_40 rfl (lv_at hl 1 rfl) ?_
        refine lv_as (y := (nI (nN glove))) hg1 ?_
        refine g_rd (g_runV (As := [.int (nI (nN glove))]) (rest := []) ky_yX0_topicsInHand lk_RX6_180 C hX (gS_b0 hI hS) (hP.sub (sh1 := (shC G (fun q_ => ad (0 + q_)))) 0 12 (by omega) (shX_club G ad)) 8 (c_yX0_topicsInHand l G (fun q_ => ad (0 + q_)) (hI.sub (m := 12) 0 (by omega)) (mget σ 0) (nN glove) (by omega)) (by decide) (shC_8 G (fun q_ => ad (0 + q_)) _) ⟨rfl, rfl, by decide, by decide⟩ rfl hl.1 rfl (Nat.le_of_ble_eq_true rfl) ⟨Nat.zero_le _, Nat.zero_le _⟩ dX6_odds_41) ?_
        refine lv_istore (lv' := [(4, .int (x_topicsInHand0 (mget σ 0) (nN glove))), (0, .ref (ad 44)), (1, .int glove), (2, .int k), (3, .int what)]) hx hb dX6_odds_44 hl (by decide) rfl (fun ls hl => ?_)
        refine lv_bipush (v := 16) hx hb dX6_odds_46 (by decide) ?_
        refine lv_istore (lv' := [(5, .int 16), (4, .int (x_topicsInHand0 (mget σ 0) (nN glove))), (0, .ref (ad 44)), (1, .int glove), (2, .int k), (3, .int what)]) hx hb dX6_odds_48 hl (by decide) rfl (fun ls hl => ?_)
        suffices loop50 : ∀ (n50 : Nat) (above : Int32) (blw : Int32) (H : Heap) (locs : List Loc) (ls : Array Slot), (∃ q, q + 1 = n50 ∧ q ≤ 4 ∧ blw = nI (2 ^ q)) → x_odds σ glove k what = (x_odds_L50 σ glove k what n50 above blw) → gP G.1 55 ad (gE (shX G ad) σ) H → va_S (gA 55 ad) s.heap H locs → lv_has ls 6 [(5, .int blw), (4, .int above), (0, .ref (ad 44)), (1, .int glove), (2, .int k), (3, .int what)] → W p l e rm_yX6_odds s m ([.ref (ad 44), .int glove, .int k, .int what] : List Value).toArray below meth c H locs 0 0 (MQ below (va_Ql (fun (x : Int64) (τ : gM) => x_odds σ glove k what = (x, τ)) (fun τ t => gP G.1 55 ad (gE (shX G ad) τ) t.heap) (gA 55 ad)) ([.ref (ad 44), .int glove, .int k, .int what] : List Value).toArray s 0 0 (gA 55 ad)) (F0 m 50 ls []) by
          exact loop50 5 ((x_topicsInHand0 (mget σ 0) (nN glove))) 16 _ _ _ ⟨4, rfl, by decide, by decide⟩ (by rw [x_odds, if_neg c1, if_neg c2, if_neg c3]) hP hS (lv_sub hl [0, 1, 2, 3, 4, 5] rfl)
        intro n50
        induction n50 with
        | zero =>
          intro above blw H locs ls hq hres50 hP hS hl
          obtain ⟨q, h1, -⟩ := hq
          exact absurd h1 (by omega)
        | succ n50 ih50 =>
          intro above blw H locs ls hq hres50 hP hS hl
          refine lv_iload hx hb dX6_odds_50 (lv_at hl 0 rfl) ?_
          refine lv_iconst (v := 1) hx hb dX6_odds_52 (by decide) ?_
          refine lv_icmp_le (tgt := 78) hx hb dX6_odds_53 (by decide) (fun c4 => ?_) (fun c4 => ?_)
          · refine lv_iload_n hx hb dX6_odds_78 rfl (lv_at hl 5 rfl) ?_
            refine lv_if_ne (tgt := 87) hx hb dX6_odds_79 (by decide) (fun c5 => ?_) (fun c5 => ?_)
            · refine lv_iload hx hb dX6_odds_87 (lv_at hl 0 rfl) ?_
              refine lv_iload_n hx hb dX6_odds_89 rfl (lv_at hl 4 rfl) ?_
              refine lv_as (y := (nI (nN k))) hk1 ?_
              refine g_rdL (g_runS (As := [.int blw, .int (nI (nN k))]) (rest := []) ky_yX6_power lk_RX6_226 C (c_yX6_power l blw (nN k) (by omega)) ⟨rfl, rfl, by decide, by decide⟩ rfl hl.1 rfl (Nat.le_of_ble_eq_true rfl) ⟨Nat.zero_le _, Nat.zero_le _⟩ dX6_odds_90) ?_
              exact g_lretM C hr hlk (by rw [hres50, x_odds_L50, if_pos c4, if_neg c5]) hP hS dX6_odds_93
            · refine lv_iload hx hb dX6_odds_82 (lv_at hl 1 rfl) ?_
              refine lv_goto (tgt := 89) hx hb dX6_odds_84 (by decide) ?_
              refine lv_iload_n hx hb dX6_odds_89 rfl (lv_at hl 4 rfl) ?_
              refine lv_as (y := (nI (nN k))) hk1 ?_
              refine g_rdL (g_runS (As := [.int above, .int (nI (nN k))]) (rest := []) ky_yX6_power lk_RX6_226 C (c_yX6_power l above (nN k) (by omega)) ⟨rfl, rfl, by decide, by decide⟩ rfl hl.1 rfl (Nat.le_of_ble_eq_true rfl) ⟨Nat.zero_le _, Nat.zero_le _⟩ dX6_odds_90) ?_
              exact g_lretM C hr hlk (by rw [hres50, x_odds_L50, if_pos c4, if_pos c5]) hP hS dX6_odds_93
          · refine lv_iload hx hb dX6_odds_56 (lv_at hl 1 rfl) ?_
            refine lv_iconst (v := 2) hx hb dX6_odds_58 (by decide) ?_
            refine g_irem hx hb dX6_odds_59 (by decide) ?_
            refine lv_if_ne (tgt := 78) hx hb dX6_odds_60 (by decide) (fun c6 => ?_) (fun c6 => ?_)
            · refine lv_iload_n hx hb dX6_odds_78 rfl (lv_at hl 5 rfl) ?_
              refine lv_if_ne (tgt := 87) hx hb dX6_odds_79 (by decide) (fun c7 => ?_) (fun c7 => ?_)
              · refine lv_iload hx hb dX6_odds_87 (lv_at hl 0 rfl) ?_
                refine lv_iload_n hx hb dX6_odds_89 rfl (lv_at hl 4 rfl) ?_
                refine lv_as (y := (nI (nN k))) hk1 ?_
                refine g_rdL (g_runS (As := [.int blw, .int (nI (nN k))]) (rest := []) ky_yX6_power lk_RX6_226 C (c_yX6_power l blw (nN k) (by omega)) ⟨rfl, rfl, by decide, by decide⟩ rfl hl.1 rfl (Nat.le_of_ble_eq_true rfl) ⟨Nat.zero_le _, Nat.zero_le _⟩ dX6_odds_90) ?_
                exact g_lretM C hr hlk (by rw [hres50, x_odds_L50, if_neg c4, if_neg c6, if_neg c7]) hP hS dX6_odds_93
              · refine lv_iload hx hb dX6_odds_82 (lv_at hl 1 rfl) ?_
                refine lv_goto (tgt := 89) hx hb dX6_odds_84 (by decide) ?_
                refine lv_iload_n hx hb dX6_odds_89 rfl (lv_at hl 4 rfl) ?_
                refine lv_as (y := (nI (nN k))) hk1 ?_
                refine g_rdL (g_runS (As := [.int above, .int (nI (nN k))]) (rest := []) ky_yX6_power lk_RX6_226 C (c_yX6_power l above (nN k) (by omega)) ⟨rfl, rfl, by decide, by decide⟩ rfl hl.1 rfl (Nat.le_of_ble_eq_true rfl) ⟨Nat.zero_le _, Nat.zero_le _⟩ dX6_odds_90) ?_
                exact g_lretM C hr hlk (by rw [hres50, x_odds_L50, if_neg c4, if_neg c6, if_pos c7]) hP hS dX6_odds_93
            · refine lv_iload hx hb dX6_odds_63 (lv_at hl 1 rfl) ?_
              refine lv_iconst (v := 2) hx hb dX6_odds_65 (by decide) ?_
              refine lv_idiv hx hb dX6_odds_66 (by decide) ?_
              refine lv_istore (lv' := [(4, .int (above / 2)), (5, .int blw), (0, .ref (ad 44)), (1, .int glove), (2, .int k), (3, .int what)]) hx hb dX6_odds_67 hl (by decide) rfl (fun ls hl => ?_)
              refine lv_iload hx hb dX6_odds_69 (lv_at hl 1 rfl) ?_
              refine lv_iconst (v := 2) hx hb dX6_odds_71 (by decide) ?_
              refine lv_idiv hx hb dX6_odds_72 (by decide) ?_
              refine lv_istore (lv' := [(5, .int (blw / 2)), (4, .int (above / 2)), (0, .ref (ad 44)), (1, .int glove), (2, .int k), (3, .int what)]) hx hb dX6_odds_73 hl (by decide) rfl (fun ls hl => ?_)
              refine lv_goto (tgt := 50) hx hb dX6_odds_75 (by decide) ?_
              exact ih50 (above / 2) (blw / 2) _ _ _ (odds_q hq (by assumption)) (by rw [hres50, x_odds_L50, if_neg c4, if_pos c6]) hP hS (lv_sub hl [0, 1, 2, 3, 4, 5] rfl)
      · refine lv_aload_n hx hb dX6_odds_28 rfl (lv_at hl 0 rfl) ?_
        refine lv_ldc hx hb C.2.2.2.1 (C.2.2.2.2 _ kc_RX6_59) dX6_odds_29 ?_
        refine g_wrI0 hS (g_runV (As := [.int (-1000001)]) (rest := []) ky_yX6_finding lk_RX6_60 C hX (gS_b0 hI hS) hP 44 (c_yX6_finding l G ad hI σ (-1000001)) (by decide) (shX_44 G ad _) ⟨rfl, rfl, by decide, by decide⟩ rfl hl.1 rfl (Nat.le_of_ble_eq_true rfl) ⟨Nat.zero_le _, Nat.zero_le _⟩ dX6_odds_31) (fun H locs hP hS => ?_)
        refine lv_i2l (v := ((x_finding σ (-1000001)).1).toInt64) hx hb dX6_odds_34 rfl ?_
        exact g_lretM C hr hlk (by rw [x_odds, if_neg c1, if_neg c2, if_pos c3]) hP hS dX6_odds_35

def x_seed (σ : gM) (v : Int32) : Int32 × gM := ((σ 8 2), (mset σ 8 2 v))
def rm_yX6_seed : Room := { frames := 0, cells := 0, slots := 0, locals := 0 }
set_option maxHeartbeats 4000000 in
set_option maxRecDepth 100000 in
theorem c_yX6_seed (l : Launch) (G : gG) (ad : Nat → Nat) (hI : gI G.2.2.1 55 ad) (σ : gM) (v : Int32) : gMutI l yX6_seed cX6_seed 3 (some .int) rm_yX6_seed G [.ref (ad 44), .int v] 55 ad (shX G ad) σ (x_seed σ v) := by
  refine g_start [.ref (ad 44), .int v] (by decide +kernel) (Nat.le_of_ble_eq_true rfl) ?_
  intro p e s m below meth c ls B Z hl
  obtain ⟨C, hr, hlk⟩ := B
  have hx := C.1
  have hb := C.2.1
  obtain ⟨hX, hP⟩ := Z
  have hS : va_S (gA 55 ad) s.heap s.heap [] := va_S.rf
  revert hP hS
  intro hP hS
  have hl : lv_has ls 3 [(0, .ref (ad 44)), (1, .int v)] := hl
  refine lv_aload_n hx hb dX6_seed_0 rfl (lv_at hl 0 rfl) ?_
  refine g_get fd_RX6_12 C hX hP 44 (by decide) (shX_44 G ad _) (v := .ref (ad 8)) rfl dX6_seed_1 ?_
  refine g_get fd_RX6_230 C hX hP 8 (by decide) (shX_8 G ad _) (v := .int (σ 8 2)) rfl dX6_seed_4 ?_
  refine lv_istore_n (lv' := [(2, .int (σ 8 2)), (0, .ref (ad 44)), (1, .int v)]) hx hb dX6_seed_7 rfl hl (by decide) rfl (fun ls hl => ?_)
  refine lv_aload_n hx hb dX6_seed_8 rfl (lv_at hl 1 rfl) ?_
  refine g_get fd_RX6_12 C hX hP 44 (by decide) (shX_44 G ad _) (v := .ref (ad 8)) rfl dX6_seed_9 ?_
  refine lv_iload_n hx hb dX6_seed_12 rfl (lv_at hl 2 rfl) ?_
  refine g_put fd_RX6_230 C hX hI hP hS 8 (by decide) (shX_8 G ad _) rfl rfl (Nat.le_of_ble_eq_true rfl) (upd (σ 8) 2 v) rfl dX6_seed_13 (fun H locs hP hS => ?_)
  have hP : gP G.1 55 ad (gE (shX G ad) (mset σ 8 2 v)) H := hP
  refine lv_iload_n hx hb dX6_seed_16 rfl (lv_at hl 0 rfl) ?_
  exact g_iretM C hr hlk rfl (by rw [x_seed]) hP hS dX6_seed_17

def x_feed_L42 (σ : gM) (bytes : Int32) (k : Int32) : Nat → Int32 → gM → Int32 × gM
  | 0, kk, τ => ((τ 42 0), τ)
  | n42 + 1, kk, τ => (x_feed_L42 σ bytes k n42 (kk + (-1)) ((mput τ 42 2 (x_append3 (mget τ 42) (((jushr bytes (8 * kk))).toInt8.toInt32)))))
def x_feed (σ : gM) (bytes : Int32) (k : Int32) : Int32 × gM := if k < 1 then ((x_finding σ (-1000001)).1, (x_finding σ (-1000001)).2) else (if k ≤ 4 then (if ((σ 42 0) + k) ≤ 120 then (x_feed_L42 σ bytes k (nN k) (k - 1) σ) else ((x_finding σ (-1000002)).1, (x_finding σ (-1000002)).2)) else ((x_finding σ (-1000001)).1, (x_finding σ (-1000001)).2))
def rm_yX6_feed : Room := { frames := 2, cells := 0, slots := 0, locals := 43 }
set_option maxHeartbeats 4000000 in
set_option maxRecDepth 100000 in
theorem c_yX6_feed (l : Launch) (G : gG) (ad : Nat → Nat) (hI : gI G.2.2.1 55 ad) (σ : gM) (bytes : Int32) (k : Int32) (T : Nat) (hT : T ≤ 120) (ht : σ 42 0 = nI T) : gMutI l yX6_feed cX6_feed 4 (some .int) rm_yX6_feed G [.ref (ad 44), .int bytes, .int k] 55 ad (shX G ad) σ (x_feed σ bytes k) := by
  refine g_start [.ref (ad 44), .int bytes, .int k] (by decide +kernel) (Nat.le_of_ble_eq_true rfl) ?_
  intro p e s m below meth c ls B Z hl
  obtain ⟨C, hr, hlk⟩ := B
  have hx := C.1
  have hb := C.2.1
  obtain ⟨hX, hP⟩ := Z
  have hS : va_S (gA 55 ad) s.heap s.heap [] := va_S.rf
  revert hP hS
  intro hP hS
  have hl : lv_has ls 4 [(0, .ref (ad 44)), (1, .int bytes), (2, .int k)] := hl
  refine lv_iload_n hx hb dX6_feed_0 rfl (lv_at hl 2 rfl) ?_
  refine lv_iconst (v := 1) hx hb dX6_feed_1 (by decide) ?_
  refine lv_icmp_lt (tgt := 10) hx hb dX6_feed_2 (by decide) (fun c1 => ?_) (fun c1 => ?_)
  · refine lv_aload_n hx hb dX6_feed_10 rfl (lv_at hl 0 rfl) ?_
    refine lv_ldc hx hb C.2.2.2.1 (C.2.2.2.2 _ kc_RX6_59) dX6_feed_11 ?_
    refine g_wrI0 hS (g_runV (As := [.int (-1000001)]) (rest := []) ky_yX6_finding lk_RX6_60 C hX (gS_b0 hI hS) hP 44 (c_yX6_finding l G ad hI σ (-1000001)) (by decide) (shX_44 G ad _) ⟨rfl, rfl, by decide, by decide⟩ rfl hl.1 rfl (Nat.le_of_ble_eq_true rfl) ⟨Nat.zero_le _, Nat.zero_le _⟩ dX6_feed_13) (fun H locs hP hS => ?_)
    exact g_iretM C hr hlk rfl (by rw [x_feed, if_pos c1]) hP hS dX6_feed_16
  · have hge1 := c1
    refine lv_iload_n hx hb dX6_feed_5 rfl (lv_at hl 2 rfl) ?_
    refine lv_iconst (v := 4) hx hb dX6_feed_6 (by decide) ?_
    refine lv_icmp_le (tgt := 17) hx hb dX6_feed_7 (by decide) (fun c2 => ?_) (fun c2 => ?_)
    · obtain ⟨hk1, hk2⟩ := nat_le (M := 5) (n0_of hge1) c2 (by decide)
      refine lv_aload_n hx hb dX6_feed_17 rfl (lv_at hl 0 rfl) ?_
      refine g_get fd_RX6_29 C hX hP 44 (by decide) (shX_44 G ad _) (v := .ref (ad 42)) rfl dX6_feed_18 ?_
      refine g_get fd_RX6_233 C hX hP 42 (by decide) (shX_42 G ad _) (v := .int (σ 42 0)) rfl dX6_feed_21 ?_
      refine lv_iload_n hx hb dX6_feed_24 rfl (lv_at hl 2 rfl) ?_
      refine lv_iadd hx hb dX6_feed_25 ?_
      refine lv_bipush (v := 120) hx hb dX6_feed_26 (by decide) ?_
      refine lv_icmp_le (tgt := 38) hx hb dX6_feed_28 (by decide) (fun c3 => ?_) (fun c3 => ?_)
      · have hfit : ∃ t, σ 42 0 = nI t ∧ t + nN k ≤ 120 := by
          refine ⟨T, ht, ?_⟩
          have q := c3
          rw [ht, hk1, nI_add] at q
          exact (nI_leI (by omega) (by decide)).mp q
        refine lv_iload_n hx hb dX6_feed_38 rfl (lv_at hl 2 rfl) ?_
        refine lv_iconst (v := 1) hx hb dX6_feed_39 (by decide) ?_
        refine lv_isub hx hb dX6_feed_40 ?_
        refine lv_istore_n (lv' := [(3, .int (k - 1)), (0, .ref (ad 44)), (1, .int bytes), (2, .int k)]) hx hb dX6_feed_41 rfl hl (by decide) rfl (fun ls hl => ?_)
        suffices loop42 : ∀ (n42 : Nat) (kk : Int32) (τ : gM) (H : Heap) (locs : List Loc) (ls : Array Slot), (kk = nI n42 - 1) → (n42 ≤ 4) → (∃ t, τ 42 0 = nI t ∧ t + n42 ≤ 120) → x_feed σ bytes k = (x_feed_L42 σ bytes k n42 kk τ) → gP G.1 55 ad (gE (shX G ad) τ) H → va_S (gA 55 ad) s.heap H locs → lv_has ls 4 [(3, .int kk), (0, .ref (ad 44)), (1, .int bytes), (2, .int k)] → W p l e rm_yX6_feed s m ([.ref (ad 44), .int bytes, .int k] : List Value).toArray below meth c H locs 0 0 (MQ below (va_Qi (fun (x : Int32) (τ : gM) => x_feed σ bytes k = (x, τ)) (fun τ t => gP G.1 55 ad (gE (shX G ad) τ) t.heap) (gA 55 ad)) ([.ref (ad 44), .int bytes, .int k] : List Value).toArray s 0 0 (gA 55 ad)) (F0 m 42 ls []) by
          exact loop42 (nN k) (k - 1) σ _ _ _ (congrArg (fun z => z - 1) hk1) (by omega) hfit (by rw [x_feed, if_neg c1, if_pos c2, if_pos c3]) hP hS (lv_sub hl [0, 1, 2, 3] rfl)
        intro n42
        induction n42 with
        | zero =>
          intro kk τ H locs ls hl42 hm42 htt hres42 hP hS hl
          refine lv_iload_n hx hb dX6_feed_42 rfl (lv_at hl 0 rfl) ?_
          refine lv_if_lt (tgt := 66) hx hb dX6_feed_43 (by decide) (fun c4 => ?_) (fun c4 => ?_)
          · refine lv_aload_n hx hb dX6_feed_66 rfl (lv_at hl 1 rfl) ?_
            refine g_get fd_RX6_29 C hX hP 44 (by decide) (shX_44 G ad _) (v := .ref (ad 42)) rfl dX6_feed_67 ?_
            refine g_get fd_RX6_233 C hX hP 42 (by decide) (shX_42 G ad _) (v := .int (τ 42 0)) rfl dX6_feed_70 ?_
            exact g_iretM C hr hlk rfl (by rw [hres42, x_feed_L42]) hP hS dX6_feed_73
          · exact absurd (show kk < 0 by rw [hl42]; decide) c4
        | succ n42 ih42 =>
          intro kk τ H locs ls hl42 hm42 htt hres42 hP hS hl
          obtain ⟨t, ht1, ht2⟩ := htt
          refine lv_iload_n hx hb dX6_feed_42 rfl (lv_at hl 0 rfl) ?_
          refine lv_if_lt (tgt := 66) hx hb dX6_feed_43 (by decide) (fun c5 => ?_) (fun c5 => ?_)
          · exact absurd (show nI n42 < 0 by rw [← nI_pred, ← hl42]; exact c5) (nI_pos (by omega))
          · refine lv_aload_n hx hb dX6_feed_46 rfl (lv_at hl 1 rfl) ?_
            refine g_get fd_RX6_29 C hX hP 44 (by decide) (shX_44 G ad _) (v := .ref (ad 42)) rfl dX6_feed_47 ?_
            refine lv_iload_n hx hb dX6_feed_50 rfl (lv_at hl 2 rfl) ?_
            refine lv_bipush (v := 8) hx hb dX6_feed_51 (by decide) ?_
            refine lv_iload_n hx hb dX6_feed_53 rfl (lv_at hl 0 rfl) ?_
            refine lv_imul hx hb dX6_feed_54 ?_
            refine g_iushr hx hb dX6_feed_55 ?_
            refine lv_i2b (v := ((jushr bytes (8 * kk))).toInt8.toInt32) hx hb dX6_feed_56 rfl ?_
            refine g_wrV (o := 42) (m1 := 2) (by omega) (shX_tape G ad) hI hP hS (g_runV (As := [.int (((jushr bytes (8 * kk))).toInt8.toInt32)]) (rest := []) ky_yX3_append lk_RX6_236 C hX (gS_b0 hI hS) (hP.sub (sh1 := (shP G (fun q_ => ad (42 + q_)))) 42 2 (by omega) (shX_tape G ad)) 0 (c_yX3_append l G (fun q_ => ad (42 + q_)) (hI.sub (m := 2) 42 (by omega)) (mget τ 42) (((jushr bytes (8 * kk))).toInt8.toInt32) t (by omega) ht1) (by decide) (shP_0 G (fun q_ => ad (42 + q_)) _) ⟨rfl, rfl, by decide, by decide⟩ rfl hl.1 rfl (Nat.le_of_ble_eq_true rfl) ⟨Nat.zero_le _, Nat.zero_le _⟩ dX6_feed_57) (fun H locs hP hS => ?_)
            refine lv_iinc (v := (kk + (-1))) (lv' := [(3, .int (kk + (-1))), (0, .ref (ad 44)), (1, .int bytes), (2, .int k)]) hx hb dX6_feed_60 hl (k := 0) rfl rfl (by decide) rfl (fun ls hl => ?_)
            refine lv_goto (tgt := 42) hx hb dX6_feed_63 (by decide) ?_
            exact ih42 (kk + (-1)) ((mput τ 42 2 (x_append3 (mget τ 42) (((jushr bytes (8 * kk))).toInt8.toInt32)))) _ _ _ (by rw [hl42, nI_pred, Int32.sub_eq_add_neg]) (by omega) ⟨t + 1, by exact ap_0 (σ := mget τ 42) (by omega) ht1 _, by omega⟩ (by rw [hres42, x_feed_L42]) hP hS (lv_sub hl [0, 1, 2, 3] rfl)
      · refine lv_aload_n hx hb dX6_feed_31 rfl (lv_at hl 0 rfl) ?_
        refine lv_ldc hx hb C.2.2.2.1 (C.2.2.2.2 _ kc_RX6_84) dX6_feed_32 ?_
        refine g_wrI0 hS (g_runV (As := [.int (-1000002)]) (rest := []) ky_yX6_finding lk_RX6_60 C hX (gS_b0 hI hS) hP 44 (c_yX6_finding l G ad hI σ (-1000002)) (by decide) (shX_44 G ad _) ⟨rfl, rfl, by decide, by decide⟩ rfl hl.1 rfl (Nat.le_of_ble_eq_true rfl) ⟨Nat.zero_le _, Nat.zero_le _⟩ dX6_feed_34) (fun H locs hP hS => ?_)
        exact g_iretM C hr hlk rfl (by rw [x_feed, if_neg c1, if_pos c2, if_neg c3]) hP hS dX6_feed_37
    · refine lv_aload_n hx hb dX6_feed_10 rfl (lv_at hl 0 rfl) ?_
      refine lv_ldc hx hb C.2.2.2.1 (C.2.2.2.2 _ kc_RX6_59) dX6_feed_11 ?_
      refine g_wrI0 hS (g_runV (As := [.int (-1000001)]) (rest := []) ky_yX6_finding lk_RX6_60 C hX (gS_b0 hI hS) hP 44 (c_yX6_finding l G ad hI σ (-1000001)) (by decide) (shX_44 G ad _) ⟨rfl, rfl, by decide, by decide⟩ rfl hl.1 rfl (Nat.le_of_ble_eq_true rfl) ⟨Nat.zero_le _, Nat.zero_le _⟩ dX6_feed_13) (fun H locs hP hS => ?_)
      exact g_iretM C hr hlk rfl (by rw [x_feed, if_neg c1, if_neg c2]) hP hS dX6_feed_16

def x_wipe (σ : gM) : Int32 × gM := ((σ 42 0), (mset σ 42 0 0))
def rm_yX6_wipe : Room := { frames := 0, cells := 0, slots := 0, locals := 0 }
set_option maxHeartbeats 4000000 in
set_option maxRecDepth 100000 in
theorem c_yX6_wipe (l : Launch) (G : gG) (ad : Nat → Nat) (hI : gI G.2.2.1 55 ad) (σ : gM) : gMutI l yX6_wipe cX6_wipe 2 (some .int) rm_yX6_wipe G [.ref (ad 44)] 55 ad (shX G ad) σ (x_wipe σ) := by
  refine g_start [.ref (ad 44)] (by decide +kernel) (Nat.le_of_ble_eq_true rfl) ?_
  intro p e s m below meth c ls B Z hl
  obtain ⟨C, hr, hlk⟩ := B
  have hx := C.1
  have hb := C.2.1
  obtain ⟨hX, hP⟩ := Z
  have hS : va_S (gA 55 ad) s.heap s.heap [] := va_S.rf
  revert hP hS
  intro hP hS
  have hl : lv_has ls 2 [(0, .ref (ad 44))] := hl
  refine lv_aload_n hx hb dX6_wipe_0 rfl (lv_at hl 0 rfl) ?_
  refine g_get fd_RX6_29 C hX hP 44 (by decide) (shX_44 G ad _) (v := .ref (ad 42)) rfl dX6_wipe_1 ?_
  refine g_get fd_RX6_233 C hX hP 42 (by decide) (shX_42 G ad _) (v := .int (σ 42 0)) rfl dX6_wipe_4 ?_
  refine lv_istore_n (lv' := [(1, .int (σ 42 0)), (0, .ref (ad 44))]) hx hb dX6_wipe_7 rfl hl (by decide) rfl (fun ls hl => ?_)
  refine lv_aload_n hx hb dX6_wipe_8 rfl (lv_at hl 1 rfl) ?_
  refine g_get fd_RX6_29 C hX hP 44 (by decide) (shX_44 G ad _) (v := .ref (ad 42)) rfl dX6_wipe_9 ?_
  refine lv_iconst (v := 0) hx hb dX6_wipe_12 (by decide) ?_
  refine g_put fd_RX6_233 C hX hI hP hS 42 (by decide) (shX_42 G ad _) rfl rfl (Nat.le_of_ble_eq_true rfl) (upd (σ 42) 0 0) rfl dX6_wipe_13 (fun H locs hP hS => ?_)
  have hP : gP G.1 55 ad (gE (shX G ad) (mset σ 42 0 0)) H := hP
  refine lv_iload_n hx hb dX6_wipe_16 rfl (lv_at hl 0 rfl) ?_
  exact g_iretM C hr hlk rfl (by rw [x_wipe]) hP hS dX6_wipe_17
