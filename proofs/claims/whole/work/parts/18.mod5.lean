def m_whyNone (σ : gM) (sn : Int32) : Int32 := if (m_isSheet sn) = 0 then 0 else (if (σ 7 (nN sn)) = 0 then 5 else (-1))
def rm_yX7_whyNone : Room := { frames := 2, cells := 0, slots := 0, locals := 45 }
set_option maxHeartbeats 4000000 in
set_option maxRecDepth 100000 in
theorem c_yX7_whyNone (l : Launch) (G : gG) (ad : Nat → Nat) (hI : gI G.2.2.1 11 ad) (σ : gM) (sn : Int32) : gRead l yX7_whyNone cX7_whyNone 2 (some .int) rm_yX7_whyNone G [.ref (ad 0), .int sn] 11 ad (gE (shM G ad) σ) (m_whyNone σ sn) := by
  refine g_start [.ref (ad 0), .int sn] (by decide +kernel) (Nat.le_of_ble_eq_true rfl) ?_
  intro p e s m below meth c ls B Z hl
  obtain ⟨C, hr, hlk⟩ := B
  have hx := C.1
  have hb := C.2.1
  obtain ⟨hX, hP⟩ := Z
  have hS : va_S (gA 11 ad) s.heap s.heap [] := va_S.rf
  have hl : lv_has ls 2 [(0, .ref (ad 0)), (1, .int sn)] := hl
  refine lv_iload_n hx hb dX7_whyNone_0 rfl (lv_at hl 1 rfl) ?_
  refine g_rd (g_runS (As := [.int sn]) (rest := []) ky_yX7_isSheet lk_RX7_309 C (c_yX7_isSheet l sn) ⟨rfl, rfl, by decide, by decide⟩ rfl hl.1 rfl (Nat.le_of_ble_eq_true rfl) ⟨Nat.zero_le _, Nat.zero_le _⟩ dX7_whyNone_1) ?_
  refine lv_if_ne (tgt := 11) hx hb dX7_whyNone_4 (by decide) (fun c1 => ?_) (fun c1 => ?_)
  · obtain ⟨hh1, hh2⟩ := in_nat (M := 4) (by decide) (by decide) c1
    refine lv_aload_n hx hb dX7_whyNone_11 rfl (lv_at hl 0 rfl) ?_
    refine g_get fd_RX7_29 C hX hP 0 (by decide) (shM_0 G ad _) (v := .ref (ad 7)) rfl dX7_whyNone_12 ?_
    refine lv_iload_n hx hb dX7_whyNone_15 rfl (lv_at hl 1 rfl) ?_
    refine lv_as (y := (nI (nN sn))) hh1 ?_
    refine g_iald C hX hP 7 (by decide) (shM_7 G ad _) (nN sn) (by omega) (by decide) dX7_whyNone_16 ?_
    refine lv_if_ne (tgt := 24) hx hb dX7_whyNone_17 (by decide) (fun c2 => ?_) (fun c2 => ?_)
    · refine lv_iconst (v := (-1)) hx hb dX7_whyNone_24 (by decide) ?_
      exact g_iret C hr hlk rfl (by rw [m_whyNone, if_neg c1, if_neg c2]) rfl rfl dX7_whyNone_25
    · refine lv_iconst (v := 5) hx hb dX7_whyNone_20 (by decide) ?_
      refine lv_goto (tgt := 25) hx hb dX7_whyNone_21 (by decide) ?_
      exact g_iret C hr hlk rfl (by rw [m_whyNone, if_neg c1, if_pos c2]) rfl rfl dX7_whyNone_25
  · refine lv_iconst (v := 0) hx hb dX7_whyNone_7 (by decide) ?_
    refine lv_goto (tgt := 25) hx hb dX7_whyNone_8 (by decide) ?_
    exact g_iret C hr hlk rfl (by rw [m_whyNone, if_pos c1]) rfl rfl dX7_whyNone_25

def m_whyNot (σ : gM) (sn : Int32) (glove : Int32) : Int32 := if (m_whyNone σ sn) < 0 then (if (m_isGlove σ glove) = 0 then 0 else (-1)) else (m_whyNone σ sn)
def rm_yX7_whyNot : Room := { frames := 3, cells := 0, slots := 0, locals := 66 }
set_option maxHeartbeats 4000000 in
set_option maxRecDepth 100000 in
theorem c_yX7_whyNot (l : Launch) (G : gG) (ad : Nat → Nat) (hI : gI G.2.2.1 11 ad) (σ : gM) (sn : Int32) (glove : Int32) : gRead l yX7_whyNot cX7_whyNot 4 (some .int) rm_yX7_whyNot G [.ref (ad 0), .int sn, .int glove] 11 ad (gE (shM G ad) σ) (m_whyNot σ sn glove) := by
  refine g_start [.ref (ad 0), .int sn, .int glove] (by decide +kernel) (Nat.le_of_ble_eq_true rfl) ?_
  intro p e s m below meth c ls B Z hl
  obtain ⟨C, hr, hlk⟩ := B
  have hx := C.1
  have hb := C.2.1
  obtain ⟨hX, hP⟩ := Z
  have hS : va_S (gA 11 ad) s.heap s.heap [] := va_S.rf
  have hl : lv_has ls 4 [(0, .ref (ad 0)), (1, .int sn), (2, .int glove)] := hl
  refine lv_aload_n hx hb dX7_whyNot_0 rfl (lv_at hl 0 rfl) ?_
  refine lv_iload_n hx hb dX7_whyNot_1 rfl (lv_at hl 1 rfl) ?_
  refine g_rd (g_runV (As := [.int sn]) (rest := []) ky_yX7_whyNone lk_RX7_190 C hX (gS_b0 hI hS) hP 0 (c_yX7_whyNone l G ad hI σ sn) (by decide) (shM_0 G ad _) ⟨rfl, rfl, by decide, by decide⟩ rfl hl.1 rfl (Nat.le_of_ble_eq_true rfl) ⟨Nat.zero_le _, Nat.zero_le _⟩ dX7_whyNot_2) ?_
  refine lv_istore_n (lv' := [(3, .int (m_whyNone σ sn)), (0, .ref (ad 0)), (1, .int sn), (2, .int glove)]) hx hb dX7_whyNot_5 rfl hl (by decide) rfl (fun ls hl => ?_)
  refine lv_iload_n hx hb dX7_whyNot_6 rfl (lv_at hl 0 rfl) ?_
  refine lv_if_lt (tgt := 14) hx hb dX7_whyNot_7 (by decide) (fun c1 => ?_) (fun c1 => ?_)
  · refine lv_aload_n hx hb dX7_whyNot_14 rfl (lv_at hl 1 rfl) ?_
    refine lv_iload_n hx hb dX7_whyNot_15 rfl (lv_at hl 3 rfl) ?_
    refine g_rd (g_runV (As := [.int glove]) (rest := []) ky_yX7_isGlove lk_RX7_138 C hX (gS_b0 hI hS) hP 0 (c_yX7_isGlove l G ad hI σ glove) (by decide) (shM_0 G ad _) ⟨rfl, rfl, by decide, by decide⟩ rfl hl.1 rfl (Nat.le_of_ble_eq_true rfl) ⟨Nat.zero_le _, Nat.zero_le _⟩ dX7_whyNot_16) ?_
    refine lv_if_eq (tgt := 26) hx hb dX7_whyNot_19 (by decide) (fun c2 => ?_) (fun c2 => ?_)
    · refine lv_iconst (v := 0) hx hb dX7_whyNot_26 (by decide) ?_
      exact g_iret C hr hlk rfl (by rw [m_whyNot, if_pos c1, if_pos c2]) rfl rfl dX7_whyNot_27
    · refine lv_iconst (v := (-1)) hx hb dX7_whyNot_22 (by decide) ?_
      refine lv_goto (tgt := 27) hx hb dX7_whyNot_23 (by decide) ?_
      exact g_iret C hr hlk rfl (by rw [m_whyNot, if_pos c1, if_neg c2]) rfl rfl dX7_whyNot_27
  · refine lv_iload_n hx hb dX7_whyNot_10 rfl (lv_at hl 0 rfl) ?_
    refine lv_goto (tgt := 27) hx hb dX7_whyNot_11 (by decide) ?_
    exact g_iret C hr hlk rfl (by rw [m_whyNot, if_neg c1]) rfl rfl dX7_whyNot_27

theorem why_ok {σ : gM} {sn : Int32} (h : m_whyNone σ sn < 0) : sn = nI (nN sn) ∧ nN sn < 4 ∧ ¬ σ 7 (nN sn) = 0 := by
  unfold m_whyNone at h
  by_cases h1 : m_isSheet sn = 0
  · rw [if_pos h1] at h
    exact absurd h (by decide)
  · rw [if_neg h1] at h
    obtain ⟨a, b⟩ := in_nat (M := 4) (by decide) (by decide) h1
    refine ⟨a, b, fun q => ?_⟩
    rw [if_pos q] at h
    exact absurd h (by decide)
theorem why_nat {σ : gM} {sn : Int32} (h : ¬ m_whyNone σ sn < 0) : m_whyNone σ sn = nI (nN (m_whyNone σ sn)) ∧ nN (m_whyNone σ sn) < 7 := by
  have key : m_whyNone σ sn = 0 ∨ m_whyNone σ sn = 5 ∨ m_whyNone σ sn = -1 := by
    unfold m_whyNone
    repeat' split
    · exact Or.inl rfl
    · exact Or.inr (Or.inl rfl)
    · exact Or.inr (Or.inr rfl)
  rcases key with e | e | e
  · rw [e]; decide
  · rw [e]; decide
  · rw [e] at h; exact absurd (by decide) h
theorem wn_ok {σ : gM} {sn g : Int32} (h : m_whyNot σ sn g < 0) : m_whyNone σ sn < 0 ∧ ¬ m_isGlove σ g = 0 := by
  unfold m_whyNot at h
  by_cases h1 : m_whyNone σ sn < 0
  · rw [if_pos h1] at h
    refine ⟨h1, fun q => ?_⟩
    rw [if_pos q] at h
    exact absurd h (by decide)
  · rw [if_neg h1] at h
    exact absurd h h1
theorem wn_nat {σ : gM} {sn g : Int32} (h : ¬ m_whyNot σ sn g < 0) : m_whyNot σ sn g = nI (nN (m_whyNot σ sn g)) ∧ nN (m_whyNot σ sn g) < 7 := by
  have e : m_whyNot σ sn g = m_whyNone σ sn ∧ ¬ m_whyNone σ sn < 0 ∨ m_whyNot σ sn g = 0 := by
    unfold m_whyNot
    by_cases h1 : m_whyNone σ sn < 0
    · rw [if_pos h1]
      by_cases h2 : m_isGlove σ g = 0
      · rw [if_pos h2]; exact Or.inr rfl
      · exfalso
        apply h
        unfold m_whyNot
        rw [if_pos h1, if_neg h2]
        decide
    · rw [if_neg h1]; exact Or.inl ⟨rfl, h1⟩
  rcases e with ⟨e, h1⟩ | e
  · rw [e]; exact why_nat h1
  · rw [e]; decide

def m_fitting_L38 (σ : gM) (sn : Nat) (g : Nat) (w : Nat) (most : Nat) (σ1 : gM) (n17 : Nat) (i : Nat) (set : Int32) (τ : gM) : Nat → Nat → Int32 → gM → Int32 × gM
  | 0, i2, is, τ2 => (is, τ2)
  | n38 + 1, i2, is, τ2 => if is = 0 then (is, τ2) else (if (τ2 9 (40 * sn + i2)) = (-1) then (m_fitting_L38 σ sn g w most σ1 n17 i set τ n38 (i2 + 1) 1 (m_dayGoes τ2)) else (if (τ2 9 (40 * sn + i2)) = (m_its τ2 g 3) then (m_fitting_L38 σ sn g w most σ1 n17 i set τ n38 (i2 + 1) 1 (m_dayGoes τ2)) else (m_fitting_L38 σ sn g w most σ1 n17 i set τ n38 (i2 + 1) 0 (m_dayGoes τ2))))
def m_fitting_L17 (σ : gM) (sn : Nat) (g : Nat) (w : Nat) (most : Nat) (σ1 : gM) : Nat → Nat → Int32 → gM → Int32 × gM
  | 0, i, set, τ => (set, τ)
  | n17 + 1, i, set, τ => if (m_fitting_L38 σ sn g w most σ1 n17 i set τ (nN (σ 8 sn)) 0 1 (m_sets τ g w (nI i))).1 = 0 then (m_fitting_L17 σ sn g w most σ1 n17 (i + 1) (set ||| 0) (m_copies (m_fitting_L38 σ sn g w most σ1 n17 i set τ (nN (σ 8 sn)) 0 1 (m_sets τ g w (nI i))).2 3 1)) else (m_fitting_L17 σ sn g w most σ1 n17 (i + 1) (set ||| (jshl 1 (nI i))) (m_copies (m_fitting_L38 σ sn g w most σ1 n17 i set τ (nN (σ 8 sn)) 0 1 (m_sets τ g w (nI i))).2 3 1))
def m_fitting_m1 (σ : gM) (sn : Nat) (g : Nat) (w : Nat) (most : Nat) (σ1 : gM) : Int32 × gM := (m_fitting_L17 σ sn g w most σ1 (most + 1) 0 0 σ1)
def m_fitting (σ : gM) (sn : Nat) (g : Nat) (w : Nat) (most : Nat) : Int32 × gM := (m_fitting_m1 σ sn g w most (m_copies σ 1 3))
def rm_yX7_fitting : Room := { frames := 6, cells := 0, slots := 0, locals := 136 }
set_option maxHeartbeats 4000000 in
set_option maxRecDepth 100000 in
theorem c_yX7_fitting (l : Launch) (G : gG) (ad : Nat → Nat) (hI : gI G.2.2.1 11 ad) (σ : gM) (sn : Nat) (g : Nat) (w : Nat) (most : Nat) (N : Nat) (Z : Nat) (hN : N ≤ 8) (hs : σ 1 0 = nI N) (hd : ¬ σ 1 1 < 0) (hsn : sn < 4) (hZ : Z ≤ 40) (hz : σ 8 sn = nI Z) (hg : g < 8) (hw : w < 7) (hm : most < 100) : gMutI l yX7_fitting cX7_fitting 10 (some .int) rm_yX7_fitting G [.ref (ad 0), .int (nI sn), .int (nI g), .int (nI w), .int (nI most)] 11 ad (shM G ad) σ (m_fitting σ sn g w most) := by
  refine g_start [.ref (ad 0), .int (nI sn), .int (nI g), .int (nI w), .int (nI most)] (by decide +kernel) (Nat.le_of_ble_eq_true rfl) ?_
  intro p e s m below meth c ls B Z hl
  obtain ⟨C, hr, hlk⟩ := B
  have hx := C.1
  have hb := C.2.1
  obtain ⟨hX, hP⟩ := Z
  have hS : va_S (gA 11 ad) s.heap s.heap [] := va_S.rf
  revert hP hS
  intro hP hS
  have hl : lv_has ls 10 [(0, .ref (ad 0)), (1, .int (nI sn)), (2, .int (nI g)), (3, .int (nI w)), (4, .int (nI most))] := hl
  refine lv_aload_n hx hb dX7_fitting_0 rfl (lv_at hl 0 rfl) ?_
  refine g_get fd_RX7_7 C hX hP 0 (by decide) (shM_0 G ad _) (v := .ref (ad 1)) rfl dX7_fitting_1 ?_
  refine lv_aload_n hx hb dX7_fitting_4 rfl (lv_at hl 0 rfl) ?_
  refine g_get fd_RX7_16 C hX hP 0 (by decide) (shM_0 G ad _) (v := .ref (ad 3)) rfl dX7_fitting_5 ?_
  refine g_wrV0 hS (g_runSW (As := [.ref (ad 1), .ref (ad 3)]) (rest := []) ky_yX7_copies lk_RX7_167 C hX (gS_b0 hI hS) hP (c_yX7_copies l G ad hI σ 1 3 (by decide) (by decide) (fun _ => rfl) (fun _ => rfl)) ⟨rfl, rfl, by decide, by decide⟩ rfl hl.1 rfl (Nat.le_of_ble_eq_true rfl) ⟨Nat.zero_le _, Nat.zero_le _⟩ dX7_fitting_8) (fun H locs hP hS => ?_)
  obtain ⟨σ1, eσ1⟩ : ∃ τ_ : gM, τ_ = (m_copies σ 1 3) := ⟨_, rfl⟩
  rw [← eσ1] at hP
  have hs1 : σ1 1 0 = nI N := by rw [eσ1, cp_row (by decide) _ (by decide)]; exact hs
  have hd1 : ¬ σ1 1 1 < 0 := by rw [eσ1, cp_row (by decide) _ (by decide)]; exact hd
  have hA1 : ∀ j, j < 75 → σ1 3 j = σ 1 j := fun j hj => by rw [eσ1, cp_at (by decide) _ hj]
  have hB1 : ∀ j, j < 75 → σ1 1 j = σ 1 j := fun j hj => by rw [eσ1, cp_row (by decide) _ (by decide)]
  refine lv_iconst (v := 0) hx hb dX7_fitting_11 (by decide) ?_
  refine lv_istore (lv' := [(5, .int 0), (0, .ref (ad 0)), (1, .int (nI sn)), (2, .int (nI g)), (3, .int (nI w)), (4, .int (nI most))]) hx hb dX7_fitting_12 hl (by decide) rfl (fun ls hl => ?_)
  refine lv_iconst (v := 0) hx hb dX7_fitting_14 (by decide) ?_
  refine lv_istore (lv' := [(6, .int 0), (5, .int 0), (0, .ref (ad 0)), (1, .int (nI sn)), (2, .int (nI g)), (3, .int (nI w)), (4, .int (nI most))]) hx hb dX7_fitting_15 hl (by decide) rfl (fun ls hl => ?_)
  suffices loop17 : ∀ (n17 : Nat) (i : Nat) (set : Int32) (τ : gM) (H : Heap) (locs : List Loc) (ls : Array Slot), (i + n17 = most + 1) → (∀ j, j < 75 → τ 3 j = σ 1 j) → (∀ j, j < 75 → τ 1 j = σ 1 j) → (τ 8 sn = nI Z) → m_fitting σ sn g w most = (m_fitting_L17 σ sn g w most σ1 n17 i set τ) → gP G.1 11 ad (gE (shM G ad) τ) H → va_S (gA 11 ad) s.heap H locs → lv_has ls 10 [(6, .int (nI i)), (5, .int set), (0, .ref (ad 0)), (1, .int (nI sn)), (2, .int (nI g)), (3, .int (nI w)), (4, .int (nI most))] → W p l e rm_yX7_fitting s m ([.ref (ad 0), .int (nI sn), .int (nI g), .int (nI w), .int (nI most)] : List Value).toArray below meth c H locs 0 0 (MQ below (va_Qi (fun (x : Int32) (τ : gM) => m_fitting σ sn g w most = (x, τ)) (fun τ t => gP G.1 11 ad (gE (shM G ad) τ) t.heap) (gA 11 ad)) ([.ref (ad 0), .int (nI sn), .int (nI g), .int (nI w), .int (nI most)] : List Value).toArray s 0 0 (gA 11 ad)) (F0 m 17 ls []) by
    exact loop17 (most + 1) 0 0 σ1 _ _ _ (by omega) hA1 hB1 (by rw [eσ1, cp_row (by decide) _ (by decide)]; exact hz) (by rw [m_fitting, ← eσ1, m_fitting_m1]) hP hS (lv_sub hl [0, 1, 2, 3, 4, 5, 6] rfl)
  intro n17
  induction n17 with
  | zero =>
    intro i set τ H locs ls hi17 hA hB hz1 hres17 hP hS hl
    refine lv_iload hx hb dX7_fitting_17 (lv_at hl 0 rfl) ?_
    refine lv_iload hx hb dX7_fitting_19 (lv_at hl 6 rfl) ?_
    refine lv_icmp_gt (tgt := 137) hx hb dX7_fitting_21 (by decide) (fun c1 => ?_) (fun c1 => ?_)
    · refine lv_iload hx hb dX7_fitting_137 (lv_at hl 1 rfl) ?_
      exact g_iretM C hr hlk rfl (by rw [hres17, m_fitting_L17]) hP hS dX7_fitting_139
    · exact absurd (show nI most < nI i from nI_lt (by omega) (by omega)) c1
  | succ n17 ih17 =>
    intro i set τ H locs ls hi17 hA hB hz1 hres17 hP hS hl
    refine lv_iload hx hb dX7_fitting_17 (lv_at hl 0 rfl) ?_
    refine lv_iload hx hb dX7_fitting_19 (lv_at hl 6 rfl) ?_
    refine lv_icmp_gt (tgt := 137) hx hb dX7_fitting_21 (by decide) (fun c2 => ?_) (fun c2 => ?_)
    · exact absurd (show nI most < nI i from c2) (nI_nlt (by omega) (by omega))
    · refine lv_aload_n hx hb dX7_fitting_24 rfl (lv_at hl 2 rfl) ?_
      refine lv_iload_n hx hb dX7_fitting_25 rfl (lv_at hl 4 rfl) ?_
      refine lv_iload_n hx hb dX7_fitting_26 rfl (lv_at hl 5 rfl) ?_
      refine lv_iload hx hb dX7_fitting_27 (lv_at hl 0 rfl) ?_
      refine g_wrV0 hS (g_runV (As := [.int (nI g), .int (nI w), .int (nI i)]) (rest := []) ky_yX7_sets lk_RX7_90 C hX (gS_b0 hI hS) hP 0 (c_yX7_sets l G ad hI τ g w (nI i) hg hw) (by decide) (shM_0 G ad _) ⟨rfl, rfl, by decide, by decide⟩ rfl hl.1 rfl (Nat.le_of_ble_eq_true rfl) ⟨Nat.zero_le _, Nat.zero_le _⟩ dX7_fitting_29) (fun H locs hP hS => ?_)
      refine lv_iconst (v := 1) hx hb dX7_fitting_32 (by decide) ?_
      refine lv_istore (lv' := [(7, .int 1), (6, .int (nI i)), (5, .int set), (0, .ref (ad 0)), (1, .int (nI sn)), (2, .int (nI g)), (3, .int (nI w)), (4, .int (nI most))]) hx hb dX7_fitting_33 hl (by decide) rfl (fun ls hl => ?_)
      refine lv_iconst (v := 0) hx hb dX7_fitting_35 (by decide) ?_
      refine lv_istore (lv' := [(8, .int 0), (7, .int 1), (6, .int (nI i)), (5, .int set), (0, .ref (ad 0)), (1, .int (nI sn)), (2, .int (nI g)), (3, .int (nI w)), (4, .int (nI most))]) hx hb dX7_fitting_36 hl (by decide) rfl (fun ls hl => ?_)
      obtain ⟨R38, eR38⟩ : ∃ r : Int32 × gM, r = (m_fitting_L38 σ sn g w most σ1 n17 i set τ (nN (σ 8 sn)) 0 1 (m_sets τ g w (nI i))) := ⟨_, rfl⟩
      have kont38 : ∀ (is_38 : Int32) (τ2_38 : gM) (H : Heap) (locs : List Loc) (ls : Array Slot), R38 = (is_38, τ2_38) → (∀ j, j < 75 → τ2_38 3 j = σ 1 j) → (τ2_38 8 sn = nI Z) → gP G.1 11 ad (gE (shM G ad) τ2_38) H → va_S (gA 11 ad) s.heap H locs → lv_has ls 10 [(7, .int is_38), (6, .int (nI i)), (5, .int set), (0, .ref (ad 0)), (1, .int (nI sn)), (2, .int (nI g)), (3, .int (nI w)), (4, .int (nI most))] → W p l e rm_yX7_fitting s m ([.ref (ad 0), .int (nI sn), .int (nI g), .int (nI w), .int (nI most)] : List Value).toArray below meth c H locs 0 0 (MQ below (va_Qi (fun (x : Int32) (τ : gM) => m_fitting σ sn g w most = (x, τ)) (fun τ t => gP G.1 11 ad (gE (shM G ad) τ) t.heap) (gA 11 ad)) ([.ref (ad 0), .int (nI sn), .int (nI g), .int (nI w), .int (nI most)] : List Value).toArray s 0 0 (gA 11 ad)) (F0 m 102 ls []) := by
        intro is_38 τ2_38 H locs ls hR38 hA3 hz3 hP hS hl
        refine lv_aload_n hx hb dX7_fitting_102 rfl (lv_at hl 3 rfl) ?_
        refine g_get fd_RX7_16 C hX hP 0 (by decide) (shM_0 G ad _) (v := .ref (ad 3)) rfl dX7_fitting_103 ?_
        refine lv_aload_n hx hb dX7_fitting_106 rfl (lv_at hl 3 rfl) ?_
        refine g_get fd_RX7_7 C hX hP 0 (by decide) (shM_0 G ad _) (v := .ref (ad 1)) rfl dX7_fitting_107 ?_
        refine g_wrV0 hS (g_runSW (As := [.ref (ad 3), .ref (ad 1)]) (rest := []) ky_yX7_copies lk_RX7_167 C hX (gS_b0 hI hS) hP (c_yX7_copies l G ad hI τ2_38 3 1 (by decide) (by decide) (fun _ => rfl) (fun _ => rfl)) ⟨rfl, rfl, by decide, by decide⟩ rfl hl.1 rfl (Nat.le_of_ble_eq_true rfl) ⟨Nat.zero_le _, Nat.zero_le _⟩ dX7_fitting_110) (fun H locs hP hS => ?_)
        refine lv_iload hx hb dX7_fitting_113 (lv_at hl 2 rfl) ?_
        refine lv_iload hx hb dX7_fitting_115 (lv_at hl 0 rfl) ?_
        refine lv_if_eq (tgt := 127) hx hb dX7_fitting_117 (by decide) (fun c3 => ?_) (fun c3 => ?_)
        · refine lv_iconst (v := 0) hx hb dX7_fitting_127 (by decide) ?_
          refine lv_ior hx hb dX7_fitting_128 ?_
          refine lv_istore (lv' := [(5, .int (set ||| 0)), (7, .int is_38), (6, .int (nI i)), (0, .ref (ad 0)), (1, .int (nI sn)), (2, .int (nI g)), (3, .int (nI w)), (4, .int (nI most))]) hx hb dX7_fitting_129 hl (by decide) rfl (fun ls hl => ?_)
          refine lv_iinc (v := (nI (i + 1))) (lv' := [(6, .int (nI (i + 1))), (5, .int (set ||| 0)), (7, .int is_38), (0, .ref (ad 0)), (1, .int (nI sn)), (2, .int (nI g)), (3, .int (nI w)), (4, .int (nI most))]) hx hb dX7_fitting_131 hl (k := 2) rfl (by exact nI_1 _) (by decide) rfl (fun ls hl => ?_)
          refine lv_goto (tgt := 17) hx hb dX7_fitting_134 (by decide) ?_
          exact ih17 (i + 1) (set ||| 0) (m_copies τ2_38 3 1) _ _ _ (by omega) (fun j hj => by rw [cp_row (by decide) _ (by decide)]; exact hA3 j hj) (fun j hj => by rw [cp_at (by decide) _ hj]; exact hA3 j hj) (by rw [cp_row (by decide) _ (by decide)]; exact hz3) (by rw [hres17, m_fitting_L17, ← eR38, hR38, if_pos c3]) hP hS (lv_sub hl [0, 1, 3, 4, 5, 6, 7] rfl)
        · refine lv_iconst (v := 1) hx hb dX7_fitting_120 (by decide) ?_
          refine lv_iload hx hb dX7_fitting_121 (lv_at hl 1 rfl) ?_
          refine g_ishl hx hb dX7_fitting_123 ?_
          refine lv_goto (tgt := 128) hx hb dX7_fitting_124 (by decide) ?_
          refine lv_ior hx hb dX7_fitting_128 ?_
          refine lv_istore (lv' := [(5, .int (set ||| (jshl 1 (nI i)))), (7, .int is_38), (6, .int (nI i)), (0, .ref (ad 0)), (1, .int (nI sn)), (2, .int (nI g)), (3, .int (nI w)), (4, .int (nI most))]) hx hb dX7_fitting_129 hl (by decide) rfl (fun ls hl => ?_)
          refine lv_iinc (v := (nI (i + 1))) (lv' := [(6, .int (nI (i + 1))), (5, .int (set ||| (jshl 1 (nI i)))), (7, .int is_38), (0, .ref (ad 0)), (1, .int (nI sn)), (2, .int (nI g)), (3, .int (nI w)), (4, .int (nI most))]) hx hb dX7_fitting_131 hl (k := 2) rfl (by exact nI_1 _) (by decide) rfl (fun ls hl => ?_)
          refine lv_goto (tgt := 17) hx hb dX7_fitting_134 (by decide) ?_
          exact ih17 (i + 1) (set ||| (jshl 1 (nI i))) (m_copies τ2_38 3 1) _ _ _ (by omega) (fun j hj => by rw [cp_row (by decide) _ (by decide)]; exact hA3 j hj) (fun j hj => by rw [cp_at (by decide) _ hj]; exact hA3 j hj) (by rw [cp_row (by decide) _ (by decide)]; exact hz3) (by rw [hres17, m_fitting_L17, ← eR38, hR38, if_neg c3]) hP hS (lv_sub hl [0, 1, 3, 4, 5, 6, 7] rfl)
      suffices loop38 : ∀ (n38 : Nat) (i2 : Nat) (is : Int32) (τ2 : gM) (H : Heap) (locs : List Loc) (ls : Array Slot), (i2 + n38 = Z) → (τ2 1 0 = nI N) → (¬ τ2 1 1 < 0) → (∀ j, j < 75 → τ2 3 j = σ 1 j) → (τ2 8 sn = nI Z) → R38 = (m_fitting_L38 σ sn g w most σ1 n17 i set τ n38 i2 is τ2) → gP G.1 11 ad (gE (shM G ad) τ2) H → va_S (gA 11 ad) s.heap H locs → lv_has ls 10 [(8, .int (nI i2)), (7, .int is), (6, .int (nI i)), (5, .int set), (0, .ref (ad 0)), (1, .int (nI sn)), (2, .int (nI g)), (3, .int (nI w)), (4, .int (nI most))] → W p l e rm_yX7_fitting s m ([.ref (ad 0), .int (nI sn), .int (nI g), .int (nI w), .int (nI most)] : List Value).toArray below meth c H locs 0 0 (MQ below (va_Qi (fun (x : Int32) (τ : gM) => m_fitting σ sn g w most = (x, τ)) (fun τ t => gP G.1 11 ad (gE (shM G ad) τ) t.heap) (gA 11 ad)) ([.ref (ad 0), .int (nI sn), .int (nI g), .int (nI w), .int (nI most)] : List Value).toArray s 0 0 (gA 11 ad)) (F0 m 38 ls []) by
        exact loop38 Z 0 1 (m_sets τ g w (nI i)) _ _ _ (by omega) ((sets_lo (by decide)).trans ((hB 0 (by decide)).trans hs)) (by rw [sets_lo (by decide), hB 1 (by decide)]; exact hd) (fun j hj => by rw [sets_row (by decide)]; exact hA j hj) (by rw [sets_row (by decide)]; exact hz1) (by rw [eR38, hz, nN_nI (by omega)]) hP hS (lv_sub hl [0, 1, 2, 3, 4, 5, 6, 7, 8] rfl)
      intro n38
      induction n38 with
      | zero =>
        intro i2 is τ2 H locs ls hi38 hn2 hv2 hA2 hz2 hres38 hP hS hl
        refine lv_iload hx hb dX7_fitting_38 (lv_at hl 0 rfl) ?_
        refine lv_aload_n hx hb dX7_fitting_40 rfl (lv_at hl 4 rfl) ?_
        refine g_get fd_RX7_32 C hX hP 0 (by decide) (shM_0 G ad _) (v := .ref (ad 8)) rfl dX7_fitting_41 ?_
        refine lv_iload_n hx hb dX7_fitting_44 rfl (lv_at hl 5 rfl) ?_
        refine g_iald C hX hP 8 (by decide) (shM_8 G ad _) sn (by omega) (by decide) dX7_fitting_45 ?_
        refine lv_as (y := (nI Z)) hz2 ?_
        refine lv_icmp_ge (tgt := 102) hx hb dX7_fitting_46 (by decide) (fun c4 => ?_) (fun c4 => ?_)
        · exact kont38 is τ2 _ _ _ (by rw [hres38, m_fitting_L38]) hA2 hz2 hP hS (lv_sub hl [1, 2, 3, 4, 5, 6, 7, 8] rfl)
        · exact absurd (show nI (Z) ≤ nI i2 from nI_le (by omega) (by omega)) c4
      | succ n38 ih38 =>
        intro i2 is τ2 H locs ls hi38 hn2 hv2 hA2 hz2 hres38 hP hS hl
        refine lv_iload hx hb dX7_fitting_38 (lv_at hl 0 rfl) ?_
        refine lv_aload_n hx hb dX7_fitting_40 rfl (lv_at hl 4 rfl) ?_
        refine g_get fd_RX7_32 C hX hP 0 (by decide) (shM_0 G ad _) (v := .ref (ad 8)) rfl dX7_fitting_41 ?_
        refine lv_iload_n hx hb dX7_fitting_44 rfl (lv_at hl 5 rfl) ?_
        refine g_iald C hX hP 8 (by decide) (shM_8 G ad _) sn (by omega) (by decide) dX7_fitting_45 ?_
        refine lv_as (y := (nI Z)) hz2 ?_
        refine lv_icmp_ge (tgt := 102) hx hb dX7_fitting_46 (by decide) (fun c5 => ?_) (fun c5 => ?_)
        · exact absurd (show nI (Z) ≤ nI i2 from c5) (nI_ge (by omega) (by omega))
        · refine lv_iload hx hb dX7_fitting_49 (lv_at hl 1 rfl) ?_
          refine lv_if_eq (tgt := 102) hx hb dX7_fitting_51 (by decide) (fun c6 => ?_) (fun c6 => ?_)
          · exact kont38 is τ2 _ _ _ (by rw [hres38, m_fitting_L38, if_pos c6]) hA2 hz2 hP hS (lv_sub hl [1, 2, 3, 4, 5, 6, 7, 8] rfl)
          · refine lv_aload_n hx hb dX7_fitting_54 rfl (lv_at hl 4 rfl) ?_
            refine g_get fd_RX7_35 C hX hP 0 (by decide) (shM_0 G ad _) (v := .ref (ad 9)) rfl dX7_fitting_55 ?_
            refine lv_bipush (v := 40) hx hb dX7_fitting_58 (by decide) ?_
            refine lv_iload_n hx hb dX7_fitting_60 rfl (lv_at hl 5 rfl) ?_
            refine lv_imul hx hb dX7_fitting_61 ?_
            refine lv_iload hx hb dX7_fitting_62 (lv_at hl 0 rfl) ?_
            refine lv_iadd hx hb dX7_fitting_64 ?_
            refine lv_as (y := (nI (40 * sn + i2))) (ix_40 _ _) ?_
            refine g_iald C hX hP 9 (by decide) (shM_9 G ad _) (40 * sn + i2) (by omega) (by decide) dX7_fitting_65 ?_
            refine lv_istore (lv' := [(9, .int (τ2 9 (40 * sn + i2))), (8, .int (nI i2)), (7, .int is), (6, .int (nI i)), (5, .int set), (0, .ref (ad 0)), (1, .int (nI sn)), (2, .int (nI g)), (3, .int (nI w)), (4, .int (nI most))]) hx hb dX7_fitting_66 hl (by decide) rfl (fun ls hl => ?_)
            refine lv_iload hx hb dX7_fitting_68 (lv_at hl 0 rfl) ?_
            refine lv_iconst (v := (-1)) hx hb dX7_fitting_70 (by decide) ?_
            refine lv_icmp_eq (tgt := 85) hx hb dX7_fitting_71 (by decide) (fun c7 => ?_) (fun c7 => ?_)
            · refine lv_iconst (v := 1) hx hb dX7_fitting_85 (by decide) ?_
              refine lv_goto (tgt := 90) hx hb dX7_fitting_86 (by decide) ?_
              refine lv_istore (lv' := [(7, .int 1), (9, .int (τ2 9 (40 * sn + i2))), (8, .int (nI i2)), (6, .int (nI i)), (5, .int set), (0, .ref (ad 0)), (1, .int (nI sn)), (2, .int (nI g)), (3, .int (nI w)), (4, .int (nI most))]) hx hb dX7_fitting_90 hl (by decide) rfl (fun ls hl => ?_)
              refine lv_aload_n hx hb dX7_fitting_92 rfl (lv_at hl 5 rfl) ?_
              refine g_wrV0 hS (g_runV (As := []) (rest := []) ky_yX7_dayGoes lk_RX7_113 C hX (gS_b0 hI hS) hP 0 (c_yX7_dayGoes l G ad hI τ2  N hN hn2 hv2) (by decide) (shM_0 G ad _) ⟨rfl, rfl, by decide, by decide⟩ rfl hl.1 rfl (Nat.le_of_ble_eq_true rfl) ⟨Nat.zero_le _, Nat.zero_le _⟩ dX7_fitting_93) (fun H locs hP hS => ?_)
              refine lv_iinc (v := (nI (i2 + 1))) (lv' := [(8, .int (nI (i2 + 1))), (7, .int 1), (9, .int (τ2 9 (40 * sn + i2))), (6, .int (nI i)), (5, .int set), (0, .ref (ad 0)), (1, .int (nI sn)), (2, .int (nI g)), (3, .int (nI w)), (4, .int (nI most))]) hx hb dX7_fitting_96 hl (k := 2) rfl (by exact nI_1 _) (by decide) rfl (fun ls hl => ?_)
              refine lv_goto (tgt := 38) hx hb dX7_fitting_99 (by decide) ?_
              exact ih38 (i2 + 1) 1 (m_dayGoes τ2) _ _ _ (by omega) ((dg_N _).trans hn2) (dg_D _) (fun j hj => by rw [dg_row _ (by decide)]; exact hA2 j hj) (by rw [dg_row _ (by decide)]; exact hz2) (by rw [hres38, m_fitting_L38, if_neg c6, if_pos c7]) hP hS (lv_sub hl [0, 1, 3, 4, 5, 6, 7, 8, 9] rfl)
            · refine lv_iload hx hb dX7_fitting_74 (lv_at hl 0 rfl) ?_
              refine lv_aload_n hx hb dX7_fitting_76 rfl (lv_at hl 5 rfl) ?_
              refine lv_iload_n hx hb dX7_fitting_77 rfl (lv_at hl 7 rfl) ?_
              refine lv_iconst (v := 3) hx hb dX7_fitting_78 (by decide) ?_
              refine g_rd (g_runV (As := [.int (nI g), .int 3]) (rest := [.int (τ2 9 (40 * sn + i2))]) ky_yX7_its lk_RX7_58 C hX (gS_b0 hI hS) hP 0 (c_yX7_its l G ad hI τ2 g 3 (by omega) (by decide)) (by decide) (shM_0 G ad _) ⟨rfl, rfl, by decide, by decide⟩ rfl hl.1 rfl (Nat.le_of_ble_eq_true rfl) ⟨Nat.zero_le _, Nat.zero_le _⟩ dX7_fitting_79) ?_
              refine lv_icmp_ne (tgt := 89) hx hb dX7_fitting_82 (by decide) (fun c8 => ?_) (fun c8 => ?_)
              · refine lv_iconst (v := 0) hx hb dX7_fitting_89 (by decide) ?_
                refine lv_istore (lv' := [(7, .int 0), (9, .int (τ2 9 (40 * sn + i2))), (8, .int (nI i2)), (6, .int (nI i)), (5, .int set), (0, .ref (ad 0)), (1, .int (nI sn)), (2, .int (nI g)), (3, .int (nI w)), (4, .int (nI most))]) hx hb dX7_fitting_90 hl (by decide) rfl (fun ls hl => ?_)
                refine lv_aload_n hx hb dX7_fitting_92 rfl (lv_at hl 5 rfl) ?_
                refine g_wrV0 hS (g_runV (As := []) (rest := []) ky_yX7_dayGoes lk_RX7_113 C hX (gS_b0 hI hS) hP 0 (c_yX7_dayGoes l G ad hI τ2  N hN hn2 hv2) (by decide) (shM_0 G ad _) ⟨rfl, rfl, by decide, by decide⟩ rfl hl.1 rfl (Nat.le_of_ble_eq_true rfl) ⟨Nat.zero_le _, Nat.zero_le _⟩ dX7_fitting_93) (fun H locs hP hS => ?_)
                refine lv_iinc (v := (nI (i2 + 1))) (lv' := [(8, .int (nI (i2 + 1))), (7, .int 0), (9, .int (τ2 9 (40 * sn + i2))), (6, .int (nI i)), (5, .int set), (0, .ref (ad 0)), (1, .int (nI sn)), (2, .int (nI g)), (3, .int (nI w)), (4, .int (nI most))]) hx hb dX7_fitting_96 hl (k := 2) rfl (by exact nI_1 _) (by decide) rfl (fun ls hl => ?_)
                refine lv_goto (tgt := 38) hx hb dX7_fitting_99 (by decide) ?_
                exact ih38 (i2 + 1) 0 (m_dayGoes τ2) _ _ _ (by omega) ((dg_N _).trans hn2) (dg_D _) (fun j hj => by rw [dg_row _ (by decide)]; exact hA2 j hj) (by rw [dg_row _ (by decide)]; exact hz2) (by rw [hres38, m_fitting_L38, if_neg c6, if_neg c7, if_neg c8]) hP hS (lv_sub hl [0, 1, 3, 4, 5, 6, 7, 8, 9] rfl)
              · refine lv_iconst (v := 1) hx hb dX7_fitting_85 (by decide) ?_
                refine lv_goto (tgt := 90) hx hb dX7_fitting_86 (by decide) ?_
                refine lv_istore (lv' := [(7, .int 1), (9, .int (τ2 9 (40 * sn + i2))), (8, .int (nI i2)), (6, .int (nI i)), (5, .int set), (0, .ref (ad 0)), (1, .int (nI sn)), (2, .int (nI g)), (3, .int (nI w)), (4, .int (nI most))]) hx hb dX7_fitting_90 hl (by decide) rfl (fun ls hl => ?_)
                refine lv_aload_n hx hb dX7_fitting_92 rfl (lv_at hl 5 rfl) ?_
                refine g_wrV0 hS (g_runV (As := []) (rest := []) ky_yX7_dayGoes lk_RX7_113 C hX (gS_b0 hI hS) hP 0 (c_yX7_dayGoes l G ad hI τ2  N hN hn2 hv2) (by decide) (shM_0 G ad _) ⟨rfl, rfl, by decide, by decide⟩ rfl hl.1 rfl (Nat.le_of_ble_eq_true rfl) ⟨Nat.zero_le _, Nat.zero_le _⟩ dX7_fitting_93) (fun H locs hP hS => ?_)
                refine lv_iinc (v := (nI (i2 + 1))) (lv' := [(8, .int (nI (i2 + 1))), (7, .int 1), (9, .int (τ2 9 (40 * sn + i2))), (6, .int (nI i)), (5, .int set), (0, .ref (ad 0)), (1, .int (nI sn)), (2, .int (nI g)), (3, .int (nI w)), (4, .int (nI most))]) hx hb dX7_fitting_96 hl (k := 2) rfl (by exact nI_1 _) (by decide) rfl (fun ls hl => ?_)
                refine lv_goto (tgt := 38) hx hb dX7_fitting_99 (by decide) ?_
                exact ih38 (i2 + 1) 1 (m_dayGoes τ2) _ _ _ (by omega) ((dg_N _).trans hn2) (dg_D _) (fun j hj => by rw [dg_row _ (by decide)]; exact hA2 j hj) (by rw [dg_row _ (by decide)]; exact hz2) (by rw [hres38, m_fitting_L38, if_neg c6, if_neg c7, if_pos c8]) hP hS (lv_sub hl [0, 1, 3, 4, 5, 6, 7, 8, 9] rfl)

def m_fits (σ : gM) (sn : Int32) (glove : Int32) : Int32 × gM := if (m_whyNot σ sn glove) < 0 then ((m_fitting σ (nN sn) (nN glove) 1 5).1, (m_fitting σ (nN sn) (nN glove) 1 5).2) else ((m_finds σ (nN (m_whyNot σ sn glove))).1, (m_finds σ (nN (m_whyNot σ sn glove))).2)
def rm_yX7_fits : Room := { frames := 7, cells := 0, slots := 0, locals := 165 }
set_option maxHeartbeats 4000000 in
set_option maxRecDepth 100000 in
theorem c_yX7_fits (l : Launch) (G : gG) (ad : Nat → Nat) (hI : gI G.2.2.1 11 ad) (σ : gM) (sn : Int32) (glove : Int32) (N : Nat) (hN : N ≤ 8) (hs : σ 1 0 = nI N) (hd : ¬ σ 1 1 < 0) (hsz : ∀ j, j < 4 → ∃ Z, Z ≤ 40 ∧ σ 8 j = nI Z) : gMutI l yX7_fits cX7_fits 4 (some .int) rm_yX7_fits G [.ref (ad 0), .int sn, .int glove] 11 ad (shM G ad) σ (m_fits σ sn glove) := by
  refine g_start [.ref (ad 0), .int sn, .int glove] (by decide +kernel) (Nat.le_of_ble_eq_true rfl) ?_
  intro p e s m below meth c ls B Z hl
  obtain ⟨C, hr, hlk⟩ := B
  have hx := C.1
  have hb := C.2.1
  obtain ⟨hX, hP⟩ := Z
  have hS : va_S (gA 11 ad) s.heap s.heap [] := va_S.rf
  revert hP hS
  intro hP hS
  have hl : lv_has ls 4 [(0, .ref (ad 0)), (1, .int sn), (2, .int glove)] := hl
  refine lv_aload_n hx hb dX7_fits_0 rfl (lv_at hl 0 rfl) ?_
  refine lv_iload_n hx hb dX7_fits_1 rfl (lv_at hl 1 rfl) ?_
  refine lv_iload_n hx hb dX7_fits_2 rfl (lv_at hl 2 rfl) ?_
  refine g_rd (g_runV (As := [.int sn, .int glove]) (rest := []) ky_yX7_whyNot lk_RX7_193 C hX (gS_b0 hI hS) hP 0 (c_yX7_whyNot l G ad hI σ sn glove) (by decide) (shM_0 G ad _) ⟨rfl, rfl, by decide, by decide⟩ rfl hl.1 rfl (Nat.le_of_ble_eq_true rfl) ⟨Nat.zero_le _, Nat.zero_le _⟩ dX7_fits_3) ?_
  refine lv_istore_n (lv' := [(3, .int (m_whyNot σ sn glove)), (0, .ref (ad 0)), (1, .int sn), (2, .int glove)]) hx hb dX7_fits_6 rfl hl (by decide) rfl (fun ls hl => ?_)
  refine lv_iload_n hx hb dX7_fits_7 rfl (lv_at hl 0 rfl) ?_
  refine lv_if_lt (tgt := 19) hx hb dX7_fits_8 (by decide) (fun c1 => ?_) (fun c1 => ?_)
  · obtain ⟨hc1, hc2⟩ := wn_ok c1
    obtain ⟨hh1, hh2, hh3⟩ := why_ok hc1
    obtain ⟨hg1, hg2⟩ := glv_of hN hs hc2
    obtain ⟨Z, hZ, hz⟩ := hsz _ hh2
    refine lv_aload_n hx hb dX7_fits_19 rfl (lv_at hl 1 rfl) ?_
    refine lv_iload_n hx hb dX7_fits_20 rfl (lv_at hl 2 rfl) ?_
    refine lv_as (y := (nI (nN sn))) hh1 ?_
    refine lv_iload_n hx hb dX7_fits_21 rfl (lv_at hl 3 rfl) ?_
    refine lv_as (y := (nI (nN glove))) hg1 ?_
    refine lv_iconst (v := 1) hx hb dX7_fits_22 (by decide) ?_
    refine lv_iconst (v := 5) hx hb dX7_fits_23 (by decide) ?_
    refine g_wrI0 hS (g_runV (As := [.int (nI (nN sn)), .int (nI (nN glove)), .int 1, .int 5]) (rest := []) ky_yX7_fitting lk_RX7_196 C hX (gS_b0 hI hS) hP 0 (c_yX7_fitting l G ad hI σ (nN sn) (nN glove) 1 5 N Z hN hs hd hh2 hZ hz (by omega) (by decide) (by decide)) (by decide) (shM_0 G ad _) ⟨rfl, rfl, by decide, by decide⟩ rfl hl.1 rfl (Nat.le_of_ble_eq_true rfl) ⟨Nat.zero_le _, Nat.zero_le _⟩ dX7_fits_24) (fun H locs hP hS => ?_)
    exact g_iretM C hr hlk rfl (by rw [m_fits, if_pos c1]) hP hS dX7_fits_27
  · obtain ⟨hy1, hy2⟩ := wn_nat c1
    refine lv_aload_n hx hb dX7_fits_11 rfl (lv_at hl 1 rfl) ?_
    refine lv_iload_n hx hb dX7_fits_12 rfl (lv_at hl 0 rfl) ?_
    refine lv_as (y := (nI (nN (m_whyNot σ sn glove)))) hy1 ?_
    refine g_wrI0 hS (g_runV (As := [.int (nI (nN (m_whyNot σ sn glove)))]) (rest := []) ky_yX7_finds lk_RX7_128 C hX (gS_b0 hI hS) hP 0 (c_yX7_finds l G ad hI σ (nN (m_whyNot σ sn glove)) hy2) (by decide) (shM_0 G ad _) ⟨rfl, rfl, by decide, by decide⟩ rfl hl.1 rfl (Nat.le_of_ble_eq_true rfl) ⟨Nat.zero_le _, Nat.zero_le _⟩ dX7_fits_13) (fun H locs hP hS => ?_)
    refine lv_goto (tgt := 27) hx hb dX7_fits_16 (by decide) ?_
    exact g_iretM C hr hlk rfl (by rw [m_fits, if_neg c1]) hP hS dX7_fits_27

def m_kinds (σ : gM) (sn : Int32) (glove : Int32) : Int32 × gM := if (m_whyNot σ sn glove) < 0 then ((m_fitting σ (nN sn) (nN glove) 0 6).1, (m_fitting σ (nN sn) (nN glove) 0 6).2) else ((m_finds σ (nN (m_whyNot σ sn glove))).1, (m_finds σ (nN (m_whyNot σ sn glove))).2)
def rm_yX7_kinds : Room := { frames := 7, cells := 0, slots := 0, locals := 165 }
set_option maxHeartbeats 4000000 in
set_option maxRecDepth 100000 in
theorem c_yX7_kinds (l : Launch) (G : gG) (ad : Nat → Nat) (hI : gI G.2.2.1 11 ad) (σ : gM) (sn : Int32) (glove : Int32) (N : Nat) (hN : N ≤ 8) (hs : σ 1 0 = nI N) (hd : ¬ σ 1 1 < 0) (hsz : ∀ j, j < 4 → ∃ Z, Z ≤ 40 ∧ σ 8 j = nI Z) : gMutI l yX7_kinds cX7_kinds 4 (some .int) rm_yX7_kinds G [.ref (ad 0), .int sn, .int glove] 11 ad (shM G ad) σ (m_kinds σ sn glove) := by
  refine g_start [.ref (ad 0), .int sn, .int glove] (by decide +kernel) (Nat.le_of_ble_eq_true rfl) ?_
  intro p e s m below meth c ls B Z hl
  obtain ⟨C, hr, hlk⟩ := B
  have hx := C.1
  have hb := C.2.1
  obtain ⟨hX, hP⟩ := Z
  have hS : va_S (gA 11 ad) s.heap s.heap [] := va_S.rf
  revert hP hS
  intro hP hS
  have hl : lv_has ls 4 [(0, .ref (ad 0)), (1, .int sn), (2, .int glove)] := hl
  refine lv_aload_n hx hb dX7_kinds_0 rfl (lv_at hl 0 rfl) ?_
  refine lv_iload_n hx hb dX7_kinds_1 rfl (lv_at hl 1 rfl) ?_
  refine lv_iload_n hx hb dX7_kinds_2 rfl (lv_at hl 2 rfl) ?_
  refine g_rd (g_runV (As := [.int sn, .int glove]) (rest := []) ky_yX7_whyNot lk_RX7_193 C hX (gS_b0 hI hS) hP 0 (c_yX7_whyNot l G ad hI σ sn glove) (by decide) (shM_0 G ad _) ⟨rfl, rfl, by decide, by decide⟩ rfl hl.1 rfl (Nat.le_of_ble_eq_true rfl) ⟨Nat.zero_le _, Nat.zero_le _⟩ dX7_kinds_3) ?_
  refine lv_istore_n (lv' := [(3, .int (m_whyNot σ sn glove)), (0, .ref (ad 0)), (1, .int sn), (2, .int glove)]) hx hb dX7_kinds_6 rfl hl (by decide) rfl (fun ls hl => ?_)
  refine lv_iload_n hx hb dX7_kinds_7 rfl (lv_at hl 0 rfl) ?_
  refine lv_if_lt (tgt := 19) hx hb dX7_kinds_8 (by decide) (fun c1 => ?_) (fun c1 => ?_)
  · obtain ⟨hc1, hc2⟩ := wn_ok c1
    obtain ⟨hh1, hh2, hh3⟩ := why_ok hc1
    obtain ⟨hg1, hg2⟩ := glv_of hN hs hc2
    obtain ⟨Z, hZ, hz⟩ := hsz _ hh2
    refine lv_aload_n hx hb dX7_kinds_19 rfl (lv_at hl 1 rfl) ?_
    refine lv_iload_n hx hb dX7_kinds_20 rfl (lv_at hl 2 rfl) ?_
    refine lv_as (y := (nI (nN sn))) hh1 ?_
    refine lv_iload_n hx hb dX7_kinds_21 rfl (lv_at hl 3 rfl) ?_
    refine lv_as (y := (nI (nN glove))) hg1 ?_
    refine lv_iconst (v := 0) hx hb dX7_kinds_22 (by decide) ?_
    refine lv_bipush (v := 6) hx hb dX7_kinds_23 (by decide) ?_
    refine g_wrI0 hS (g_runV (As := [.int (nI (nN sn)), .int (nI (nN glove)), .int 0, .int 6]) (rest := []) ky_yX7_fitting lk_RX7_196 C hX (gS_b0 hI hS) hP 0 (c_yX7_fitting l G ad hI σ (nN sn) (nN glove) 0 6 N Z hN hs hd hh2 hZ hz (by omega) (by decide) (by decide)) (by decide) (shM_0 G ad _) ⟨rfl, rfl, by decide, by decide⟩ rfl hl.1 rfl (Nat.le_of_ble_eq_true rfl) ⟨Nat.zero_le _, Nat.zero_le _⟩ dX7_kinds_25) (fun H locs hP hS => ?_)
    exact g_iretM C hr hlk rfl (by rw [m_kinds, if_pos c1]) hP hS dX7_kinds_28
  · obtain ⟨hy1, hy2⟩ := wn_nat c1
    refine lv_aload_n hx hb dX7_kinds_11 rfl (lv_at hl 1 rfl) ?_
    refine lv_iload_n hx hb dX7_kinds_12 rfl (lv_at hl 0 rfl) ?_
    refine lv_as (y := (nI (nN (m_whyNot σ sn glove)))) hy1 ?_
    refine g_wrI0 hS (g_runV (As := [.int (nI (nN (m_whyNot σ sn glove)))]) (rest := []) ky_yX7_finds lk_RX7_128 C hX (gS_b0 hI hS) hP 0 (c_yX7_finds l G ad hI σ (nN (m_whyNot σ sn glove)) hy2) (by decide) (shM_0 G ad _) ⟨rfl, rfl, by decide, by decide⟩ rfl hl.1 rfl (Nat.le_of_ble_eq_true rfl) ⟨Nat.zero_le _, Nat.zero_le _⟩ dX7_kinds_13) (fun H locs hP hS => ?_)
    refine lv_goto (tgt := 28) hx hb dX7_kinds_16 (by decide) ?_
    exact g_iretM C hr hlk rfl (by rw [m_kinds, if_neg c1]) hP hS dX7_kinds_28

def m_feed_L39 (σ : gM) (bytes : Int32) (k : Int32) : Nat → Int32 → gM → Int32 × gM
  | 0, kk, τ => ((τ 0 1), τ)
  | n39 + 1, kk, τ => (m_feed_L39 σ bytes k n39 (kk + (-1)) ((mset (mset τ 6 (nN (τ 0 1)) (((((jshr bytes (8 * kk))).toInt8.toInt32)).toInt8.toInt32)) 0 1 ((τ 0 1) + 1))))
def m_feed (σ : gM) (bytes : Int32) (k : Int32) : Int32 × gM := if (m_in ((k).toInt64) 1 4) = 0 then ((m_finds σ 0).1, (m_finds σ 0).2) else (if ((σ 0 1) + k) ≤ 120 then (m_feed_L39 σ bytes k (nN k) (k - 1) σ) else ((m_finds σ 1).1, (m_finds σ 1).2))
def rm_yX7_feed : Room := { frames := 1, cells := 0, slots := 0, locals := 25 }
set_option maxHeartbeats 4000000 in
set_option maxRecDepth 100000 in
theorem c_yX7_feed (l : Launch) (G : gG) (ad : Nat → Nat) (hI : gI G.2.2.1 11 ad) (σ : gM) (bytes : Int32) (k : Int32) (T : Nat) (hT : T ≤ 120) (ht : σ 0 1 = nI T) : gMutI l yX7_feed cX7_feed 4 (some .int) rm_yX7_feed G [.ref (ad 0), .int bytes, .int k] 11 ad (shM G ad) σ (m_feed σ bytes k) := by
  refine g_start [.ref (ad 0), .int bytes, .int k] (by decide +kernel) (Nat.le_of_ble_eq_true rfl) ?_
  intro p e s m below meth c ls B Z hl
  obtain ⟨C, hr, hlk⟩ := B
  have hx := C.1
  have hb := C.2.1
  obtain ⟨hX, hP⟩ := Z
  have hS : va_S (gA 11 ad) s.heap s.heap [] := va_S.rf
  revert hP hS
  intro hP hS
  have hl : lv_has ls 4 [(0, .ref (ad 0)), (1, .int bytes), (2, .int k)] := hl
  refine lv_iload_n hx hb dX7_feed_0 rfl (lv_at hl 2 rfl) ?_
  refine lv_i2l (v := (k).toInt64) hx hb dX7_feed_1 rfl ?_
  refine lv_lconst (v := 1) hx hb dX7_feed_2 (by decide) ?_
  refine lv_ldc2 hx hb C.2.2.2.1 (C.2.2.2.2 _ kc_RX7_203) dX7_feed_3 ?_
  refine g_rd (g_runS (As := [.long ((k).toInt64), .long 1, .long 4]) (rest := []) ky_yX7_in lk_RX7_42 C (c_yX7_in l ((k).toInt64) 1 4) ⟨rfl, rfl, by decide, by decide⟩ rfl hl.1 rfl (Nat.le_of_ble_eq_true rfl) ⟨Nat.zero_le _, Nat.zero_le _⟩ dX7_feed_6) ?_
  refine lv_if_ne (tgt := 18) hx hb dX7_feed_9 (by decide) (fun c1 => ?_) (fun c1 => ?_)
  · obtain ⟨hk1, hk2⟩ := in_nat1 (M := 5) (by decide) (by decide) c1
    refine lv_aload_n hx hb dX7_feed_18 rfl (lv_at hl 0 rfl) ?_
    refine g_get fd_RX7_205 C hX hP 0 (by decide) (shM_0 G ad _) (v := .int (σ 0 1)) rfl dX7_feed_19 ?_
    refine lv_iload_n hx hb dX7_feed_22 rfl (lv_at hl 2 rfl) ?_
    refine lv_iadd hx hb dX7_feed_23 ?_
    refine lv_bipush (v := 120) hx hb dX7_feed_24 (by decide) ?_
    refine lv_icmp_le (tgt := 35) hx hb dX7_feed_26 (by decide) (fun c2 => ?_) (fun c2 => ?_)
    · have hfit : ∃ t, σ 0 1 = nI t ∧ t + nN k ≤ 120 := by
        refine ⟨T, ht, ?_⟩
        have q := c2
        rw [ht, hk1, nI_add] at q
        exact (nI_leI (by omega) (by decide)).mp q
      refine lv_iload_n hx hb dX7_feed_35 rfl (lv_at hl 2 rfl) ?_
      refine lv_iconst (v := 1) hx hb dX7_feed_36 (by decide) ?_
      refine lv_isub hx hb dX7_feed_37 ?_
      refine lv_istore_n (lv' := [(3, .int (k - 1)), (0, .ref (ad 0)), (1, .int bytes), (2, .int k)]) hx hb dX7_feed_38 rfl hl (by decide) rfl (fun ls hl => ?_)
      suffices loop39 : ∀ (n39 : Nat) (kk : Int32) (τ : gM) (H : Heap) (locs : List Loc) (ls : Array Slot), (kk = nI n39 - 1) → (n39 ≤ 4) → (∃ t, τ 0 1 = nI t ∧ t + n39 ≤ 120) → m_feed σ bytes k = (m_feed_L39 σ bytes k n39 kk τ) → gP G.1 11 ad (gE (shM G ad) τ) H → va_S (gA 11 ad) s.heap H locs → lv_has ls 4 [(3, .int kk), (0, .ref (ad 0)), (1, .int bytes), (2, .int k)] → W p l e rm_yX7_feed s m ([.ref (ad 0), .int bytes, .int k] : List Value).toArray below meth c H locs 0 0 (MQ below (va_Qi (fun (x : Int32) (τ : gM) => m_feed σ bytes k = (x, τ)) (fun τ t => gP G.1 11 ad (gE (shM G ad) τ) t.heap) (gA 11 ad)) ([.ref (ad 0), .int bytes, .int k] : List Value).toArray s 0 0 (gA 11 ad)) (F0 m 39 ls []) by
        exact loop39 (nN k) (k - 1) σ _ _ _ (congrArg (fun z => z - 1) hk1) (by omega) hfit (by rw [m_feed, if_neg c1, if_pos c2]) hP hS (lv_sub hl [0, 1, 2, 3] rfl)
      intro n39
      induction n39 with
      | zero =>
        intro kk τ H locs ls hl39 hm39 htt hres39 hP hS hl
        refine lv_iload_n hx hb dX7_feed_39 rfl (lv_at hl 0 rfl) ?_
        refine lv_if_lt (tgt := 75) hx hb dX7_feed_40 (by decide) (fun c3 => ?_) (fun c3 => ?_)
        · refine lv_aload_n hx hb dX7_feed_75 rfl (lv_at hl 1 rfl) ?_
          refine g_get fd_RX7_205 C hX hP 0 (by decide) (shM_0 G ad _) (v := .int (τ 0 1)) rfl dX7_feed_76 ?_
          exact g_iretM C hr hlk rfl (by rw [hres39, m_feed_L39]) hP hS dX7_feed_79
        · exact absurd (show kk < 0 by rw [hl39]; decide) c3
      | succ n39 ih39 =>
        intro kk τ H locs ls hl39 hm39 htt hres39 hP hS hl
        obtain ⟨t, ht1, ht2⟩ := htt
        have ht3 : nN (τ 0 1) = t := by rw [ht1, nN_nI (by omega)]
        have ht4 : τ 0 1 = nI (nN (τ 0 1)) := by rw [ht3]; exact ht1
        refine lv_iload_n hx hb dX7_feed_39 rfl (lv_at hl 0 rfl) ?_
        refine lv_if_lt (tgt := 75) hx hb dX7_feed_40 (by decide) (fun c4 => ?_) (fun c4 => ?_)
        · exact absurd (show nI n39 < 0 by rw [← nI_pred, ← hl39]; exact c4) (nI_pos (by omega))
        · refine lv_aload_n hx hb dX7_feed_43 rfl (lv_at hl 1 rfl) ?_
          refine g_get fd_RX7_25 C hX hP 0 (by decide) (shM_0 G ad _) (v := .ref (ad 6)) rfl dX7_feed_44 ?_
          refine lv_aload_n hx hb dX7_feed_47 rfl (lv_at hl 1 rfl) ?_
          refine g_get fd_RX7_205 C hX hP 0 (by decide) (shM_0 G ad _) (v := .int (τ 0 1)) rfl dX7_feed_48 ?_
          refine lv_as (y := (nI (nN (τ 0 1)))) ht4 ?_
          refine lv_iload_n hx hb dX7_feed_51 rfl (lv_at hl 2 rfl) ?_
          refine lv_bipush (v := 8) hx hb dX7_feed_52 (by decide) ?_
          refine lv_iload_n hx hb dX7_feed_54 rfl (lv_at hl 0 rfl) ?_
          refine lv_imul hx hb dX7_feed_55 ?_
          refine g_ishr hx hb dX7_feed_56 ?_
          refine lv_i2b (v := ((jshr bytes (8 * kk))).toInt8.toInt32) hx hb dX7_feed_57 rfl ?_
          refine g_bast C hX hI hP hS 6 (by decide) (shM_6 G ad _) (nN (τ 0 1)) (by omega) (by decide) (upd (τ 6) (nN (τ 0 1)) (((((jshr bytes (8 * kk))).toInt8.toInt32)).toInt8.toInt32)) rfl dX7_feed_58 (fun H locs hP hS => ?_)
          have hP : gP G.1 11 ad (gE (shM G ad) (mset τ 6 (nN (τ 0 1)) (((((jshr bytes (8 * kk))).toInt8.toInt32)).toInt8.toInt32))) H := hP
          refine lv_aload_n hx hb dX7_feed_59 rfl (lv_at hl 1 rfl) ?_
          refine lv_dup hx hb dX7_feed_60 rfl ?_
          refine g_get fd_RX7_205 C hX hP 0 (by decide) (shM_0 G ad _) (v := .int (τ 0 1)) rfl dX7_feed_61 ?_
          refine lv_iconst (v := 1) hx hb dX7_feed_64 (by decide) ?_
          refine lv_iadd hx hb dX7_feed_65 ?_
          refine g_put fd_RX7_205 C hX hI hP hS 0 (by decide) (shM_0 G ad _) rfl rfl (Nat.le_of_ble_eq_true rfl) (upd ((mset τ 6 (nN (τ 0 1)) (((((jshr bytes (8 * kk))).toInt8.toInt32)).toInt8.toInt32)) 0) 1 ((τ 0 1) + 1)) rfl dX7_feed_66 (fun H locs hP hS => ?_)
          have hP : gP G.1 11 ad (gE (shM G ad) (mset (mset τ 6 (nN (τ 0 1)) (((((jshr bytes (8 * kk))).toInt8.toInt32)).toInt8.toInt32)) 0 1 ((τ 0 1) + 1))) H := hP
          refine lv_iinc (v := (kk + (-1))) (lv' := [(3, .int (kk + (-1))), (0, .ref (ad 0)), (1, .int bytes), (2, .int k)]) hx hb dX7_feed_69 hl (k := 0) rfl rfl (by decide) rfl (fun ls hl => ?_)
          refine lv_goto (tgt := 39) hx hb dX7_feed_72 (by decide) ?_
          exact ih39 (kk + (-1)) ((mset (mset τ 6 (nN (τ 0 1)) (((((jshr bytes (8 * kk))).toInt8.toInt32)).toInt8.toInt32)) 0 1 ((τ 0 1) + 1))) _ _ _ (by rw [hl39, nI_pred, Int32.sub_eq_add_neg]) (by omega) ⟨t + 1, by show τ 0 1 + 1 = _; rw [ht1]; exact nI_1 t, by omega⟩ (by rw [hres39, m_feed_L39]) hP hS (lv_sub hl [0, 1, 2, 3] rfl)
    · refine lv_aload_n hx hb dX7_feed_29 rfl (lv_at hl 0 rfl) ?_
      refine lv_iconst (v := 1) hx hb dX7_feed_30 (by decide) ?_
      refine g_wrI0 hS (g_runV (As := [.int 1]) (rest := []) ky_yX7_finds lk_RX7_128 C hX (gS_b0 hI hS) hP 0 (c_yX7_finds l G ad hI σ 1 (by decide)) (by decide) (shM_0 G ad _) ⟨rfl, rfl, by decide, by decide⟩ rfl hl.1 rfl (Nat.le_of_ble_eq_true rfl) ⟨Nat.zero_le _, Nat.zero_le _⟩ dX7_feed_31) (fun H locs hP hS => ?_)
      exact g_iretM C hr hlk rfl (by rw [m_feed, if_neg c1, if_neg c2]) hP hS dX7_feed_34
  · refine lv_aload_n hx hb dX7_feed_12 rfl (lv_at hl 0 rfl) ?_
    refine lv_iconst (v := 0) hx hb dX7_feed_13 (by decide) ?_
    refine g_wrI0 hS (g_runV (As := [.int 0]) (rest := []) ky_yX7_finds lk_RX7_128 C hX (gS_b0 hI hS) hP 0 (c_yX7_finds l G ad hI σ 0 (by decide)) (by decide) (shM_0 G ad _) ⟨rfl, rfl, by decide, by decide⟩ rfl hl.1 rfl (Nat.le_of_ble_eq_true rfl) ⟨Nat.zero_le _, Nat.zero_le _⟩ dX7_feed_14) (fun H locs hP hS => ?_)
    exact g_iretM C hr hlk rfl (by rw [m_feed, if_pos c1]) hP hS dX7_feed_17

def m_wipe (σ : gM) : Int32 × gM := ((σ 0 1), (mset σ 0 1 0))
def rm_yX7_wipe : Room := { frames := 0, cells := 0, slots := 0, locals := 0 }
set_option maxHeartbeats 4000000 in
set_option maxRecDepth 100000 in
theorem c_yX7_wipe (l : Launch) (G : gG) (ad : Nat → Nat) (hI : gI G.2.2.1 11 ad) (σ : gM) : gMutI l yX7_wipe cX7_wipe 2 (some .int) rm_yX7_wipe G [.ref (ad 0)] 11 ad (shM G ad) σ (m_wipe σ) := by
  refine g_start [.ref (ad 0)] (by decide +kernel) (Nat.le_of_ble_eq_true rfl) ?_
  intro p e s m below meth c ls B Z hl
  obtain ⟨C, hr, hlk⟩ := B
  have hx := C.1
  have hb := C.2.1
  obtain ⟨hX, hP⟩ := Z
  have hS : va_S (gA 11 ad) s.heap s.heap [] := va_S.rf
  revert hP hS
  intro hP hS
  have hl : lv_has ls 2 [(0, .ref (ad 0))] := hl
  refine lv_aload_n hx hb dX7_wipe_0 rfl (lv_at hl 0 rfl) ?_
  refine g_get fd_RX7_205 C hX hP 0 (by decide) (shM_0 G ad _) (v := .int (σ 0 1)) rfl dX7_wipe_1 ?_
  refine lv_istore_n (lv' := [(1, .int (σ 0 1)), (0, .ref (ad 0))]) hx hb dX7_wipe_4 rfl hl (by decide) rfl (fun ls hl => ?_)
  refine lv_aload_n hx hb dX7_wipe_5 rfl (lv_at hl 1 rfl) ?_
  refine lv_iconst (v := 0) hx hb dX7_wipe_6 (by decide) ?_
  refine g_put fd_RX7_205 C hX hI hP hS 0 (by decide) (shM_0 G ad _) rfl rfl (Nat.le_of_ble_eq_true rfl) (upd (σ 0) 1 0) rfl dX7_wipe_7 (fun H locs hP hS => ?_)
  have hP : gP G.1 11 ad (gE (shM G ad) (mset σ 0 1 0)) H := hP
  refine lv_iload_n hx hb dX7_wipe_10 rfl (lv_at hl 0 rfl) ?_
  exact g_iretM C hr hlk rfl (by rw [m_wipe]) hP hS dX7_wipe_11

def m_hold (σ : gM) (spot : Int32) (glove : Int32) : Int32 × gM := if (m_in ((spot).toInt64) 0 9) = 0 then ((m_finds σ 0).1, (m_finds σ 0).2) else (if (m_in ((glove).toInt64) (-1) ((((σ 1 0) - 1)).toInt64)) = 0 then ((m_finds σ 0).1, (m_finds σ 0).2) else (1, (mset σ 1 (65 + nN spot) (glove + 1))))
def rm_yX7_hold : Room := { frames := 1, cells := 0, slots := 0, locals := 25 }
set_option maxHeartbeats 4000000 in
set_option maxRecDepth 100000 in
theorem c_yX7_hold (l : Launch) (G : gG) (ad : Nat → Nat) (hI : gI G.2.2.1 11 ad) (σ : gM) (spot : Int32) (glove : Int32) (N : Nat) (hN : N ≤ 8) (hs : σ 1 0 = nI N) : gMutI l yX7_hold cX7_hold 3 (some .int) rm_yX7_hold G [.ref (ad 0), .int spot, .int glove] 11 ad (shM G ad) σ (m_hold σ spot glove) := by
  refine g_start [.ref (ad 0), .int spot, .int glove] (by decide +kernel) (Nat.le_of_ble_eq_true rfl) ?_
  intro p e s m below meth c ls B Z hl
  obtain ⟨C, hr, hlk⟩ := B
  have hx := C.1
  have hb := C.2.1
  obtain ⟨hX, hP⟩ := Z
  have hS : va_S (gA 11 ad) s.heap s.heap [] := va_S.rf
  revert hP hS
  intro hP hS
  have hl : lv_has ls 3 [(0, .ref (ad 0)), (1, .int spot), (2, .int glove)] := hl
  refine lv_iload_n hx hb dX7_hold_0 rfl (lv_at hl 1 rfl) ?_
  refine lv_i2l (v := (spot).toInt64) hx hb dX7_hold_1 rfl ?_
  refine lv_lconst (v := 0) hx hb dX7_hold_2 (by decide) ?_
  refine lv_ldc2 hx hb C.2.2.2.1 (C.2.2.2.2 _ kc_RX7_302) dX7_hold_3 ?_
  refine g_rd (g_runS (As := [.long ((spot).toInt64), .long 0, .long 9]) (rest := []) ky_yX7_in lk_RX7_42 C (c_yX7_in l ((spot).toInt64) 0 9) ⟨rfl, rfl, by decide, by decide⟩ rfl hl.1 rfl (Nat.le_of_ble_eq_true rfl) ⟨Nat.zero_le _, Nat.zero_le _⟩ dX7_hold_6) ?_
  refine lv_if_eq (tgt := 32) hx hb dX7_hold_9 (by decide) (fun c1 => ?_) (fun c1 => ?_)
  · refine lv_aload_n hx hb dX7_hold_32 rfl (lv_at hl 0 rfl) ?_
    refine lv_iconst (v := 0) hx hb dX7_hold_33 (by decide) ?_
    refine g_wrI0 hS (g_runV (As := [.int 0]) (rest := []) ky_yX7_finds lk_RX7_128 C hX (gS_b0 hI hS) hP 0 (c_yX7_finds l G ad hI σ 0 (by decide)) (by decide) (shM_0 G ad _) ⟨rfl, rfl, by decide, by decide⟩ rfl hl.1 rfl (Nat.le_of_ble_eq_true rfl) ⟨Nat.zero_le _, Nat.zero_le _⟩ dX7_hold_34) (fun H locs hP hS => ?_)
    exact g_iretM C hr hlk rfl (by rw [m_hold, if_pos c1]) hP hS dX7_hold_37
  · obtain ⟨hp1, hp2⟩ := in_nat (M := 10) (by decide) (by decide) c1
    refine lv_iload_n hx hb dX7_hold_12 rfl (lv_at hl 2 rfl) ?_
    refine lv_i2l (v := (glove).toInt64) hx hb dX7_hold_13 rfl ?_
    refine lv_ldc2 hx hb C.2.2.2.1 (C.2.2.2.2 _ kc_RX7_304) dX7_hold_14 ?_
    refine lv_aload_n hx hb dX7_hold_17 rfl (lv_at hl 0 rfl) ?_
    refine g_get fd_RX7_7 C hX hP 0 (by decide) (shM_0 G ad _) (v := .ref (ad 1)) rfl dX7_hold_18 ?_
    refine lv_iconst (v := 0) hx hb dX7_hold_21 (by decide) ?_
    refine lv_as (y := nI 0) rfl ?_
    refine g_iald C hX hP 1 (by decide) (shM_1 G ad _) 0 (by omega) (by decide) dX7_hold_22 ?_
    refine lv_iconst (v := 1) hx hb dX7_hold_23 (by decide) ?_
    refine lv_isub hx hb dX7_hold_24 ?_
    refine lv_i2l (v := (((σ 1 0) - 1)).toInt64) hx hb dX7_hold_25 rfl ?_
    refine g_rd (g_runS (As := [.long ((glove).toInt64), .long (-1), .long ((((σ 1 0) - 1)).toInt64)]) (rest := []) ky_yX7_in lk_RX7_42 C (c_yX7_in l ((glove).toInt64) (-1) ((((σ 1 0) - 1)).toInt64)) ⟨rfl, rfl, by decide, by decide⟩ rfl hl.1 rfl (Nat.le_of_ble_eq_true rfl) ⟨Nat.zero_le _, Nat.zero_le _⟩ dX7_hold_26) ?_
    refine lv_if_ne (tgt := 38) hx hb dX7_hold_29 (by decide) (fun c2 => ?_) (fun c2 => ?_)
    · refine lv_aload_n hx hb dX7_hold_38 rfl (lv_at hl 0 rfl) ?_
      refine g_get fd_RX7_7 C hX hP 0 (by decide) (shM_0 G ad _) (v := .ref (ad 1)) rfl dX7_hold_39 ?_
      refine lv_bipush (v := 65) hx hb dX7_hold_42 (by decide) ?_
      refine lv_iload_n hx hb dX7_hold_44 rfl (lv_at hl 1 rfl) ?_
      refine lv_iadd hx hb dX7_hold_45 ?_
      refine lv_as (y := (nI (65 + nN spot))) ((congrArg (fun z => 65 + z) hp1).trans (ix_65 _)) ?_
      refine lv_iload_n hx hb dX7_hold_46 rfl (lv_at hl 2 rfl) ?_
      refine lv_iconst (v := 1) hx hb dX7_hold_47 (by decide) ?_
      refine lv_iadd hx hb dX7_hold_48 ?_
      refine g_iast C hX hI hP hS 1 (by decide) (shM_1 G ad _) (65 + nN spot) (by omega) (by decide) (upd (σ 1) (65 + nN spot) (glove + 1)) rfl dX7_hold_49 (fun H locs hP hS => ?_)
      have hP : gP G.1 11 ad (gE (shM G ad) (mset σ 1 (65 + nN spot) (glove + 1))) H := hP
      refine lv_iconst (v := 1) hx hb dX7_hold_50 (by decide) ?_
      exact g_iretM C hr hlk rfl (by rw [m_hold, if_neg c1, if_neg c2]) hP hS dX7_hold_51
    · refine lv_aload_n hx hb dX7_hold_32 rfl (lv_at hl 0 rfl) ?_
      refine lv_iconst (v := 0) hx hb dX7_hold_33 (by decide) ?_
      refine g_wrI0 hS (g_runV (As := [.int 0]) (rest := []) ky_yX7_finds lk_RX7_128 C hX (gS_b0 hI hS) hP 0 (c_yX7_finds l G ad hI σ 0 (by decide)) (by decide) (shM_0 G ad _) ⟨rfl, rfl, by decide, by decide⟩ rfl hl.1 rfl (Nat.le_of_ble_eq_true rfl) ⟨Nat.zero_le _, Nat.zero_le _⟩ dX7_hold_34) (fun H locs hP hS => ?_)
      exact g_iretM C hr hlk rfl (by rw [m_hold, if_neg c1, if_pos c2]) hP hS dX7_hold_37

def m_above (kind : Int32) : Int32 := if kind = 3 then 2 else (if kind = 4 then 3 else (if kind = 6 then 1 else 0))
def rm_yX7_above : Room := { frames := 0, cells := 0, slots := 0, locals := 0 }
set_option maxHeartbeats 4000000 in
set_option maxRecDepth 100000 in
theorem c_yX7_above (l : Launch) (kind : Int32) : gPure l yX7_above cX7_above 1 (some .int) rm_yX7_above [.int kind] (m_above kind) := by
  refine g_start [.int kind] (by decide +kernel) (Nat.le_of_ble_eq_true rfl) ?_
  intro p e s m below meth c ls B Z hl
  obtain ⟨C, hr, hlk⟩ := B
  have hx := C.1
  have hb := C.2.1
  have hl : lv_has ls 1 [(0, .int kind)] := hl
  refine lv_iload_n hx hb dX7_above_0 rfl (lv_at hl 0 rfl) ?_
  refine lv_iconst (v := 3) hx hb dX7_above_1 (by decide) ?_
  refine lv_icmp_ne (tgt := 9) hx hb dX7_above_2 (by decide) (fun c1 => ?_) (fun c1 => ?_)
  · refine lv_iload_n hx hb dX7_above_9 rfl (lv_at hl 0 rfl) ?_
    refine lv_iconst (v := 4) hx hb dX7_above_10 (by decide) ?_
    refine lv_icmp_ne (tgt := 18) hx hb dX7_above_11 (by decide) (fun c2 => ?_) (fun c2 => ?_)
    · refine lv_iload_n hx hb dX7_above_18 rfl (lv_at hl 0 rfl) ?_
      refine lv_bipush (v := 6) hx hb dX7_above_19 (by decide) ?_
      refine lv_icmp_ne (tgt := 28) hx hb dX7_above_21 (by decide) (fun c3 => ?_) (fun c3 => ?_)
      · refine lv_iconst (v := 0) hx hb dX7_above_28 (by decide) ?_
        exact g_iret C hr hlk rfl (by rw [m_above, if_neg c1, if_neg c2, if_neg c3]) rfl rfl dX7_above_29
      · refine lv_iconst (v := 1) hx hb dX7_above_24 (by decide) ?_
        refine lv_goto (tgt := 29) hx hb dX7_above_25 (by decide) ?_
        exact g_iret C hr hlk rfl (by rw [m_above, if_neg c1, if_neg c2, if_pos c3]) rfl rfl dX7_above_29
    · refine lv_iconst (v := 3) hx hb dX7_above_14 (by decide) ?_
      refine lv_goto (tgt := 29) hx hb dX7_above_15 (by decide) ?_
      exact g_iret C hr hlk rfl (by rw [m_above, if_neg c1, if_pos c2]) rfl rfl dX7_above_29
  · refine lv_iconst (v := 2) hx hb dX7_above_5 (by decide) ?_
    refine lv_goto (tgt := 29) hx hb dX7_above_6 (by decide) ?_
    exact g_iret C hr hlk rfl (by rw [m_above, if_pos c1]) rfl rfl dX7_above_29

def m_as (σ : gM) (spot : Int32) (kind : Int32) : Int32 × gM := if (m_in ((spot).toInt64) 0 9) = 0 then ((m_finds σ 0).1, (m_finds σ 0).2) else (if (m_in ((kind).toInt64) 0 6) = 0 then ((m_finds σ 0).1, (m_finds σ 0).2) else (if (σ 1 (65 + nN spot)) = 0 then ((m_finds σ 5).1, (m_finds σ 5).2) else (if kind = 0 then (((σ 1 (65 + nN spot)) - 1), σ) else (if kind = (m_its σ (nN ((σ 1 (65 + nN spot)) - 1)) 0) then (((σ 1 (65 + nN spot)) - 1), σ) else (if kind = (m_above (m_its σ (nN ((σ 1 (65 + nN spot)) - 1)) 0)) then (((σ 1 (65 + nN spot)) - 1), σ) else (if kind = (m_above (m_above (m_its σ (nN ((σ 1 (65 + nN spot)) - 1)) 0))) then (((σ 1 (65 + nN spot)) - 1), σ) else ((m_finds σ 2).1, (m_finds σ 2).2)))))))
def rm_yX7_as : Room := { frames := 1, cells := 0, slots := 0, locals := 25 }
set_option maxHeartbeats 4000000 in
set_option maxRecDepth 100000 in
theorem c_yX7_as (l : Launch) (G : gG) (ad : Nat → Nat) (hI : gI G.2.2.1 11 ad) (σ : gM) (spot : Int32) (kind : Int32) (hsp : ∀ j, j < 10 → ¬ σ 1 (65 + j) = 0 → ∃ g, g < 8 ∧ (σ 1 (65 + j)) - 1 = nI g) : gMutI l yX7_as cX7_as 5 (some .int) rm_yX7_as G [.ref (ad 0), .int spot, .int kind] 11 ad (shM G ad) σ (m_as σ spot kind) := by
  refine g_start [.ref (ad 0), .int spot, .int kind] (by decide +kernel) (Nat.le_of_ble_eq_true rfl) ?_
  intro p e s m below meth c ls B Z hl
  obtain ⟨C, hr, hlk⟩ := B
  have hx := C.1
  have hb := C.2.1
  obtain ⟨hX, hP⟩ := Z
  have hS : va_S (gA 11 ad) s.heap s.heap [] := va_S.rf
  revert hP hS
  intro hP hS
  have hl : lv_has ls 5 [(0, .ref (ad 0)), (1, .int spot), (2, .int kind)] := hl
  refine lv_iload_n hx hb dX7_as_0 rfl (lv_at hl 1 rfl) ?_
  refine lv_i2l (v := (spot).toInt64) hx hb dX7_as_1 rfl ?_
  refine lv_lconst (v := 0) hx hb dX7_as_2 (by decide) ?_
  refine lv_ldc2 hx hb C.2.2.2.1 (C.2.2.2.2 _ kc_RX7_302) dX7_as_3 ?_
  refine g_rd (g_runS (As := [.long ((spot).toInt64), .long 0, .long 9]) (rest := []) ky_yX7_in lk_RX7_42 C (c_yX7_in l ((spot).toInt64) 0 9) ⟨rfl, rfl, by decide, by decide⟩ rfl hl.1 rfl (Nat.le_of_ble_eq_true rfl) ⟨Nat.zero_le _, Nat.zero_le _⟩ dX7_as_6) ?_
  refine lv_if_eq (tgt := 24) hx hb dX7_as_9 (by decide) (fun c1 => ?_) (fun c1 => ?_)
  · refine lv_aload_n hx hb dX7_as_24 rfl (lv_at hl 0 rfl) ?_
    refine lv_iconst (v := 0) hx hb dX7_as_25 (by decide) ?_
    refine g_wrI0 hS (g_runV (As := [.int 0]) (rest := []) ky_yX7_finds lk_RX7_128 C hX (gS_b0 hI hS) hP 0 (c_yX7_finds l G ad hI σ 0 (by decide)) (by decide) (shM_0 G ad _) ⟨rfl, rfl, by decide, by decide⟩ rfl hl.1 rfl (Nat.le_of_ble_eq_true rfl) ⟨Nat.zero_le _, Nat.zero_le _⟩ dX7_as_26) (fun H locs hP hS => ?_)
    exact g_iretM C hr hlk rfl (by rw [m_as, if_pos c1]) hP hS dX7_as_29
  · obtain ⟨hp1, hp2⟩ := in_nat (M := 10) (by decide) (by decide) c1
    refine lv_iload_n hx hb dX7_as_12 rfl (lv_at hl 2 rfl) ?_
    refine lv_i2l (v := (kind).toInt64) hx hb dX7_as_13 rfl ?_
    refine lv_lconst (v := 0) hx hb dX7_as_14 (by decide) ?_
    refine lv_ldc2 hx hb C.2.2.2.1 (C.2.2.2.2 _ kc_RX7_133) dX7_as_15 ?_
    refine g_rd (g_runS (As := [.long ((kind).toInt64), .long 0, .long 6]) (rest := []) ky_yX7_in lk_RX7_42 C (c_yX7_in l ((kind).toInt64) 0 6) ⟨rfl, rfl, by decide, by decide⟩ rfl hl.1 rfl (Nat.le_of_ble_eq_true rfl) ⟨Nat.zero_le _, Nat.zero_le _⟩ dX7_as_18) ?_
    refine lv_if_ne (tgt := 30) hx hb dX7_as_21 (by decide) (fun c2 => ?_) (fun c2 => ?_)
    · refine lv_aload_n hx hb dX7_as_30 rfl (lv_at hl 0 rfl) ?_
      refine g_get fd_RX7_7 C hX hP 0 (by decide) (shM_0 G ad _) (v := .ref (ad 1)) rfl dX7_as_31 ?_
      refine lv_bipush (v := 65) hx hb dX7_as_34 (by decide) ?_
      refine lv_iload_n hx hb dX7_as_36 rfl (lv_at hl 1 rfl) ?_
      refine lv_iadd hx hb dX7_as_37 ?_
      refine lv_as (y := (nI (65 + nN spot))) ((congrArg (fun z => 65 + z) hp1).trans (ix_65 _)) ?_
      refine g_iald C hX hP 1 (by decide) (shM_1 G ad _) (65 + nN spot) (by omega) (by decide) dX7_as_38 ?_
      refine lv_if_ne (tgt := 48) hx hb dX7_as_39 (by decide) (fun c3 => ?_) (fun c3 => ?_)
      · obtain ⟨g0, hg0, hg1⟩ := hsp _ hp2 c3
        have hg2 : (σ 1 (65 + nN spot)) - 1 = nI (nN ((σ 1 (65 + nN spot)) - 1)) := by rw [hg1, nN_nI (by omega)]
        have hg3 : nN ((σ 1 (65 + nN spot)) - 1) < 8 := by rw [hg1, nN_nI (by omega)]; exact hg0
        refine lv_aload_n hx hb dX7_as_48 rfl (lv_at hl 0 rfl) ?_
        refine g_get fd_RX7_7 C hX hP 0 (by decide) (shM_0 G ad _) (v := .ref (ad 1)) rfl dX7_as_49 ?_
        refine lv_bipush (v := 65) hx hb dX7_as_52 (by decide) ?_
        refine lv_iload_n hx hb dX7_as_54 rfl (lv_at hl 1 rfl) ?_
        refine lv_iadd hx hb dX7_as_55 ?_
        refine lv_as (y := (nI (65 + nN spot))) ((congrArg (fun z => 65 + z) hp1).trans (ix_65 _)) ?_
        refine g_iald C hX hP 1 (by decide) (shM_1 G ad _) (65 + nN spot) (by omega) (by decide) dX7_as_56 ?_
        refine lv_iconst (v := 1) hx hb dX7_as_57 (by decide) ?_
        refine lv_isub hx hb dX7_as_58 ?_
        refine lv_istore_n (lv' := [(3, .int ((σ 1 (65 + nN spot)) - 1)), (0, .ref (ad 0)), (1, .int spot), (2, .int kind)]) hx hb dX7_as_59 rfl hl (by decide) rfl (fun ls hl => ?_)
        refine lv_aload_n hx hb dX7_as_60 rfl (lv_at hl 1 rfl) ?_
        refine lv_iload_n hx hb dX7_as_61 rfl (lv_at hl 0 rfl) ?_
        refine lv_as (y := (nI (nN ((σ 1 (65 + nN spot)) - 1)))) hg2 ?_
        refine lv_iconst (v := 0) hx hb dX7_as_62 (by decide) ?_
        refine g_rd (g_runV (As := [.int (nI (nN ((σ 1 (65 + nN spot)) - 1))), .int 0]) (rest := []) ky_yX7_its lk_RX7_58 C hX (gS_b0 hI hS) hP 0 (c_yX7_its l G ad hI σ (nN ((σ 1 (65 + nN spot)) - 1)) 0 hg3 (by decide)) (by decide) (shM_0 G ad _) ⟨rfl, rfl, by decide, by decide⟩ rfl hl.1 rfl (Nat.le_of_ble_eq_true rfl) ⟨Nat.zero_le _, Nat.zero_le _⟩ dX7_as_63) ?_
        refine lv_istore (lv' := [(4, .int (m_its σ (nN ((σ 1 (65 + nN spot)) - 1)) 0)), (3, .int ((σ 1 (65 + nN spot)) - 1)), (0, .ref (ad 0)), (1, .int spot), (2, .int kind)]) hx hb dX7_as_66 hl (by decide) rfl (fun ls hl => ?_)
        refine lv_iload_n hx hb dX7_as_68 rfl (lv_at hl 4 rfl) ?_
        refine lv_if_eq (tgt := 99) hx hb dX7_as_69 (by decide) (fun c4 => ?_) (fun c4 => ?_)
        · refine lv_iload_n hx hb dX7_as_99 rfl (lv_at hl 1 rfl) ?_
          refine lv_goto (tgt := 108) hx hb dX7_as_100 (by decide) ?_
          exact g_iretM C hr hlk rfl (by rw [m_as, if_neg c1, if_neg c2, if_neg c3, if_pos c4]) hP hS dX7_as_108
        · refine lv_iload_n hx hb dX7_as_72 rfl (lv_at hl 4 rfl) ?_
          refine lv_iload hx hb dX7_as_73 (lv_at hl 0 rfl) ?_
          refine lv_icmp_eq (tgt := 99) hx hb dX7_as_75 (by decide) (fun c5 => ?_) (fun c5 => ?_)
          · refine lv_iload_n hx hb dX7_as_99 rfl (lv_at hl 1 rfl) ?_
            refine lv_goto (tgt := 108) hx hb dX7_as_100 (by decide) ?_
            exact g_iretM C hr hlk rfl (by rw [m_as, if_neg c1, if_neg c2, if_neg c3, if_neg c4, if_pos c5]) hP hS dX7_as_108
          · refine lv_iload_n hx hb dX7_as_78 rfl (lv_at hl 4 rfl) ?_
            refine lv_iload hx hb dX7_as_79 (lv_at hl 0 rfl) ?_
            refine g_rd (g_runS (As := [.int (m_its σ (nN ((σ 1 (65 + nN spot)) - 1)) 0)]) (rest := [.int kind]) ky_yX7_above lk_RX7_306 C (c_yX7_above l (m_its σ (nN ((σ 1 (65 + nN spot)) - 1)) 0)) ⟨rfl, rfl, by decide, by decide⟩ rfl hl.1 rfl (Nat.le_of_ble_eq_true rfl) ⟨Nat.zero_le _, Nat.zero_le _⟩ dX7_as_81) ?_
            refine lv_icmp_eq (tgt := 99) hx hb dX7_as_84 (by decide) (fun c6 => ?_) (fun c6 => ?_)
            · refine lv_iload_n hx hb dX7_as_99 rfl (lv_at hl 1 rfl) ?_
              refine lv_goto (tgt := 108) hx hb dX7_as_100 (by decide) ?_
              exact g_iretM C hr hlk rfl (by rw [m_as, if_neg c1, if_neg c2, if_neg c3, if_neg c4, if_neg c5, if_pos c6]) hP hS dX7_as_108
            · refine lv_iload_n hx hb dX7_as_87 rfl (lv_at hl 4 rfl) ?_
              refine lv_iload hx hb dX7_as_88 (lv_at hl 0 rfl) ?_
              refine g_rd (g_runS (As := [.int (m_its σ (nN ((σ 1 (65 + nN spot)) - 1)) 0)]) (rest := [.int kind]) ky_yX7_above lk_RX7_306 C (c_yX7_above l (m_its σ (nN ((σ 1 (65 + nN spot)) - 1)) 0)) ⟨rfl, rfl, by decide, by decide⟩ rfl hl.1 rfl (Nat.le_of_ble_eq_true rfl) ⟨Nat.zero_le _, Nat.zero_le _⟩ dX7_as_90) ?_
              refine g_rd (g_runS (As := [.int (m_above (m_its σ (nN ((σ 1 (65 + nN spot)) - 1)) 0))]) (rest := [.int kind]) ky_yX7_above lk_RX7_306 C (c_yX7_above l (m_above (m_its σ (nN ((σ 1 (65 + nN spot)) - 1)) 0))) ⟨rfl, rfl, by decide, by decide⟩ rfl hl.1 rfl (Nat.le_of_ble_eq_true rfl) ⟨Nat.zero_le _, Nat.zero_le _⟩ dX7_as_93) ?_
              refine lv_icmp_ne (tgt := 103) hx hb dX7_as_96 (by decide) (fun c7 => ?_) (fun c7 => ?_)
              · refine lv_aload_n hx hb dX7_as_103 rfl (lv_at hl 2 rfl) ?_
                refine lv_iconst (v := 2) hx hb dX7_as_104 (by decide) ?_
                refine g_wrI0 hS (g_runV (As := [.int 2]) (rest := []) ky_yX7_finds lk_RX7_128 C hX (gS_b0 hI hS) hP 0 (c_yX7_finds l G ad hI σ 2 (by decide)) (by decide) (shM_0 G ad _) ⟨rfl, rfl, by decide, by decide⟩ rfl hl.1 rfl (Nat.le_of_ble_eq_true rfl) ⟨Nat.zero_le _, Nat.zero_le _⟩ dX7_as_105) (fun H locs hP hS => ?_)
                exact g_iretM C hr hlk rfl (by rw [m_as, if_neg c1, if_neg c2, if_neg c3, if_neg c4, if_neg c5, if_neg c6, if_neg c7]) hP hS dX7_as_108
              · refine lv_iload_n hx hb dX7_as_99 rfl (lv_at hl 1 rfl) ?_
                refine lv_goto (tgt := 108) hx hb dX7_as_100 (by decide) ?_
                exact g_iretM C hr hlk rfl (by rw [m_as, if_neg c1, if_neg c2, if_neg c3, if_neg c4, if_neg c5, if_neg c6, if_pos c7]) hP hS dX7_as_108
      · refine lv_aload_n hx hb dX7_as_42 rfl (lv_at hl 0 rfl) ?_
        refine lv_iconst (v := 5) hx hb dX7_as_43 (by decide) ?_
        refine g_wrI0 hS (g_runV (As := [.int 5]) (rest := []) ky_yX7_finds lk_RX7_128 C hX (gS_b0 hI hS) hP 0 (c_yX7_finds l G ad hI σ 5 (by decide)) (by decide) (shM_0 G ad _) ⟨rfl, rfl, by decide, by decide⟩ rfl hl.1 rfl (Nat.le_of_ble_eq_true rfl) ⟨Nat.zero_le _, Nat.zero_le _⟩ dX7_as_44) (fun H locs hP hS => ?_)
        exact g_iretM C hr hlk rfl (by rw [m_as, if_neg c1, if_neg c2, if_pos c3]) hP hS dX7_as_47
    · refine lv_aload_n hx hb dX7_as_24 rfl (lv_at hl 0 rfl) ?_
      refine lv_iconst (v := 0) hx hb dX7_as_25 (by decide) ?_
      refine g_wrI0 hS (g_runV (As := [.int 0]) (rest := []) ky_yX7_finds lk_RX7_128 C hX (gS_b0 hI hS) hP 0 (c_yX7_finds l G ad hI σ 0 (by decide)) (by decide) (shM_0 G ad _) ⟨rfl, rfl, by decide, by decide⟩ rfl hl.1 rfl (Nat.le_of_ble_eq_true rfl) ⟨Nat.zero_le _, Nat.zero_le _⟩ dX7_as_26) (fun H locs hP hS => ?_)
      exact g_iretM C hr hlk rfl (by rw [m_as, if_neg c1, if_pos c2]) hP hS dX7_as_29

def m_sheet_L83 (σ : gM) (sn : Int32) (bits : Int32) (size : Int32) : Nat → Nat → gM → Int32 × gM
  | 0, i, τ => ((τ 8 (nN sn)), τ)
  | n83 + 1, i, τ => (m_sheet_L83 σ sn bits size n83 (i + 1) (mset τ 9 (40 * nN sn + i) 0))
def m_sheet (σ : gM) (sn : Int32) (bits : Int32) (size : Int32) : Int32 × gM := if (m_isSheet sn) = 0 then ((m_finds σ 0).1, (m_finds σ 0).2) else (if bits = 0 then (if 0 ≤ size then (if size ≤ 40 then (if bits = 0 then (m_sheet_L83 σ sn bits size 40 0 ((mset (mset σ 7 (nN sn) bits) 8 (nN sn) 0))) else (m_sheet_L83 σ sn bits size 40 0 ((mset (mset σ 7 (nN sn) bits) 8 (nN sn) size)))) else ((m_finds σ 0).1, (m_finds σ 0).2)) else ((m_finds σ 6).1, (m_finds σ 6).2)) else (if bits = 8 then (if 0 ≤ size then (if size ≤ 40 then (if bits = 0 then (m_sheet_L83 σ sn bits size 40 0 ((mset (mset σ 7 (nN sn) bits) 8 (nN sn) 0))) else (m_sheet_L83 σ sn bits size 40 0 ((mset (mset σ 7 (nN sn) bits) 8 (nN sn) size)))) else ((m_finds σ 0).1, (m_finds σ 0).2)) else ((m_finds σ 6).1, (m_finds σ 6).2)) else (if bits = 16 then (if 0 ≤ size then (if size ≤ 40 then (if bits = 0 then (m_sheet_L83 σ sn bits size 40 0 ((mset (mset σ 7 (nN sn) bits) 8 (nN sn) 0))) else (m_sheet_L83 σ sn bits size 40 0 ((mset (mset σ 7 (nN sn) bits) 8 (nN sn) size)))) else ((m_finds σ 0).1, (m_finds σ 0).2)) else ((m_finds σ 6).1, (m_finds σ 6).2)) else (if bits = 32 then (if 0 ≤ size then (if size ≤ 40 then (if bits = 0 then (m_sheet_L83 σ sn bits size 40 0 ((mset (mset σ 7 (nN sn) bits) 8 (nN sn) 0))) else (m_sheet_L83 σ sn bits size 40 0 ((mset (mset σ 7 (nN sn) bits) 8 (nN sn) size)))) else ((m_finds σ 0).1, (m_finds σ 0).2)) else ((m_finds σ 6).1, (m_finds σ 6).2)) else ((m_finds σ 0).1, (m_finds σ 0).2)))))
def rm_yX7_sheet : Room := { frames := 2, cells := 0, slots := 0, locals := 45 }
set_option maxHeartbeats 4000000 in
set_option maxRecDepth 100000 in
theorem c_yX7_sheet (l : Launch) (G : gG) (ad : Nat → Nat) (hI : gI G.2.2.1 11 ad) (σ : gM) (sn : Int32) (bits : Int32) (size : Int32) : gMutI l yX7_sheet cX7_sheet 5 (some .int) rm_yX7_sheet G [.ref (ad 0), .int sn, .int bits, .int size] 11 ad (shM G ad) σ (m_sheet σ sn bits size) := by
  refine g_start [.ref (ad 0), .int sn, .int bits, .int size] (by decide +kernel) (Nat.le_of_ble_eq_true rfl) ?_
  intro p e s m below meth c ls B Z hl
  obtain ⟨C, hr, hlk⟩ := B
  have hx := C.1
  have hb := C.2.1
  obtain ⟨hX, hP⟩ := Z
  have hS : va_S (gA 11 ad) s.heap s.heap [] := va_S.rf
  revert hP hS
  intro hP hS
  have hl : lv_has ls 5 [(0, .ref (ad 0)), (1, .int sn), (2, .int bits), (3, .int size)] := hl
  refine lv_iload_n hx hb dX7_sheet_0 rfl (lv_at hl 1 rfl) ?_
  refine g_rd (g_runS (As := [.int sn]) (rest := []) ky_yX7_isSheet lk_RX7_309 C (c_yX7_isSheet l sn) ⟨rfl, rfl, by decide, by decide⟩ rfl hl.1 rfl (Nat.le_of_ble_eq_true rfl) ⟨Nat.zero_le _, Nat.zero_le _⟩ dX7_sheet_1) ?_
  refine lv_if_eq (tgt := 29) hx hb dX7_sheet_4 (by decide) (fun c1 => ?_) (fun c1 => ?_)
  · refine lv_aload_n hx hb dX7_sheet_29 rfl (lv_at hl 0 rfl) ?_
    refine lv_iconst (v := 0) hx hb dX7_sheet_30 (by decide) ?_
    refine g_wrI0 hS (g_runV (As := [.int 0]) (rest := []) ky_yX7_finds lk_RX7_128 C hX (gS_b0 hI hS) hP 0 (c_yX7_finds l G ad hI σ 0 (by decide)) (by decide) (shM_0 G ad _) ⟨rfl, rfl, by decide, by decide⟩ rfl hl.1 rfl (Nat.le_of_ble_eq_true rfl) ⟨Nat.zero_le _, Nat.zero_le _⟩ dX7_sheet_31) (fun H locs hP hS => ?_)
    exact g_iretM C hr hlk rfl (by rw [m_sheet, if_pos c1]) hP hS dX7_sheet_34
  · obtain ⟨hh1, hh2⟩ := in_nat (M := 4) (by decide) (by decide) c1
    refine lv_iload_n hx hb dX7_sheet_7 rfl (lv_at hl 2 rfl) ?_
    refine lv_if_eq (tgt := 35) hx hb dX7_sheet_8 (by decide) (fun c2 => ?_) (fun c2 => ?_)
    · refine lv_iload_n hx hb dX7_sheet_35 rfl (lv_at hl 3 rfl) ?_
      refine lv_if_ge (tgt := 46) hx hb dX7_sheet_36 (by decide) (fun c3 => ?_) (fun c3 => ?_)
      · refine lv_iload_n hx hb dX7_sheet_46 rfl (lv_at hl 3 rfl) ?_
        refine lv_bipush (v := 40) hx hb dX7_sheet_47 (by decide) ?_
        refine lv_icmp_le (tgt := 58) hx hb dX7_sheet_49 (by decide) (fun c4 => ?_) (fun c4 => ?_)
        · refine lv_aload_n hx hb dX7_sheet_58 rfl (lv_at hl 0 rfl) ?_
          refine g_get fd_RX7_29 C hX hP 0 (by decide) (shM_0 G ad _) (v := .ref (ad 7)) rfl dX7_sheet_59 ?_
          refine lv_iload_n hx hb dX7_sheet_62 rfl (lv_at hl 1 rfl) ?_
          refine lv_as (y := (nI (nN sn))) hh1 ?_
          refine lv_iload_n hx hb dX7_sheet_63 rfl (lv_at hl 2 rfl) ?_
          refine g_iast C hX hI hP hS 7 (by decide) (shM_7 G ad _) (nN sn) (by omega) (by decide) (upd (σ 7) (nN sn) bits) rfl dX7_sheet_64 (fun H locs hP hS => ?_)
          have hP : gP G.1 11 ad (gE (shM G ad) (mset σ 7 (nN sn) bits)) H := hP
          refine lv_aload_n hx hb dX7_sheet_65 rfl (lv_at hl 0 rfl) ?_
          refine g_get fd_RX7_32 C hX hP 0 (by decide) (shM_0 G ad _) (v := .ref (ad 8)) rfl dX7_sheet_66 ?_
          refine lv_iload_n hx hb dX7_sheet_69 rfl (lv_at hl 1 rfl) ?_
          refine lv_as (y := (nI (nN sn))) hh1 ?_
          refine lv_iload_n hx hb dX7_sheet_70 rfl (lv_at hl 2 rfl) ?_
          refine lv_if_ne (tgt := 78) hx hb dX7_sheet_71 (by decide) (fun c5 => ?_) (fun c5 => ?_)
          · refine lv_iload_n hx hb dX7_sheet_78 rfl (lv_at hl 3 rfl) ?_
            refine g_iast C hX hI hP hS 8 (by decide) (shM_8 G ad _) (nN sn) (by omega) (by decide) (upd ((mset σ 7 (nN sn) bits) 8) (nN sn) size) rfl dX7_sheet_79 (fun H locs hP hS => ?_)
            have hP : gP G.1 11 ad (gE (shM G ad) (mset (mset σ 7 (nN sn) bits) 8 (nN sn) size)) H := hP
            refine lv_iconst (v := 0) hx hb dX7_sheet_80 (by decide) ?_
            refine lv_istore (lv' := [(4, .int 0), (0, .ref (ad 0)), (1, .int sn), (2, .int bits), (3, .int size)]) hx hb dX7_sheet_81 hl (by decide) rfl (fun ls hl => ?_)
            suffices loop83 : ∀ (n83 : Nat) (i : Nat) (τ : gM) (H : Heap) (locs : List Loc) (ls : Array Slot), (i + n83 = 40) → m_sheet σ sn bits size = (m_sheet_L83 σ sn bits size n83 i τ) → gP G.1 11 ad (gE (shM G ad) τ) H → va_S (gA 11 ad) s.heap H locs → lv_has ls 5 [(4, .int (nI i)), (0, .ref (ad 0)), (1, .int sn), (2, .int bits), (3, .int size)] → W p l e rm_yX7_sheet s m ([.ref (ad 0), .int sn, .int bits, .int size] : List Value).toArray below meth c H locs 0 0 (MQ below (va_Qi (fun (x : Int32) (τ : gM) => m_sheet σ sn bits size = (x, τ)) (fun τ t => gP G.1 11 ad (gE (shM G ad) τ) t.heap) (gA 11 ad)) ([.ref (ad 0), .int sn, .int bits, .int size] : List Value).toArray s 0 0 (gA 11 ad)) (F0 m 83 ls []) by
              exact loop83 40 0 ((mset (mset σ 7 (nN sn) bits) 8 (nN sn) size)) _ _ _ (by omega) (by rw [m_sheet, if_neg c1, if_pos c2, if_pos c3, if_pos c4, if_neg c5]) hP hS (lv_sub hl [0, 1, 2, 3, 4] rfl)
            intro n83
            induction n83 with
            | zero =>
              intro i τ H locs ls hi83 hres83 hP hS hl
              refine lv_iload hx hb dX7_sheet_83 (lv_at hl 0 rfl) ?_
              refine lv_bipush (v := 40) hx hb dX7_sheet_85 (by decide) ?_
              refine lv_icmp_ge (tgt := 109) hx hb dX7_sheet_87 (by decide) (fun c6 => ?_) (fun c6 => ?_)
              · refine lv_aload_n hx hb dX7_sheet_109 rfl (lv_at hl 1 rfl) ?_
                refine g_get fd_RX7_32 C hX hP 0 (by decide) (shM_0 G ad _) (v := .ref (ad 8)) rfl dX7_sheet_110 ?_
                refine lv_iload_n hx hb dX7_sheet_113 rfl (lv_at hl 2 rfl) ?_
                refine lv_as (y := (nI (nN sn))) hh1 ?_
                refine g_iald C hX hP 8 (by decide) (shM_8 G ad _) (nN sn) (by omega) (by decide) dX7_sheet_114 ?_
                exact g_iretM C hr hlk rfl (by rw [hres83, m_sheet_L83]) hP hS dX7_sheet_115
              · exact absurd (show nI (40) ≤ nI i from nI_le (by omega) (by omega)) c6
            | succ n83 ih83 =>
              intro i τ H locs ls hi83 hres83 hP hS hl
              refine lv_iload hx hb dX7_sheet_83 (lv_at hl 0 rfl) ?_
              refine lv_bipush (v := 40) hx hb dX7_sheet_85 (by decide) ?_
              refine lv_icmp_ge (tgt := 109) hx hb dX7_sheet_87 (by decide) (fun c7 => ?_) (fun c7 => ?_)
              · exact absurd (show nI (40) ≤ nI i from c7) (nI_ge (by omega) (by omega))
              · refine lv_aload_n hx hb dX7_sheet_90 rfl (lv_at hl 1 rfl) ?_
                refine g_get fd_RX7_35 C hX hP 0 (by decide) (shM_0 G ad _) (v := .ref (ad 9)) rfl dX7_sheet_91 ?_
                refine lv_bipush (v := 40) hx hb dX7_sheet_94 (by decide) ?_
                refine lv_iload_n hx hb dX7_sheet_96 rfl (lv_at hl 2 rfl) ?_
                refine lv_imul hx hb dX7_sheet_97 ?_
                refine lv_iload hx hb dX7_sheet_98 (lv_at hl 0 rfl) ?_
                refine lv_iadd hx hb dX7_sheet_100 ?_
                refine lv_as (y := (nI (40 * nN sn + i))) ((congrArg (fun z => 40 * z + nI i) hh1).trans (ix_40 _ _)) ?_
                refine lv_iconst (v := 0) hx hb dX7_sheet_101 (by decide) ?_
                refine g_iast C hX hI hP hS 9 (by decide) (shM_9 G ad _) (40 * nN sn + i) (by omega) (by decide) (upd (τ 9) (40 * nN sn + i) 0) rfl dX7_sheet_102 (fun H locs hP hS => ?_)
                have hP : gP G.1 11 ad (gE (shM G ad) (mset τ 9 (40 * nN sn + i) 0)) H := hP
                refine lv_iinc (v := (nI (i + 1))) (lv' := [(4, .int (nI (i + 1))), (0, .ref (ad 0)), (1, .int sn), (2, .int bits), (3, .int size)]) hx hb dX7_sheet_103 hl (k := 0) rfl (by exact nI_1 _) (by decide) rfl (fun ls hl => ?_)
                refine lv_goto (tgt := 83) hx hb dX7_sheet_106 (by decide) ?_
                exact ih83 (i + 1) (mset τ 9 (40 * nN sn + i) 0) _ _ _ (by omega) (by rw [hres83, m_sheet_L83]) hP hS (lv_sub hl [0, 1, 2, 3, 4] rfl)
          · refine lv_iconst (v := 0) hx hb dX7_sheet_74 (by decide) ?_
            refine lv_goto (tgt := 79) hx hb dX7_sheet_75 (by decide) ?_
            refine g_iast C hX hI hP hS 8 (by decide) (shM_8 G ad _) (nN sn) (by omega) (by decide) (upd ((mset σ 7 (nN sn) bits) 8) (nN sn) 0) rfl dX7_sheet_79 (fun H locs hP hS => ?_)
            have hP : gP G.1 11 ad (gE (shM G ad) (mset (mset σ 7 (nN sn) bits) 8 (nN sn) 0)) H := hP
            refine lv_iconst (v := 0) hx hb dX7_sheet_80 (by decide) ?_
            refine lv_istore (lv' := [(4, .int 0), (0, .ref (ad 0)), (1, .int sn), (2, .int bits), (3, .int size)]) hx hb dX7_sheet_81 hl (by decide) rfl (fun ls hl => ?_)
            suffices loop83 : ∀ (n83 : Nat) (i : Nat) (τ : gM) (H : Heap) (locs : List Loc) (ls : Array Slot), (i + n83 = 40) → m_sheet σ sn bits size = (m_sheet_L83 σ sn bits size n83 i τ) → gP G.1 11 ad (gE (shM G ad) τ) H → va_S (gA 11 ad) s.heap H locs → lv_has ls 5 [(4, .int (nI i)), (0, .ref (ad 0)), (1, .int sn), (2, .int bits), (3, .int size)] → W p l e rm_yX7_sheet s m ([.ref (ad 0), .int sn, .int bits, .int size] : List Value).toArray below meth c H locs 0 0 (MQ below (va_Qi (fun (x : Int32) (τ : gM) => m_sheet σ sn bits size = (x, τ)) (fun τ t => gP G.1 11 ad (gE (shM G ad) τ) t.heap) (gA 11 ad)) ([.ref (ad 0), .int sn, .int bits, .int size] : List Value).toArray s 0 0 (gA 11 ad)) (F0 m 83 ls []) by
              exact loop83 40 0 ((mset (mset σ 7 (nN sn) bits) 8 (nN sn) 0)) _ _ _ (by omega) (by rw [m_sheet, if_neg c1, if_pos c2, if_pos c3, if_pos c4, if_pos c5]) hP hS (lv_sub hl [0, 1, 2, 3, 4] rfl)
            intro n83
            induction n83 with
            | zero =>
              intro i τ H locs ls hi83 hres83 hP hS hl
              refine lv_iload hx hb dX7_sheet_83 (lv_at hl 0 rfl) ?_
              refine lv_bipush (v := 40) hx hb dX7_sheet_85 (by decide) ?_
              refine lv_icmp_ge (tgt := 109) hx hb dX7_sheet_87 (by decide) (fun c8 => ?_) (fun c8 => ?_)
              · refine lv_aload_n hx hb dX7_sheet_109 rfl (lv_at hl 1 rfl) ?_
                refine g_get fd_RX7_32 C hX hP 0 (by decide) (shM_0 G ad _) (v := .ref (ad 8)) rfl dX7_sheet_110 ?_
                refine lv_iload_n hx hb dX7_sheet_113 rfl (lv_at hl 2 rfl) ?_
                refine lv_as (y := (nI (nN sn))) hh1 ?_
                refine g_iald C hX hP 8 (by decide) (shM_8 G ad _) (nN sn) (by omega) (by decide) dX7_sheet_114 ?_
                exact g_iretM C hr hlk rfl (by rw [hres83, m_sheet_L83]) hP hS dX7_sheet_115
              · exact absurd (show nI (40) ≤ nI i from nI_le (by omega) (by omega)) c8
            | succ n83 ih83 =>
              intro i τ H locs ls hi83 hres83 hP hS hl
              refine lv_iload hx hb dX7_sheet_83 (lv_at hl 0 rfl) ?_
              refine lv_bipush (v := 40) hx hb dX7_sheet_85 (by decide) ?_
              refine lv_icmp_ge (tgt := 109) hx hb dX7_sheet_87 (by decide) (fun c9 => ?_) (fun c9 => ?_)
              · exact absurd (show nI (40) ≤ nI i from c9) (nI_ge (by omega) (by omega))
              · refine lv_aload_n hx hb dX7_sheet_90 rfl (lv_at hl 1 rfl) ?_
                refine g_get fd_RX7_35 C hX hP 0 (by decide) (shM_0 G ad _) (v := .ref (ad 9)) rfl dX7_sheet_91 ?_
                refine lv_bipush (v := 40) hx hb dX7_sheet_94 (by decide) ?_
                refine lv_iload_n hx hb dX7_sheet_96 rfl (lv_at hl 2 rfl) ?_
                refine lv_imul hx hb dX7_sheet_97 ?_
                refine lv_iload hx hb dX7_sheet_98 (lv_at hl 0 rfl) ?_
                refine lv_iadd hx hb dX7_sheet_100 ?_
                refine lv_as (y := (nI (40 * nN sn + i))) ((congrArg (fun z => 40 * z + nI i) hh1).trans (ix_40 _ _)) ?_
                refine lv_iconst (v := 0) hx hb dX7_sheet_101 (by decide) ?_
                refine g_iast C hX hI hP hS 9 (by decide) (shM_9 G ad _) (40 * nN sn + i) (by omega) (by decide) (upd (τ 9) (40 * nN sn + i) 0) rfl dX7_sheet_102 (fun H locs hP hS => ?_)
                have hP : gP G.1 11 ad (gE (shM G ad) (mset τ 9 (40 * nN sn + i) 0)) H := hP
                refine lv_iinc (v := (nI (i + 1))) (lv' := [(4, .int (nI (i + 1))), (0, .ref (ad 0)), (1, .int sn), (2, .int bits), (3, .int size)]) hx hb dX7_sheet_103 hl (k := 0) rfl (by exact nI_1 _) (by decide) rfl (fun ls hl => ?_)
                refine lv_goto (tgt := 83) hx hb dX7_sheet_106 (by decide) ?_
                exact ih83 (i + 1) (mset τ 9 (40 * nN sn + i) 0) _ _ _ (by omega) (by rw [hres83, m_sheet_L83]) hP hS (lv_sub hl [0, 1, 2, 3, 4] rfl)
        · refine lv_aload_n hx hb dX7_sheet_52 rfl (lv_at hl 0 rfl) ?_
          refine lv_iconst (v := 0) hx hb dX7_sheet_53 (by decide) ?_
          refine g_wrI0 hS (g_runV (As := [.int 0]) (rest := []) ky_yX7_finds lk_RX7_128 C hX (gS_b0 hI hS) hP 0 (c_yX7_finds l G ad hI σ 0 (by decide)) (by decide) (shM_0 G ad _) ⟨rfl, rfl, by decide, by decide⟩ rfl hl.1 rfl (Nat.le_of_ble_eq_true rfl) ⟨Nat.zero_le _, Nat.zero_le _⟩ dX7_sheet_54) (fun H locs hP hS => ?_)
          exact g_iretM C hr hlk rfl (by rw [m_sheet, if_neg c1, if_pos c2, if_pos c3, if_neg c4]) hP hS dX7_sheet_57
      · refine lv_aload_n hx hb dX7_sheet_39 rfl (lv_at hl 0 rfl) ?_
        refine lv_bipush (v := 6) hx hb dX7_sheet_40 (by decide) ?_
        refine g_wrI0 hS (g_runV (As := [.int 6]) (rest := []) ky_yX7_finds lk_RX7_128 C hX (gS_b0 hI hS) hP 0 (c_yX7_finds l G ad hI σ 6 (by decide)) (by decide) (shM_0 G ad _) ⟨rfl, rfl, by decide, by decide⟩ rfl hl.1 rfl (Nat.le_of_ble_eq_true rfl) ⟨Nat.zero_le _, Nat.zero_le _⟩ dX7_sheet_42) (fun H locs hP hS => ?_)
        exact g_iretM C hr hlk rfl (by rw [m_sheet, if_neg c1, if_pos c2, if_neg c3]) hP hS dX7_sheet_45
    · refine lv_iload_n hx hb dX7_sheet_11 rfl (lv_at hl 2 rfl) ?_
      refine lv_bipush (v := 8) hx hb dX7_sheet_12 (by decide) ?_
      refine lv_icmp_eq (tgt := 35) hx hb dX7_sheet_14 (by decide) (fun c10 => ?_) (fun c10 => ?_)
      · refine lv_iload_n hx hb dX7_sheet_35 rfl (lv_at hl 3 rfl) ?_
        refine lv_if_ge (tgt := 46) hx hb dX7_sheet_36 (by decide) (fun c11 => ?_) (fun c11 => ?_)
        · refine lv_iload_n hx hb dX7_sheet_46 rfl (lv_at hl 3 rfl) ?_
          refine lv_bipush (v := 40) hx hb dX7_sheet_47 (by decide) ?_
          refine lv_icmp_le (tgt := 58) hx hb dX7_sheet_49 (by decide) (fun c12 => ?_) (fun c12 => ?_)
          · refine lv_aload_n hx hb dX7_sheet_58 rfl (lv_at hl 0 rfl) ?_
            refine g_get fd_RX7_29 C hX hP 0 (by decide) (shM_0 G ad _) (v := .ref (ad 7)) rfl dX7_sheet_59 ?_
            refine lv_iload_n hx hb dX7_sheet_62 rfl (lv_at hl 1 rfl) ?_
            refine lv_as (y := (nI (nN sn))) hh1 ?_
            refine lv_iload_n hx hb dX7_sheet_63 rfl (lv_at hl 2 rfl) ?_
            refine g_iast C hX hI hP hS 7 (by decide) (shM_7 G ad _) (nN sn) (by omega) (by decide) (upd (σ 7) (nN sn) bits) rfl dX7_sheet_64 (fun H locs hP hS => ?_)
            have hP : gP G.1 11 ad (gE (shM G ad) (mset σ 7 (nN sn) bits)) H := hP
            refine lv_aload_n hx hb dX7_sheet_65 rfl (lv_at hl 0 rfl) ?_
            refine g_get fd_RX7_32 C hX hP 0 (by decide) (shM_0 G ad _) (v := .ref (ad 8)) rfl dX7_sheet_66 ?_
            refine lv_iload_n hx hb dX7_sheet_69 rfl (lv_at hl 1 rfl) ?_
            refine lv_as (y := (nI (nN sn))) hh1 ?_
            refine lv_iload_n hx hb dX7_sheet_70 rfl (lv_at hl 2 rfl) ?_
            refine lv_if_ne (tgt := 78) hx hb dX7_sheet_71 (by decide) (fun c13 => ?_) (fun c13 => ?_)
            · refine lv_iload_n hx hb dX7_sheet_78 rfl (lv_at hl 3 rfl) ?_
              refine g_iast C hX hI hP hS 8 (by decide) (shM_8 G ad _) (nN sn) (by omega) (by decide) (upd ((mset σ 7 (nN sn) bits) 8) (nN sn) size) rfl dX7_sheet_79 (fun H locs hP hS => ?_)
              have hP : gP G.1 11 ad (gE (shM G ad) (mset (mset σ 7 (nN sn) bits) 8 (nN sn) size)) H := hP
              refine lv_iconst (v := 0) hx hb dX7_sheet_80 (by decide) ?_
              refine lv_istore (lv' := [(4, .int 0), (0, .ref (ad 0)), (1, .int sn), (2, .int bits), (3, .int size)]) hx hb dX7_sheet_81 hl (by decide) rfl (fun ls hl => ?_)
              suffices loop83 : ∀ (n83 : Nat) (i : Nat) (τ : gM) (H : Heap) (locs : List Loc) (ls : Array Slot), (i + n83 = 40) → m_sheet σ sn bits size = (m_sheet_L83 σ sn bits size n83 i τ) → gP G.1 11 ad (gE (shM G ad) τ) H → va_S (gA 11 ad) s.heap H locs → lv_has ls 5 [(4, .int (nI i)), (0, .ref (ad 0)), (1, .int sn), (2, .int bits), (3, .int size)] → W p l e rm_yX7_sheet s m ([.ref (ad 0), .int sn, .int bits, .int size] : List Value).toArray below meth c H locs 0 0 (MQ below (va_Qi (fun (x : Int32) (τ : gM) => m_sheet σ sn bits size = (x, τ)) (fun τ t => gP G.1 11 ad (gE (shM G ad) τ) t.heap) (gA 11 ad)) ([.ref (ad 0), .int sn, .int bits, .int size] : List Value).toArray s 0 0 (gA 11 ad)) (F0 m 83 ls []) by
                exact loop83 40 0 ((mset (mset σ 7 (nN sn) bits) 8 (nN sn) size)) _ _ _ (by omega) (by rw [m_sheet, if_neg c1, if_neg c2, if_pos c10, if_pos c11, if_pos c12, if_neg c13]) hP hS (lv_sub hl [0, 1, 2, 3, 4] rfl)
              intro n83
              induction n83 with
              | zero =>
                intro i τ H locs ls hi83 hres83 hP hS hl
                refine lv_iload hx hb dX7_sheet_83 (lv_at hl 0 rfl) ?_
                refine lv_bipush (v := 40) hx hb dX7_sheet_85 (by decide) ?_
                refine lv_icmp_ge (tgt := 109) hx hb dX7_sheet_87 (by decide) (fun c14 => ?_) (fun c14 => ?_)
                · refine lv_aload_n hx hb dX7_sheet_109 rfl (lv_at hl 1 rfl) ?_
                  refine g_get fd_RX7_32 C hX hP 0 (by decide) (shM_0 G ad _) (v := .ref (ad 8)) rfl dX7_sheet_110 ?_
                  refine lv_iload_n hx hb dX7_sheet_113 rfl (lv_at hl 2 rfl) ?_
                  refine lv_as (y := (nI (nN sn))) hh1 ?_
                  refine g_iald C hX hP 8 (by decide) (shM_8 G ad _) (nN sn) (by omega) (by decide) dX7_sheet_114 ?_
                  exact g_iretM C hr hlk rfl (by rw [hres83, m_sheet_L83]) hP hS dX7_sheet_115
                · exact absurd (show nI (40) ≤ nI i from nI_le (by omega) (by omega)) c14
              | succ n83 ih83 =>
                intro i τ H locs ls hi83 hres83 hP hS hl
                refine lv_iload hx hb dX7_sheet_83 (lv_at hl 0 rfl) ?_
                refine lv_bipush (v := 40) hx hb dX7_sheet_85 (by decide) ?_
                refine lv_icmp_ge (tgt := 109) hx hb dX7_sheet_87 (by decide) (fun c15 => ?_) (fun c15 => ?_)
                · exact absurd (show nI (40) ≤ nI i from c15) (nI_ge (by omega) (by omega))
                · refine lv_aload_n hx hb dX7_sheet_90 rfl (lv_at hl 1 rfl) ?_
                  refine g_get fd_RX7_35 C hX hP 0 (by decide) (shM_0 G ad _) (v := .ref (ad 9)) rfl dX7_sheet_91 ?_
                  refine lv_bipush (v := 40) hx hb dX7_sheet_94 (by decide) ?_
                  refine lv_iload_n hx hb dX7_sheet_96 rfl (lv_at hl 2 rfl) ?_
                  refine lv_imul hx hb dX7_sheet_97 ?_
                  refine lv_iload hx hb dX7_sheet_98 (lv_at hl 0 rfl) ?_
                  refine lv_iadd hx hb dX7_sheet_100 ?_
                  refine lv_as (y := (nI (40 * nN sn + i))) ((congrArg (fun z => 40 * z + nI i) hh1).trans (ix_40 _ _)) ?_
                  refine lv_iconst (v := 0) hx hb dX7_sheet_101 (by decide) ?_
                  refine g_iast C hX hI hP hS 9 (by decide) (shM_9 G ad _) (40 * nN sn + i) (by omega) (by decide) (upd (τ 9) (40 * nN sn + i) 0) rfl dX7_sheet_102 (fun H locs hP hS => ?_)
                  have hP : gP G.1 11 ad (gE (shM G ad) (mset τ 9 (40 * nN sn + i) 0)) H := hP
                  refine lv_iinc (v := (nI (i + 1))) (lv' := [(4, .int (nI (i + 1))), (0, .ref (ad 0)), (1, .int sn), (2, .int bits), (3, .int size)]) hx hb dX7_sheet_103 hl (k := 0) rfl (by exact nI_1 _) (by decide) rfl (fun ls hl => ?_)
                  refine lv_goto (tgt := 83) hx hb dX7_sheet_106 (by decide) ?_
                  exact ih83 (i + 1) (mset τ 9 (40 * nN sn + i) 0) _ _ _ (by omega) (by rw [hres83, m_sheet_L83]) hP hS (lv_sub hl [0, 1, 2, 3, 4] rfl)
            · refine lv_iconst (v := 0) hx hb dX7_sheet_74 (by decide) ?_
              refine lv_goto (tgt := 79) hx hb dX7_sheet_75 (by decide) ?_
              refine g_iast C hX hI hP hS 8 (by decide) (shM_8 G ad _) (nN sn) (by omega) (by decide) (upd ((mset σ 7 (nN sn) bits) 8) (nN sn) 0) rfl dX7_sheet_79 (fun H locs hP hS => ?_)
              have hP : gP G.1 11 ad (gE (shM G ad) (mset (mset σ 7 (nN sn) bits) 8 (nN sn) 0)) H := hP
              refine lv_iconst (v := 0) hx hb dX7_sheet_80 (by decide) ?_
              refine lv_istore (lv' := [(4, .int 0), (0, .ref (ad 0)), (1, .int sn), (2, .int bits), (3, .int size)]) hx hb dX7_sheet_81 hl (by decide) rfl (fun ls hl => ?_)
              suffices loop83 : ∀ (n83 : Nat) (i : Nat) (τ : gM) (H : Heap) (locs : List Loc) (ls : Array Slot), (i + n83 = 40) → m_sheet σ sn bits size = (m_sheet_L83 σ sn bits size n83 i τ) → gP G.1 11 ad (gE (shM G ad) τ) H → va_S (gA 11 ad) s.heap H locs → lv_has ls 5 [(4, .int (nI i)), (0, .ref (ad 0)), (1, .int sn), (2, .int bits), (3, .int size)] → W p l e rm_yX7_sheet s m ([.ref (ad 0), .int sn, .int bits, .int size] : List Value).toArray below meth c H locs 0 0 (MQ below (va_Qi (fun (x : Int32) (τ : gM) => m_sheet σ sn bits size = (x, τ)) (fun τ t => gP G.1 11 ad (gE (shM G ad) τ) t.heap) (gA 11 ad)) ([.ref (ad 0), .int sn, .int bits, .int size] : List Value).toArray s 0 0 (gA 11 ad)) (F0 m 83 ls []) by
                exact loop83 40 0 ((mset (mset σ 7 (nN sn) bits) 8 (nN sn) 0)) _ _ _ (by omega) (by rw [m_sheet, if_neg c1, if_neg c2, if_pos c10, if_pos c11, if_pos c12, if_pos c13]) hP hS (lv_sub hl [0, 1, 2, 3, 4] rfl)
              intro n83
              induction n83 with
              | zero =>
                intro i τ H locs ls hi83 hres83 hP hS hl
                refine lv_iload hx hb dX7_sheet_83 (lv_at hl 0 rfl) ?_
                refine lv_bipush (v := 40) hx hb dX7_sheet_85 (by decide) ?_
                refine lv_icmp_ge (tgt := 109) hx hb dX7_sheet_87 (by decide) (fun c16 => ?_) (fun c16 => ?_)
                · refine lv_aload_n hx hb dX7_sheet_109 rfl (lv_at hl 1 rfl) ?_
                  refine g_get fd_RX7_32 C hX hP 0 (by decide) (shM_0 G ad _) (v := .ref (ad 8)) rfl dX7_sheet_110 ?_
                  refine lv_iload_n hx hb dX7_sheet_113 rfl (lv_at hl 2 rfl) ?_
                  refine lv_as (y := (nI (nN sn))) hh1 ?_
                  refine g_iald C hX hP 8 (by decide) (shM_8 G ad _) (nN sn) (by omega) (by decide) dX7_sheet_114 ?_
                  exact g_iretM C hr hlk rfl (by rw [hres83, m_sheet_L83]) hP hS dX7_sheet_115
                · exact absurd (show nI (40) ≤ nI i from nI_le (by omega) (by omega)) c16
              | succ n83 ih83 =>
                intro i τ H locs ls hi83 hres83 hP hS hl
                refine lv_iload hx hb dX7_sheet_83 (lv_at hl 0 rfl) ?_
                refine lv_bipush (v := 40) hx hb dX7_sheet_85 (by decide) ?_
                refine lv_icmp_ge (tgt := 109) hx hb dX7_sheet_87 (by decide) (fun c17 => ?_) (fun c17 => ?_)
                · exact absurd (show nI (40) ≤ nI i from c17) (nI_ge (by omega) (by omega))
                · refine lv_aload_n hx hb dX7_sheet_90 rfl (lv_at hl 1 rfl) ?_
                  refine g_get fd_RX7_35 C hX hP 0 (by decide) (shM_0 G ad _) (v := .ref (ad 9)) rfl dX7_sheet_91 ?_
                  refine lv_bipush (v := 40) hx hb dX7_sheet_94 (by decide) ?_
                  refine lv_iload_n hx hb dX7_sheet_96 rfl (lv_at hl 2 rfl) ?_
                  refine lv_imul hx hb dX7_sheet_97 ?_
                  refine lv_iload hx hb dX7_sheet_98 (lv_at hl 0 rfl) ?_
                  refine lv_iadd hx hb dX7_sheet_100 ?_
                  refine lv_as (y := (nI (40 * nN sn + i))) ((congrArg (fun z => 40 * z + nI i) hh1).trans (ix_40 _ _)) ?_
                  refine lv_iconst (v := 0) hx hb dX7_sheet_101 (by decide) ?_
                  refine g_iast C hX hI hP hS 9 (by decide) (shM_9 G ad _) (40 * nN sn + i) (by omega) (by decide) (upd (τ 9) (40 * nN sn + i) 0) rfl dX7_sheet_102 (fun H locs hP hS => ?_)
                  have hP : gP G.1 11 ad (gE (shM G ad) (mset τ 9 (40 * nN sn + i) 0)) H := hP
                  refine lv_iinc (v := (nI (i + 1))) (lv' := [(4, .int (nI (i + 1))), (0, .ref (ad 0)), (1, .int sn), (2, .int bits), (3, .int size)]) hx hb dX7_sheet_103 hl (k := 0) rfl (by exact nI_1 _) (by decide) rfl (fun ls hl => ?_)
                  refine lv_goto (tgt := 83) hx hb dX7_sheet_106 (by decide) ?_
                  exact ih83 (i + 1) (mset τ 9 (40 * nN sn + i) 0) _ _ _ (by omega) (by rw [hres83, m_sheet_L83]) hP hS (lv_sub hl [0, 1, 2, 3, 4] rfl)
          · refine lv_aload_n hx hb dX7_sheet_52 rfl (lv_at hl 0 rfl) ?_
            refine lv_iconst (v := 0) hx hb dX7_sheet_53 (by decide) ?_
            refine g_wrI0 hS (g_runV (As := [.int 0]) (rest := []) ky_yX7_finds lk_RX7_128 C hX (gS_b0 hI hS) hP 0 (c_yX7_finds l G ad hI σ 0 (by decide)) (by decide) (shM_0 G ad _) ⟨rfl, rfl, by decide, by decide⟩ rfl hl.1 rfl (Nat.le_of_ble_eq_true rfl) ⟨Nat.zero_le _, Nat.zero_le _⟩ dX7_sheet_54) (fun H locs hP hS => ?_)
            exact g_iretM C hr hlk rfl (by rw [m_sheet, if_neg c1, if_neg c2, if_pos c10, if_pos c11, if_neg c12]) hP hS dX7_sheet_57
        · refine lv_aload_n hx hb dX7_sheet_39 rfl (lv_at hl 0 rfl) ?_
          refine lv_bipush (v := 6) hx hb dX7_sheet_40 (by decide) ?_
          refine g_wrI0 hS (g_runV (As := [.int 6]) (rest := []) ky_yX7_finds lk_RX7_128 C hX (gS_b0 hI hS) hP 0 (c_yX7_finds l G ad hI σ 6 (by decide)) (by decide) (shM_0 G ad _) ⟨rfl, rfl, by decide, by decide⟩ rfl hl.1 rfl (Nat.le_of_ble_eq_true rfl) ⟨Nat.zero_le _, Nat.zero_le _⟩ dX7_sheet_42) (fun H locs hP hS => ?_)
          exact g_iretM C hr hlk rfl (by rw [m_sheet, if_neg c1, if_neg c2, if_pos c10, if_neg c11]) hP hS dX7_sheet_45
      · refine lv_iload_n hx hb dX7_sheet_17 rfl (lv_at hl 2 rfl) ?_
        refine lv_bipush (v := 16) hx hb dX7_sheet_18 (by decide) ?_
        refine lv_icmp_eq (tgt := 35) hx hb dX7_sheet_20 (by decide) (fun c18 => ?_) (fun c18 => ?_)
        · refine lv_iload_n hx hb dX7_sheet_35 rfl (lv_at hl 3 rfl) ?_
          refine lv_if_ge (tgt := 46) hx hb dX7_sheet_36 (by decide) (fun c19 => ?_) (fun c19 => ?_)
          · refine lv_iload_n hx hb dX7_sheet_46 rfl (lv_at hl 3 rfl) ?_
            refine lv_bipush (v := 40) hx hb dX7_sheet_47 (by decide) ?_
            refine lv_icmp_le (tgt := 58) hx hb dX7_sheet_49 (by decide) (fun c20 => ?_) (fun c20 => ?_)
            · refine lv_aload_n hx hb dX7_sheet_58 rfl (lv_at hl 0 rfl) ?_
              refine g_get fd_RX7_29 C hX hP 0 (by decide) (shM_0 G ad _) (v := .ref (ad 7)) rfl dX7_sheet_59 ?_
              refine lv_iload_n hx hb dX7_sheet_62 rfl (lv_at hl 1 rfl) ?_
              refine lv_as (y := (nI (nN sn))) hh1 ?_
              refine lv_iload_n hx hb dX7_sheet_63 rfl (lv_at hl 2 rfl) ?_
              refine g_iast C hX hI hP hS 7 (by decide) (shM_7 G ad _) (nN sn) (by omega) (by decide) (upd (σ 7) (nN sn) bits) rfl dX7_sheet_64 (fun H locs hP hS => ?_)
              have hP : gP G.1 11 ad (gE (shM G ad) (mset σ 7 (nN sn) bits)) H := hP
              refine lv_aload_n hx hb dX7_sheet_65 rfl (lv_at hl 0 rfl) ?_
              refine g_get fd_RX7_32 C hX hP 0 (by decide) (shM_0 G ad _) (v := .ref (ad 8)) rfl dX7_sheet_66 ?_
              refine lv_iload_n hx hb dX7_sheet_69 rfl (lv_at hl 1 rfl) ?_
              refine lv_as (y := (nI (nN sn))) hh1 ?_
              refine lv_iload_n hx hb dX7_sheet_70 rfl (lv_at hl 2 rfl) ?_
              refine lv_if_ne (tgt := 78) hx hb dX7_sheet_71 (by decide) (fun c21 => ?_) (fun c21 => ?_)
              · refine lv_iload_n hx hb dX7_sheet_78 rfl (lv_at hl 3 rfl) ?_
                refine g_iast C hX hI hP hS 8 (by decide) (shM_8 G ad _) (nN sn) (by omega) (by decide) (upd ((mset σ 7 (nN sn) bits) 8) (nN sn) size) rfl dX7_sheet_79 (fun H locs hP hS => ?_)
                have hP : gP G.1 11 ad (gE (shM G ad) (mset (mset σ 7 (nN sn) bits) 8 (nN sn) size)) H := hP
                refine lv_iconst (v := 0) hx hb dX7_sheet_80 (by decide) ?_
                refine lv_istore (lv' := [(4, .int 0), (0, .ref (ad 0)), (1, .int sn), (2, .int bits), (3, .int size)]) hx hb dX7_sheet_81 hl (by decide) rfl (fun ls hl => ?_)
                suffices loop83 : ∀ (n83 : Nat) (i : Nat) (τ : gM) (H : Heap) (locs : List Loc) (ls : Array Slot), (i + n83 = 40) → m_sheet σ sn bits size = (m_sheet_L83 σ sn bits size n83 i τ) → gP G.1 11 ad (gE (shM G ad) τ) H → va_S (gA 11 ad) s.heap H locs → lv_has ls 5 [(4, .int (nI i)), (0, .ref (ad 0)), (1, .int sn), (2, .int bits), (3, .int size)] → W p l e rm_yX7_sheet s m ([.ref (ad 0), .int sn, .int bits, .int size] : List Value).toArray below meth c H locs 0 0 (MQ below (va_Qi (fun (x : Int32) (τ : gM) => m_sheet σ sn bits size = (x, τ)) (fun τ t => gP G.1 11 ad (gE (shM G ad) τ) t.heap) (gA 11 ad)) ([.ref (ad 0), .int sn, .int bits, .int size] : List Value).toArray s 0 0 (gA 11 ad)) (F0 m 83 ls []) by
                  exact loop83 40 0 ((mset (mset σ 7 (nN sn) bits) 8 (nN sn) size)) _ _ _ (by omega) (by rw [m_sheet, if_neg c1, if_neg c2, if_neg c10, if_pos c18, if_pos c19, if_pos c20, if_neg c21]) hP hS (lv_sub hl [0, 1, 2, 3, 4] rfl)
                intro n83
                induction n83 with
                | zero =>
                  intro i τ H locs ls hi83 hres83 hP hS hl
                  refine lv_iload hx hb dX7_sheet_83 (lv_at hl 0 rfl) ?_
                  refine lv_bipush (v := 40) hx hb dX7_sheet_85 (by decide) ?_
                  refine lv_icmp_ge (tgt := 109) hx hb dX7_sheet_87 (by decide) (fun c22 => ?_) (fun c22 => ?_)
                  · refine lv_aload_n hx hb dX7_sheet_109 rfl (lv_at hl 1 rfl) ?_
                    refine g_get fd_RX7_32 C hX hP 0 (by decide) (shM_0 G ad _) (v := .ref (ad 8)) rfl dX7_sheet_110 ?_
                    refine lv_iload_n hx hb dX7_sheet_113 rfl (lv_at hl 2 rfl) ?_
                    refine lv_as (y := (nI (nN sn))) hh1 ?_
                    refine g_iald C hX hP 8 (by decide) (shM_8 G ad _) (nN sn) (by omega) (by decide) dX7_sheet_114 ?_
                    exact g_iretM C hr hlk rfl (by rw [hres83, m_sheet_L83]) hP hS dX7_sheet_115
                  · exact absurd (show nI (40) ≤ nI i from nI_le (by omega) (by omega)) c22
                | succ n83 ih83 =>
                  intro i τ H locs ls hi83 hres83 hP hS hl
                  refine lv_iload hx hb dX7_sheet_83 (lv_at hl 0 rfl) ?_
                  refine lv_bipush (v := 40) hx hb dX7_sheet_85 (by decide) ?_
                  refine lv_icmp_ge (tgt := 109) hx hb dX7_sheet_87 (by decide) (fun c23 => ?_) (fun c23 => ?_)
                  · exact absurd (show nI (40) ≤ nI i from c23) (nI_ge (by omega) (by omega))
                  · refine lv_aload_n hx hb dX7_sheet_90 rfl (lv_at hl 1 rfl) ?_
                    refine g_get fd_RX7_35 C hX hP 0 (by decide) (shM_0 G ad _) (v := .ref (ad 9)) rfl dX7_sheet_91 ?_
                    refine lv_bipush (v := 40) hx hb dX7_sheet_94 (by decide) ?_
                    refine lv_iload_n hx hb dX7_sheet_96 rfl (lv_at hl 2 rfl) ?_
                    refine lv_imul hx hb dX7_sheet_97 ?_
                    refine lv_iload hx hb dX7_sheet_98 (lv_at hl 0 rfl) ?_
                    refine lv_iadd hx hb dX7_sheet_100 ?_
                    refine lv_as (y := (nI (40 * nN sn + i))) ((congrArg (fun z => 40 * z + nI i) hh1).trans (ix_40 _ _)) ?_
                    refine lv_iconst (v := 0) hx hb dX7_sheet_101 (by decide) ?_
                    refine g_iast C hX hI hP hS 9 (by decide) (shM_9 G ad _) (40 * nN sn + i) (by omega) (by decide) (upd (τ 9) (40 * nN sn + i) 0) rfl dX7_sheet_102 (fun H locs hP hS => ?_)
                    have hP : gP G.1 11 ad (gE (shM G ad) (mset τ 9 (40 * nN sn + i) 0)) H := hP
                    refine lv_iinc (v := (nI (i + 1))) (lv' := [(4, .int (nI (i + 1))), (0, .ref (ad 0)), (1, .int sn), (2, .int bits), (3, .int size)]) hx hb dX7_sheet_103 hl (k := 0) rfl (by exact nI_1 _) (by decide) rfl (fun ls hl => ?_)
                    refine lv_goto (tgt := 83) hx hb dX7_sheet_106 (by decide) ?_
                    exact ih83 (i + 1) (mset τ 9 (40 * nN sn + i) 0) _ _ _ (by omega) (by rw [hres83, m_sheet_L83]) hP hS (lv_sub hl [0, 1, 2, 3, 4] rfl)
              · refine lv_iconst (v := 0) hx hb dX7_sheet_74 (by decide) ?_
                refine lv_goto (tgt := 79) hx hb dX7_sheet_75 (by decide) ?_
                refine g_iast C hX hI hP hS 8 (by decide) (shM_8 G ad _) (nN sn) (by omega) (by decide) (upd ((mset σ 7 (nN sn) bits) 8) (nN sn) 0) rfl dX7_sheet_79 (fun H locs hP hS => ?_)
                have hP : gP G.1 11 ad (gE (shM G ad) (mset (mset σ 7 (nN sn) bits) 8 (nN sn) 0)) H := hP
                refine lv_iconst (v := 0) hx hb dX7_sheet_80 (by decide) ?_
                refine lv_istore (lv' := [(4, .int 0), (0, .ref (ad 0)), (1, .int sn), (2, .int bits), (3, .int size)]) hx hb dX7_sheet_81 hl (by decide) rfl (fun ls hl => ?_)
                suffices loop83 : ∀ (n83 : Nat) (i : Nat) (τ : gM) (H : Heap) (locs : List Loc) (ls : Array Slot), (i + n83 = 40) → m_sheet σ sn bits size = (m_sheet_L83 σ sn bits size n83 i τ) → gP G.1 11 ad (gE (shM G ad) τ) H → va_S (gA 11 ad) s.heap H locs → lv_has ls 5 [(4, .int (nI i)), (0, .ref (ad 0)), (1, .int sn), (2, .int bits), (3, .int size)] → W p l e rm_yX7_sheet s m ([.ref (ad 0), .int sn, .int bits, .int size] : List Value).toArray below meth c H locs 0 0 (MQ below (va_Qi (fun (x : Int32) (τ : gM) => m_sheet σ sn bits size = (x, τ)) (fun τ t => gP G.1 11 ad (gE (shM G ad) τ) t.heap) (gA 11 ad)) ([.ref (ad 0), .int sn, .int bits, .int size] : List Value).toArray s 0 0 (gA 11 ad)) (F0 m 83 ls []) by
                  exact loop83 40 0 ((mset (mset σ 7 (nN sn) bits) 8 (nN sn) 0)) _ _ _ (by omega) (by rw [m_sheet, if_neg c1, if_neg c2, if_neg c10, if_pos c18, if_pos c19, if_pos c20, if_pos c21]) hP hS (lv_sub hl [0, 1, 2, 3, 4] rfl)
                intro n83
                induction n83 with
                | zero =>
                  intro i τ H locs ls hi83 hres83 hP hS hl
                  refine lv_iload hx hb dX7_sheet_83 (lv_at hl 0 rfl) ?_
                  refine lv_bipush (v := 40) hx hb dX7_sheet_85 (by decide) ?_
                  refine lv_icmp_ge (tgt := 109) hx hb dX7_sheet_87 (by decide) (fun c24 => ?_) (fun c24 => ?_)
                  · refine lv_aload_n hx hb dX7_sheet_109 rfl (lv_at hl 1 rfl) ?_
                    refine g_get fd_RX7_32 C hX hP 0 (by decide) (shM_0 G ad _) (v := .ref (ad 8)) rfl dX7_sheet_110 ?_
                    refine lv_iload_n hx hb dX7_sheet_113 rfl (lv_at hl 2 rfl) ?_
                    refine lv_as (y := (nI (nN sn))) hh1 ?_
                    refine g_iald C hX hP 8 (by decide) (shM_8 G ad _) (nN sn) (by omega) (by decide) dX7_sheet_114 ?_
                    exact g_iretM C hr hlk rfl (by rw [hres83, m_sheet_L83]) hP hS dX7_sheet_115
                  · exact absurd (show nI (40) ≤ nI i from nI_le (by omega) (by omega)) c24
                | succ n83 ih83 =>
                  intro i τ H locs ls hi83 hres83 hP hS hl
                  refine lv_iload hx hb dX7_sheet_83 (lv_at hl 0 rfl) ?_
                  refine lv_bipush (v := 40) hx hb dX7_sheet_85 (by decide) ?_
                  refine lv_icmp_ge (tgt := 109) hx hb dX7_sheet_87 (by decide) (fun c25 => ?_) (fun c25 => ?_)
                  · exact absurd (show nI (40) ≤ nI i from c25) (nI_ge (by omega) (by omega))
                  · refine lv_aload_n hx hb dX7_sheet_90 rfl (lv_at hl 1 rfl) ?_
                    refine g_get fd_RX7_35 C hX hP 0 (by decide) (shM_0 G ad _) (v := .ref (ad 9)) rfl dX7_sheet_91 ?_
                    refine lv_bipush (v := 40) hx hb dX7_sheet_94 (by decide) ?_
                    refine lv_iload_n hx hb dX7_sheet_96 rfl (lv_at hl 2 rfl) ?_
                    refine lv_imul hx hb dX7_sheet_97 ?_
                    refine lv_iload hx hb dX7_sheet_98 (lv_at hl 0 rfl) ?_
                    refine lv_iadd hx hb dX7_sheet_100 ?_
                    refine lv_as (y := (nI (40 * nN sn + i))) ((congrArg (fun z => 40 * z + nI i) hh1).trans (ix_40 _ _)) ?_
                    refine lv_iconst (v := 0) hx hb dX7_sheet_101 (by decide) ?_
                    refine g_iast C hX hI hP hS 9 (by decide) (shM_9 G ad _) (40 * nN sn + i) (by omega) (by decide) (upd (τ 9) (40 * nN sn + i) 0) rfl dX7_sheet_102 (fun H locs hP hS => ?_)
                    have hP : gP G.1 11 ad (gE (shM G ad) (mset τ 9 (40 * nN sn + i) 0)) H := hP
                    refine lv_iinc (v := (nI (i + 1))) (lv' := [(4, .int (nI (i + 1))), (0, .ref (ad 0)), (1, .int sn), (2, .int bits), (3, .int size)]) hx hb dX7_sheet_103 hl (k := 0) rfl (by exact nI_1 _) (by decide) rfl (fun ls hl => ?_)
                    refine lv_goto (tgt := 83) hx hb dX7_sheet_106 (by decide) ?_
                    exact ih83 (i + 1) (mset τ 9 (40 * nN sn + i) 0) _ _ _ (by omega) (by rw [hres83, m_sheet_L83]) hP hS (lv_sub hl [0, 1, 2, 3, 4] rfl)
            · refine lv_aload_n hx hb dX7_sheet_52 rfl (lv_at hl 0 rfl) ?_
              refine lv_iconst (v := 0) hx hb dX7_sheet_53 (by decide) ?_
              refine g_wrI0 hS (g_runV (As := [.int 0]) (rest := []) ky_yX7_finds lk_RX7_128 C hX (gS_b0 hI hS) hP 0 (c_yX7_finds l G ad hI σ 0 (by decide)) (by decide) (shM_0 G ad _) ⟨rfl, rfl, by decide, by decide⟩ rfl hl.1 rfl (Nat.le_of_ble_eq_true rfl) ⟨Nat.zero_le _, Nat.zero_le _⟩ dX7_sheet_54) (fun H locs hP hS => ?_)
              exact g_iretM C hr hlk rfl (by rw [m_sheet, if_neg c1, if_neg c2, if_neg c10, if_pos c18, if_pos c19, if_neg c20]) hP hS dX7_sheet_57
          · refine lv_aload_n hx hb dX7_sheet_39 rfl (lv_at hl 0 rfl) ?_
            refine lv_bipush (v := 6) hx hb dX7_sheet_40 (by decide) ?_
            refine g_wrI0 hS (g_runV (As := [.int 6]) (rest := []) ky_yX7_finds lk_RX7_128 C hX (gS_b0 hI hS) hP 0 (c_yX7_finds l G ad hI σ 6 (by decide)) (by decide) (shM_0 G ad _) ⟨rfl, rfl, by decide, by decide⟩ rfl hl.1 rfl (Nat.le_of_ble_eq_true rfl) ⟨Nat.zero_le _, Nat.zero_le _⟩ dX7_sheet_42) (fun H locs hP hS => ?_)
            exact g_iretM C hr hlk rfl (by rw [m_sheet, if_neg c1, if_neg c2, if_neg c10, if_pos c18, if_neg c19]) hP hS dX7_sheet_45
        · refine lv_iload_n hx hb dX7_sheet_23 rfl (lv_at hl 2 rfl) ?_
          refine lv_bipush (v := 32) hx hb dX7_sheet_24 (by decide) ?_
          refine lv_icmp_eq (tgt := 35) hx hb dX7_sheet_26 (by decide) (fun c26 => ?_) (fun c26 => ?_)
          · refine lv_iload_n hx hb dX7_sheet_35 rfl (lv_at hl 3 rfl) ?_
            refine lv_if_ge (tgt := 46) hx hb dX7_sheet_36 (by decide) (fun c27 => ?_) (fun c27 => ?_)
            · refine lv_iload_n hx hb dX7_sheet_46 rfl (lv_at hl 3 rfl) ?_
              refine lv_bipush (v := 40) hx hb dX7_sheet_47 (by decide) ?_
              refine lv_icmp_le (tgt := 58) hx hb dX7_sheet_49 (by decide) (fun c28 => ?_) (fun c28 => ?_)
              · refine lv_aload_n hx hb dX7_sheet_58 rfl (lv_at hl 0 rfl) ?_
                refine g_get fd_RX7_29 C hX hP 0 (by decide) (shM_0 G ad _) (v := .ref (ad 7)) rfl dX7_sheet_59 ?_
                refine lv_iload_n hx hb dX7_sheet_62 rfl (lv_at hl 1 rfl) ?_
                refine lv_as (y := (nI (nN sn))) hh1 ?_
                refine lv_iload_n hx hb dX7_sheet_63 rfl (lv_at hl 2 rfl) ?_
                refine g_iast C hX hI hP hS 7 (by decide) (shM_7 G ad _) (nN sn) (by omega) (by decide) (upd (σ 7) (nN sn) bits) rfl dX7_sheet_64 (fun H locs hP hS => ?_)
                have hP : gP G.1 11 ad (gE (shM G ad) (mset σ 7 (nN sn) bits)) H := hP
                refine lv_aload_n hx hb dX7_sheet_65 rfl (lv_at hl 0 rfl) ?_
                refine g_get fd_RX7_32 C hX hP 0 (by decide) (shM_0 G ad _) (v := .ref (ad 8)) rfl dX7_sheet_66 ?_
                refine lv_iload_n hx hb dX7_sheet_69 rfl (lv_at hl 1 rfl) ?_
                refine lv_as (y := (nI (nN sn))) hh1 ?_
                refine lv_iload_n hx hb dX7_sheet_70 rfl (lv_at hl 2 rfl) ?_
                refine lv_if_ne (tgt := 78) hx hb dX7_sheet_71 (by decide) (fun c29 => ?_) (fun c29 => ?_)
                · refine lv_iload_n hx hb dX7_sheet_78 rfl (lv_at hl 3 rfl) ?_
                  refine g_iast C hX hI hP hS 8 (by decide) (shM_8 G ad _) (nN sn) (by omega) (by decide) (upd ((mset σ 7 (nN sn) bits) 8) (nN sn) size) rfl dX7_sheet_79 (fun H locs hP hS => ?_)
                  have hP : gP G.1 11 ad (gE (shM G ad) (mset (mset σ 7 (nN sn) bits) 8 (nN sn) size)) H := hP
                  refine lv_iconst (v := 0) hx hb dX7_sheet_80 (by decide) ?_
                  refine lv_istore (lv' := [(4, .int 0), (0, .ref (ad 0)), (1, .int sn), (2, .int bits), (3, .int size)]) hx hb dX7_sheet_81 hl (by decide) rfl (fun ls hl => ?_)
                  suffices loop83 : ∀ (n83 : Nat) (i : Nat) (τ : gM) (H : Heap) (locs : List Loc) (ls : Array Slot), (i + n83 = 40) → m_sheet σ sn bits size = (m_sheet_L83 σ sn bits size n83 i τ) → gP G.1 11 ad (gE (shM G ad) τ) H → va_S (gA 11 ad) s.heap H locs → lv_has ls 5 [(4, .int (nI i)), (0, .ref (ad 0)), (1, .int sn), (2, .int bits), (3, .int size)] → W p l e rm_yX7_sheet s m ([.ref (ad 0), .int sn, .int bits, .int size] : List Value).toArray below meth c H locs 0 0 (MQ below (va_Qi (fun (x : Int32) (τ : gM) => m_sheet σ sn bits size = (x, τ)) (fun τ t => gP G.1 11 ad (gE (shM G ad) τ) t.heap) (gA 11 ad)) ([.ref (ad 0), .int sn, .int bits, .int size] : List Value).toArray s 0 0 (gA 11 ad)) (F0 m 83 ls []) by
                    exact loop83 40 0 ((mset (mset σ 7 (nN sn) bits) 8 (nN sn) size)) _ _ _ (by omega) (by rw [m_sheet, if_neg c1, if_neg c2, if_neg c10, if_neg c18, if_pos c26, if_pos c27, if_pos c28, if_neg c29]) hP hS (lv_sub hl [0, 1, 2, 3, 4] rfl)
                  intro n83
                  induction n83 with
                  | zero =>
                    intro i τ H locs ls hi83 hres83 hP hS hl
                    refine lv_iload hx hb dX7_sheet_83 (lv_at hl 0 rfl) ?_
                    refine lv_bipush (v := 40) hx hb dX7_sheet_85 (by decide) ?_
                    refine lv_icmp_ge (tgt := 109) hx hb dX7_sheet_87 (by decide) (fun c30 => ?_) (fun c30 => ?_)
                    · refine lv_aload_n hx hb dX7_sheet_109 rfl (lv_at hl 1 rfl) ?_
                      refine g_get fd_RX7_32 C hX hP 0 (by decide) (shM_0 G ad _) (v := .ref (ad 8)) rfl dX7_sheet_110 ?_
                      refine lv_iload_n hx hb dX7_sheet_113 rfl (lv_at hl 2 rfl) ?_
                      refine lv_as (y := (nI (nN sn))) hh1 ?_
                      refine g_iald C hX hP 8 (by decide) (shM_8 G ad _) (nN sn) (by omega) (by decide) dX7_sheet_114 ?_
                      exact g_iretM C hr hlk rfl (by rw [hres83, m_sheet_L83]) hP hS dX7_sheet_115
                    · exact absurd (show nI (40) ≤ nI i from nI_le (by omega) (by omega)) c30
                  | succ n83 ih83 =>
                    intro i τ H locs ls hi83 hres83 hP hS hl
                    refine lv_iload hx hb dX7_sheet_83 (lv_at hl 0 rfl) ?_
                    refine lv_bipush (v := 40) hx hb dX7_sheet_85 (by decide) ?_
                    refine lv_icmp_ge (tgt := 109) hx hb dX7_sheet_87 (by decide) (fun c31 => ?_) (fun c31 => ?_)
                    · exact absurd (show nI (40) ≤ nI i from c31) (nI_ge (by omega) (by omega))
                    · refine lv_aload_n hx hb dX7_sheet_90 rfl (lv_at hl 1 rfl) ?_
                      refine g_get fd_RX7_35 C hX hP 0 (by decide) (shM_0 G ad _) (v := .ref (ad 9)) rfl dX7_sheet_91 ?_
                      refine lv_bipush (v := 40) hx hb dX7_sheet_94 (by decide) ?_
                      refine lv_iload_n hx hb dX7_sheet_96 rfl (lv_at hl 2 rfl) ?_
                      refine lv_imul hx hb dX7_sheet_97 ?_
                      refine lv_iload hx hb dX7_sheet_98 (lv_at hl 0 rfl) ?_
                      refine lv_iadd hx hb dX7_sheet_100 ?_
                      refine lv_as (y := (nI (40 * nN sn + i))) ((congrArg (fun z => 40 * z + nI i) hh1).trans (ix_40 _ _)) ?_
                      refine lv_iconst (v := 0) hx hb dX7_sheet_101 (by decide) ?_
                      refine g_iast C hX hI hP hS 9 (by decide) (shM_9 G ad _) (40 * nN sn + i) (by omega) (by decide) (upd (τ 9) (40 * nN sn + i) 0) rfl dX7_sheet_102 (fun H locs hP hS => ?_)
                      have hP : gP G.1 11 ad (gE (shM G ad) (mset τ 9 (40 * nN sn + i) 0)) H := hP
                      refine lv_iinc (v := (nI (i + 1))) (lv' := [(4, .int (nI (i + 1))), (0, .ref (ad 0)), (1, .int sn), (2, .int bits), (3, .int size)]) hx hb dX7_sheet_103 hl (k := 0) rfl (by exact nI_1 _) (by decide) rfl (fun ls hl => ?_)
                      refine lv_goto (tgt := 83) hx hb dX7_sheet_106 (by decide) ?_
                      exact ih83 (i + 1) (mset τ 9 (40 * nN sn + i) 0) _ _ _ (by omega) (by rw [hres83, m_sheet_L83]) hP hS (lv_sub hl [0, 1, 2, 3, 4] rfl)
                · refine lv_iconst (v := 0) hx hb dX7_sheet_74 (by decide) ?_
                  refine lv_goto (tgt := 79) hx hb dX7_sheet_75 (by decide) ?_
                  refine g_iast C hX hI hP hS 8 (by decide) (shM_8 G ad _) (nN sn) (by omega) (by decide) (upd ((mset σ 7 (nN sn) bits) 8) (nN sn) 0) rfl dX7_sheet_79 (fun H locs hP hS => ?_)
                  have hP : gP G.1 11 ad (gE (shM G ad) (mset (mset σ 7 (nN sn) bits) 8 (nN sn) 0)) H := hP
                  refine lv_iconst (v := 0) hx hb dX7_sheet_80 (by decide) ?_
                  refine lv_istore (lv' := [(4, .int 0), (0, .ref (ad 0)), (1, .int sn), (2, .int bits), (3, .int size)]) hx hb dX7_sheet_81 hl (by decide) rfl (fun ls hl => ?_)
                  suffices loop83 : ∀ (n83 : Nat) (i : Nat) (τ : gM) (H : Heap) (locs : List Loc) (ls : Array Slot), (i + n83 = 40) → m_sheet σ sn bits size = (m_sheet_L83 σ sn bits size n83 i τ) → gP G.1 11 ad (gE (shM G ad) τ) H → va_S (gA 11 ad) s.heap H locs → lv_has ls 5 [(4, .int (nI i)), (0, .ref (ad 0)), (1, .int sn), (2, .int bits), (3, .int size)] → W p l e rm_yX7_sheet s m ([.ref (ad 0), .int sn, .int bits, .int size] : List Value).toArray below meth c H locs 0 0 (MQ below (va_Qi (fun (x : Int32) (τ : gM) => m_sheet σ sn bits size = (x, τ)) (fun τ t => gP G.1 11 ad (gE (shM G ad) τ) t.heap) (gA 11 ad)) ([.ref (ad 0), .int sn, .int bits, .int size] : List Value).toArray s 0 0 (gA 11 ad)) (F0 m 83 ls []) by
                    exact loop83 40 0 ((mset (mset σ 7 (nN sn) bits) 8 (nN sn) 0)) _ _ _ (by omega) (by rw [m_sheet, if_neg c1, if_neg c2, if_neg c10, if_neg c18, if_pos c26, if_pos c27, if_pos c28, if_pos c29]) hP hS (lv_sub hl [0, 1, 2, 3, 4] rfl)
                  intro n83
                  induction n83 with
                  | zero =>
                    intro i τ H locs ls hi83 hres83 hP hS hl
                    refine lv_iload hx hb dX7_sheet_83 (lv_at hl 0 rfl) ?_
                    refine lv_bipush (v := 40) hx hb dX7_sheet_85 (by decide) ?_
                    refine lv_icmp_ge (tgt := 109) hx hb dX7_sheet_87 (by decide) (fun c32 => ?_) (fun c32 => ?_)
                    · refine lv_aload_n hx hb dX7_sheet_109 rfl (lv_at hl 1 rfl) ?_
                      refine g_get fd_RX7_32 C hX hP 0 (by decide) (shM_0 G ad _) (v := .ref (ad 8)) rfl dX7_sheet_110 ?_
                      refine lv_iload_n hx hb dX7_sheet_113 rfl (lv_at hl 2 rfl) ?_
                      refine lv_as (y := (nI (nN sn))) hh1 ?_
                      refine g_iald C hX hP 8 (by decide) (shM_8 G ad _) (nN sn) (by omega) (by decide) dX7_sheet_114 ?_
                      exact g_iretM C hr hlk rfl (by rw [hres83, m_sheet_L83]) hP hS dX7_sheet_115
                    · exact absurd (show nI (40) ≤ nI i from nI_le (by omega) (by omega)) c32
                  | succ n83 ih83 =>
                    intro i τ H locs ls hi83 hres83 hP hS hl
                    refine lv_iload hx hb dX7_sheet_83 (lv_at hl 0 rfl) ?_
                    refine lv_bipush (v := 40) hx hb dX7_sheet_85 (by decide) ?_
                    refine lv_icmp_ge (tgt := 109) hx hb dX7_sheet_87 (by decide) (fun c33 => ?_) (fun c33 => ?_)
                    · exact absurd (show nI (40) ≤ nI i from c33) (nI_ge (by omega) (by omega))
                    · refine lv_aload_n hx hb dX7_sheet_90 rfl (lv_at hl 1 rfl) ?_
                      refine g_get fd_RX7_35 C hX hP 0 (by decide) (shM_0 G ad _) (v := .ref (ad 9)) rfl dX7_sheet_91 ?_
                      refine lv_bipush (v := 40) hx hb dX7_sheet_94 (by decide) ?_
                      refine lv_iload_n hx hb dX7_sheet_96 rfl (lv_at hl 2 rfl) ?_
                      refine lv_imul hx hb dX7_sheet_97 ?_
                      refine lv_iload hx hb dX7_sheet_98 (lv_at hl 0 rfl) ?_
                      refine lv_iadd hx hb dX7_sheet_100 ?_
                      refine lv_as (y := (nI (40 * nN sn + i))) ((congrArg (fun z => 40 * z + nI i) hh1).trans (ix_40 _ _)) ?_
                      refine lv_iconst (v := 0) hx hb dX7_sheet_101 (by decide) ?_
                      refine g_iast C hX hI hP hS 9 (by decide) (shM_9 G ad _) (40 * nN sn + i) (by omega) (by decide) (upd (τ 9) (40 * nN sn + i) 0) rfl dX7_sheet_102 (fun H locs hP hS => ?_)
                      have hP : gP G.1 11 ad (gE (shM G ad) (mset τ 9 (40 * nN sn + i) 0)) H := hP
                      refine lv_iinc (v := (nI (i + 1))) (lv' := [(4, .int (nI (i + 1))), (0, .ref (ad 0)), (1, .int sn), (2, .int bits), (3, .int size)]) hx hb dX7_sheet_103 hl (k := 0) rfl (by exact nI_1 _) (by decide) rfl (fun ls hl => ?_)
                      refine lv_goto (tgt := 83) hx hb dX7_sheet_106 (by decide) ?_
                      exact ih83 (i + 1) (mset τ 9 (40 * nN sn + i) 0) _ _ _ (by omega) (by rw [hres83, m_sheet_L83]) hP hS (lv_sub hl [0, 1, 2, 3, 4] rfl)
              · refine lv_aload_n hx hb dX7_sheet_52 rfl (lv_at hl 0 rfl) ?_
                refine lv_iconst (v := 0) hx hb dX7_sheet_53 (by decide) ?_
                refine g_wrI0 hS (g_runV (As := [.int 0]) (rest := []) ky_yX7_finds lk_RX7_128 C hX (gS_b0 hI hS) hP 0 (c_yX7_finds l G ad hI σ 0 (by decide)) (by decide) (shM_0 G ad _) ⟨rfl, rfl, by decide, by decide⟩ rfl hl.1 rfl (Nat.le_of_ble_eq_true rfl) ⟨Nat.zero_le _, Nat.zero_le _⟩ dX7_sheet_54) (fun H locs hP hS => ?_)
                exact g_iretM C hr hlk rfl (by rw [m_sheet, if_neg c1, if_neg c2, if_neg c10, if_neg c18, if_pos c26, if_pos c27, if_neg c28]) hP hS dX7_sheet_57
            · refine lv_aload_n hx hb dX7_sheet_39 rfl (lv_at hl 0 rfl) ?_
              refine lv_bipush (v := 6) hx hb dX7_sheet_40 (by decide) ?_
              refine g_wrI0 hS (g_runV (As := [.int 6]) (rest := []) ky_yX7_finds lk_RX7_128 C hX (gS_b0 hI hS) hP 0 (c_yX7_finds l G ad hI σ 6 (by decide)) (by decide) (shM_0 G ad _) ⟨rfl, rfl, by decide, by decide⟩ rfl hl.1 rfl (Nat.le_of_ble_eq_true rfl) ⟨Nat.zero_le _, Nat.zero_le _⟩ dX7_sheet_42) (fun H locs hP hS => ?_)
              exact g_iretM C hr hlk rfl (by rw [m_sheet, if_neg c1, if_neg c2, if_neg c10, if_neg c18, if_pos c26, if_neg c27]) hP hS dX7_sheet_45
          · refine lv_aload_n hx hb dX7_sheet_29 rfl (lv_at hl 0 rfl) ?_
            refine lv_iconst (v := 0) hx hb dX7_sheet_30 (by decide) ?_
            refine g_wrI0 hS (g_runV (As := [.int 0]) (rest := []) ky_yX7_finds lk_RX7_128 C hX (gS_b0 hI hS) hP 0 (c_yX7_finds l G ad hI σ 0 (by decide)) (by decide) (shM_0 G ad _) ⟨rfl, rfl, by decide, by decide⟩ rfl hl.1 rfl (Nat.le_of_ble_eq_true rfl) ⟨Nat.zero_le _, Nat.zero_le _⟩ dX7_sheet_31) (fun H locs hP hS => ?_)
            exact g_iretM C hr hlk rfl (by rw [m_sheet, if_neg c1, if_neg c2, if_neg c10, if_neg c18, if_neg c26]) hP hS dX7_sheet_34
