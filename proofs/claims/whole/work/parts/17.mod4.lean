def m_hears_L34 (σ : gM) (glove : Int32) (topic : Int32) (σ1 : gM) : Nat → Nat → gM → Int32 × gM
  | 0, i, τ => if ((jshr (m_its τ (nN glove) 3) topic) &&& 1) = 1 then ((nI i), (m_copies τ 3 1)) else ((m_finds (m_copies τ 3 1) 3).1, (m_finds (m_copies τ 3 1) 3).2)
  | n34 + 1, i, τ => if ((jshr (m_its τ (nN glove) 3) topic) &&& 1) = 0 then (m_hears_L34 σ glove topic σ1 n34 (i + 1) (m_dayGoes τ)) else (if ((jshr (m_its τ (nN glove) 3) topic) &&& 1) = 1 then ((nI i), (m_copies τ 3 1)) else ((m_finds (m_copies τ 3 1) 3).1, (m_finds (m_copies τ 3 1) 3).2))
def m_hears_m1 (σ : gM) (glove : Int32) (topic : Int32) (σ1 : gM) : Int32 × gM := (m_hears_L34 σ glove topic σ1 200 0 σ1)
def m_hears (σ : gM) (glove : Int32) (topic : Int32) : Int32 × gM := if (m_isGlove σ glove) = 0 then ((m_finds σ 0).1, (m_finds σ 0).2) else (if (m_isTopic topic) = 0 then ((m_finds σ 0).1, (m_finds σ 0).2) else (m_hears_m1 σ glove topic (m_copies σ 1 3)))
def rm_yX7_hears : Room := { frames := 6, cells := 0, slots := 0, locals := 136 }
set_option maxHeartbeats 4000000 in
set_option maxRecDepth 100000 in
theorem c_yX7_hears (l : Launch) (G : gG) (ad : Nat → Nat) (hI : gI G.2.2.1 11 ad) (σ : gM) (glove : Int32) (topic : Int32) (N : Nat) (hN : N ≤ 8) (hs : σ 1 0 = nI N) (hd : ¬ σ 1 1 < 0) : gMutI l yX7_hears cX7_hears 5 (some .int) rm_yX7_hears G [.ref (ad 0), .int glove, .int topic] 11 ad (shM G ad) σ (m_hears σ glove topic) := by
  refine g_start [.ref (ad 0), .int glove, .int topic] (by decide +kernel) (Nat.le_of_ble_eq_true rfl) ?_
  intro p e s m below meth c ls B Z hl
  obtain ⟨C, hr, hlk⟩ := B
  have hx := C.1
  have hb := C.2.1
  obtain ⟨hX, hP⟩ := Z
  have hS : va_S (gA 11 ad) s.heap s.heap [] := va_S.rf
  revert hP hS
  intro hP hS
  have hl : lv_has ls 5 [(0, .ref (ad 0)), (1, .int glove), (2, .int topic)] := hl
  refine lv_aload_n hx hb dX7_hears_0 rfl (lv_at hl 0 rfl) ?_
  refine lv_iload_n hx hb dX7_hears_1 rfl (lv_at hl 1 rfl) ?_
  refine g_rd (g_runV (As := [.int glove]) (rest := []) ky_yX7_isGlove lk_RX7_138 C hX (gS_b0 hI hS) hP 0 (c_yX7_isGlove l G ad hI σ glove) (by decide) (shM_0 G ad _) ⟨rfl, rfl, by decide, by decide⟩ rfl hl.1 rfl (Nat.le_of_ble_eq_true rfl) ⟨Nat.zero_le _, Nat.zero_le _⟩ dX7_hears_2) ?_
  refine lv_if_eq (tgt := 15) hx hb dX7_hears_5 (by decide) (fun c1 => ?_) (fun c1 => ?_)
  · refine lv_aload_n hx hb dX7_hears_15 rfl (lv_at hl 0 rfl) ?_
    refine lv_iconst (v := 0) hx hb dX7_hears_16 (by decide) ?_
    refine g_wrI0 hS (g_runV (As := [.int 0]) (rest := []) ky_yX7_finds lk_RX7_128 C hX (gS_b0 hI hS) hP 0 (c_yX7_finds l G ad hI σ 0 (by decide)) (by decide) (shM_0 G ad _) ⟨rfl, rfl, by decide, by decide⟩ rfl hl.1 rfl (Nat.le_of_ble_eq_true rfl) ⟨Nat.zero_le _, Nat.zero_le _⟩ dX7_hears_17) (fun H locs hP hS => ?_)
    exact g_iretM C hr hlk rfl (by rw [m_hears, if_pos c1]) hP hS dX7_hears_20
  · obtain ⟨hg1, hg2⟩ := glv_of hN hs c1
    refine lv_iload_n hx hb dX7_hears_8 rfl (lv_at hl 2 rfl) ?_
    refine g_rd (g_runS (As := [.int topic]) (rest := []) ky_yX7_isTopic lk_RX7_147 C (c_yX7_isTopic l topic) ⟨rfl, rfl, by decide, by decide⟩ rfl hl.1 rfl (Nat.le_of_ble_eq_true rfl) ⟨Nat.zero_le _, Nat.zero_le _⟩ dX7_hears_9) ?_
    refine lv_if_ne (tgt := 21) hx hb dX7_hears_12 (by decide) (fun c2 => ?_) (fun c2 => ?_)
    · refine lv_aload_n hx hb dX7_hears_21 rfl (lv_at hl 0 rfl) ?_
      refine g_get fd_RX7_7 C hX hP 0 (by decide) (shM_0 G ad _) (v := .ref (ad 1)) rfl dX7_hears_22 ?_
      refine lv_aload_n hx hb dX7_hears_25 rfl (lv_at hl 0 rfl) ?_
      refine g_get fd_RX7_16 C hX hP 0 (by decide) (shM_0 G ad _) (v := .ref (ad 3)) rfl dX7_hears_26 ?_
      refine g_wrV0 hS (g_runSW (As := [.ref (ad 1), .ref (ad 3)]) (rest := []) ky_yX7_copies lk_RX7_167 C hX (gS_b0 hI hS) hP (c_yX7_copies l G ad hI σ 1 3 (by decide) (by decide) (fun _ => rfl) (fun _ => rfl)) ⟨rfl, rfl, by decide, by decide⟩ rfl hl.1 rfl (Nat.le_of_ble_eq_true rfl) ⟨Nat.zero_le _, Nat.zero_le _⟩ dX7_hears_29) (fun H locs hP hS => ?_)
      obtain ⟨σ1, eσ1⟩ : ∃ τ_ : gM, τ_ = (m_copies σ 1 3) := ⟨_, rfl⟩
      rw [← eσ1] at hP
      have hs1 : σ1 1 0 = nI N := by rw [eσ1, cp_row (by decide) _ (by decide)]; exact hs
      have hd1 : ¬ σ1 1 1 < 0 := by rw [eσ1, cp_row (by decide) _ (by decide)]; exact hd
      have hA1 : ∀ j, j < 75 → σ1 3 j = σ 1 j := fun j hj => by rw [eσ1, cp_at (by decide) _ hj]
      have hB1 : ∀ j, j < 75 → σ1 1 j = σ 1 j := fun j hj => by rw [eσ1, cp_row (by decide) _ (by decide)]
      refine lv_iconst (v := 0) hx hb dX7_hears_32 (by decide) ?_
      refine lv_istore_n (lv' := [(3, .int 0), (0, .ref (ad 0)), (1, .int glove), (2, .int topic)]) hx hb dX7_hears_33 rfl hl (by decide) rfl (fun ls hl => ?_)
      suffices loop34 : ∀ (n34 : Nat) (i : Nat) (τ : gM) (H : Heap) (locs : List Loc) (ls : Array Slot), (i + n34 = 200) → (τ 1 0 = nI N) → (¬ τ 1 1 < 0) → m_hears σ glove topic = (m_hears_L34 σ glove topic σ1 n34 i τ) → gP G.1 11 ad (gE (shM G ad) τ) H → va_S (gA 11 ad) s.heap H locs → lv_has ls 5 [(3, .int (nI i)), (0, .ref (ad 0)), (1, .int glove), (2, .int topic)] → W p l e rm_yX7_hears s m ([.ref (ad 0), .int glove, .int topic] : List Value).toArray below meth c H locs 0 0 (MQ below (va_Qi (fun (x : Int32) (τ : gM) => m_hears σ glove topic = (x, τ)) (fun τ t => gP G.1 11 ad (gE (shM G ad) τ) t.heap) (gA 11 ad)) ([.ref (ad 0), .int glove, .int topic] : List Value).toArray s 0 0 (gA 11 ad)) (F0 m 34 ls []) by
        exact loop34 200 0 σ1 _ _ _ (by omega) hs1 hd1 (by rw [m_hears, if_neg c1, if_neg c2, ← eσ1, m_hears_m1]) hP hS (lv_sub hl [0, 1, 2, 3] rfl)
      intro n34
      induction n34 with
      | zero =>
        intro i τ H locs ls hi34 hn hv hres34 hP hS hl
        refine lv_iload_n hx hb dX7_hears_34 rfl (lv_at hl 0 rfl) ?_
        refine lv_sipush (v := 200) hx hb dX7_hears_35 (by decide) ?_
        refine lv_icmp_ge (tgt := 64) hx hb dX7_hears_38 (by decide) (fun c3 => ?_) (fun c3 => ?_)
        · refine lv_aload_n hx hb dX7_hears_64 rfl (lv_at hl 1 rfl) ?_
          refine lv_iload_n hx hb dX7_hears_65 rfl (lv_at hl 2 rfl) ?_
          refine lv_as (y := (nI (nN glove))) hg1 ?_
          refine lv_iconst (v := 3) hx hb dX7_hears_66 (by decide) ?_
          refine g_rd (g_runV (As := [.int (nI (nN glove)), .int 3]) (rest := []) ky_yX7_its lk_RX7_58 C hX (gS_b0 hI hS) hP 0 (c_yX7_its l G ad hI τ (nN glove) 3 (by omega) (by decide)) (by decide) (shM_0 G ad _) ⟨rfl, rfl, by decide, by decide⟩ rfl hl.1 rfl (Nat.le_of_ble_eq_true rfl) ⟨Nat.zero_le _, Nat.zero_le _⟩ dX7_hears_67) ?_
          refine lv_iload_n hx hb dX7_hears_70 rfl (lv_at hl 3 rfl) ?_
          refine g_ishr hx hb dX7_hears_71 ?_
          refine lv_iconst (v := 1) hx hb dX7_hears_72 (by decide) ?_
          refine lv_iand hx hb dX7_hears_73 ?_
          refine lv_iconst (v := 1) hx hb dX7_hears_74 (by decide) ?_
          refine lv_icmp_ne (tgt := 82) hx hb dX7_hears_75 (by decide) (fun c4 => ?_) (fun c4 => ?_)
          · refine lv_iconst (v := 0) hx hb dX7_hears_82 (by decide) ?_
            refine lv_istore (lv' := [(4, .int 0), (3, .int (nI i)), (0, .ref (ad 0)), (1, .int glove), (2, .int topic)]) hx hb dX7_hears_83 hl (by decide) rfl (fun ls hl => ?_)
            refine lv_aload_n hx hb dX7_hears_85 rfl (lv_at hl 2 rfl) ?_
            refine g_get fd_RX7_16 C hX hP 0 (by decide) (shM_0 G ad _) (v := .ref (ad 3)) rfl dX7_hears_86 ?_
            refine lv_aload_n hx hb dX7_hears_89 rfl (lv_at hl 2 rfl) ?_
            refine g_get fd_RX7_7 C hX hP 0 (by decide) (shM_0 G ad _) (v := .ref (ad 1)) rfl dX7_hears_90 ?_
            refine g_wrV0 hS (g_runSW (As := [.ref (ad 3), .ref (ad 1)]) (rest := []) ky_yX7_copies lk_RX7_167 C hX (gS_b0 hI hS) hP (c_yX7_copies l G ad hI τ 3 1 (by decide) (by decide) (fun _ => rfl) (fun _ => rfl)) ⟨rfl, rfl, by decide, by decide⟩ rfl hl.1 rfl (Nat.le_of_ble_eq_true rfl) ⟨Nat.zero_le _, Nat.zero_le _⟩ dX7_hears_93) (fun H locs hP hS => ?_)
            refine lv_iload hx hb dX7_hears_96 (lv_at hl 0 rfl) ?_
            refine lv_if_eq (tgt := 105) hx hb dX7_hears_98 (by decide) (fun c5 => ?_) (fun c5 => ?_)
            · refine lv_aload_n hx hb dX7_hears_105 rfl (lv_at hl 2 rfl) ?_
              refine lv_iconst (v := 3) hx hb dX7_hears_106 (by decide) ?_
              refine g_wrI0 hS (g_runV (As := [.int 3]) (rest := []) ky_yX7_finds lk_RX7_128 C hX (gS_b0 hI hS) hP 0 (c_yX7_finds l G ad hI (m_copies τ 3 1) 3 (by decide)) (by decide) (shM_0 G ad _) ⟨rfl, rfl, by decide, by decide⟩ rfl hl.1 rfl (Nat.le_of_ble_eq_true rfl) ⟨Nat.zero_le _, Nat.zero_le _⟩ dX7_hears_107) (fun H locs hP hS => ?_)
              exact g_iretM C hr hlk rfl (by rw [hres34, m_hears_L34, if_neg c4]) hP hS dX7_hears_110
            · exact absurd (by decide) c5
          · refine lv_iconst (v := 1) hx hb dX7_hears_78 (by decide) ?_
            refine lv_goto (tgt := 83) hx hb dX7_hears_79 (by decide) ?_
            refine lv_istore (lv' := [(4, .int 1), (3, .int (nI i)), (0, .ref (ad 0)), (1, .int glove), (2, .int topic)]) hx hb dX7_hears_83 hl (by decide) rfl (fun ls hl => ?_)
            refine lv_aload_n hx hb dX7_hears_85 rfl (lv_at hl 2 rfl) ?_
            refine g_get fd_RX7_16 C hX hP 0 (by decide) (shM_0 G ad _) (v := .ref (ad 3)) rfl dX7_hears_86 ?_
            refine lv_aload_n hx hb dX7_hears_89 rfl (lv_at hl 2 rfl) ?_
            refine g_get fd_RX7_7 C hX hP 0 (by decide) (shM_0 G ad _) (v := .ref (ad 1)) rfl dX7_hears_90 ?_
            refine g_wrV0 hS (g_runSW (As := [.ref (ad 3), .ref (ad 1)]) (rest := []) ky_yX7_copies lk_RX7_167 C hX (gS_b0 hI hS) hP (c_yX7_copies l G ad hI τ 3 1 (by decide) (by decide) (fun _ => rfl) (fun _ => rfl)) ⟨rfl, rfl, by decide, by decide⟩ rfl hl.1 rfl (Nat.le_of_ble_eq_true rfl) ⟨Nat.zero_le _, Nat.zero_le _⟩ dX7_hears_93) (fun H locs hP hS => ?_)
            refine lv_iload hx hb dX7_hears_96 (lv_at hl 0 rfl) ?_
            refine lv_if_eq (tgt := 105) hx hb dX7_hears_98 (by decide) (fun c6 => ?_) (fun c6 => ?_)
            · exact absurd c6 (by decide)
            · refine lv_iload_n hx hb dX7_hears_101 rfl (lv_at hl 1 rfl) ?_
              refine lv_goto (tgt := 110) hx hb dX7_hears_102 (by decide) ?_
              exact g_iretM C hr hlk rfl (by rw [hres34, m_hears_L34, if_pos c4]) hP hS dX7_hears_110
        · exact absurd (show nI (200) ≤ nI i from nI_le (by omega) (by omega)) c3
      | succ n34 ih34 =>
        intro i τ H locs ls hi34 hn hv hres34 hP hS hl
        refine lv_iload_n hx hb dX7_hears_34 rfl (lv_at hl 0 rfl) ?_
        refine lv_sipush (v := 200) hx hb dX7_hears_35 (by decide) ?_
        refine lv_icmp_ge (tgt := 64) hx hb dX7_hears_38 (by decide) (fun c7 => ?_) (fun c7 => ?_)
        · exact absurd (show nI (200) ≤ nI i from c7) (nI_ge (by omega) (by omega))
        · refine lv_aload_n hx hb dX7_hears_41 rfl (lv_at hl 1 rfl) ?_
          refine lv_iload_n hx hb dX7_hears_42 rfl (lv_at hl 2 rfl) ?_
          refine lv_as (y := (nI (nN glove))) hg1 ?_
          refine lv_iconst (v := 3) hx hb dX7_hears_43 (by decide) ?_
          refine g_rd (g_runV (As := [.int (nI (nN glove)), .int 3]) (rest := []) ky_yX7_its lk_RX7_58 C hX (gS_b0 hI hS) hP 0 (c_yX7_its l G ad hI τ (nN glove) 3 (by omega) (by decide)) (by decide) (shM_0 G ad _) ⟨rfl, rfl, by decide, by decide⟩ rfl hl.1 rfl (Nat.le_of_ble_eq_true rfl) ⟨Nat.zero_le _, Nat.zero_le _⟩ dX7_hears_44) ?_
          refine lv_iload_n hx hb dX7_hears_47 rfl (lv_at hl 3 rfl) ?_
          refine g_ishr hx hb dX7_hears_48 ?_
          refine lv_iconst (v := 1) hx hb dX7_hears_49 (by decide) ?_
          refine lv_iand hx hb dX7_hears_50 ?_
          refine lv_if_ne (tgt := 64) hx hb dX7_hears_51 (by decide) (fun c8 => ?_) (fun c8 => ?_)
          · refine lv_aload_n hx hb dX7_hears_64 rfl (lv_at hl 1 rfl) ?_
            refine lv_iload_n hx hb dX7_hears_65 rfl (lv_at hl 2 rfl) ?_
            refine lv_as (y := (nI (nN glove))) hg1 ?_
            refine lv_iconst (v := 3) hx hb dX7_hears_66 (by decide) ?_
            refine g_rd (g_runV (As := [.int (nI (nN glove)), .int 3]) (rest := []) ky_yX7_its lk_RX7_58 C hX (gS_b0 hI hS) hP 0 (c_yX7_its l G ad hI τ (nN glove) 3 (by omega) (by decide)) (by decide) (shM_0 G ad _) ⟨rfl, rfl, by decide, by decide⟩ rfl hl.1 rfl (Nat.le_of_ble_eq_true rfl) ⟨Nat.zero_le _, Nat.zero_le _⟩ dX7_hears_67) ?_
            refine lv_iload_n hx hb dX7_hears_70 rfl (lv_at hl 3 rfl) ?_
            refine g_ishr hx hb dX7_hears_71 ?_
            refine lv_iconst (v := 1) hx hb dX7_hears_72 (by decide) ?_
            refine lv_iand hx hb dX7_hears_73 ?_
            refine lv_iconst (v := 1) hx hb dX7_hears_74 (by decide) ?_
            refine lv_icmp_ne (tgt := 82) hx hb dX7_hears_75 (by decide) (fun c9 => ?_) (fun c9 => ?_)
            · refine lv_iconst (v := 0) hx hb dX7_hears_82 (by decide) ?_
              refine lv_istore (lv' := [(4, .int 0), (3, .int (nI i)), (0, .ref (ad 0)), (1, .int glove), (2, .int topic)]) hx hb dX7_hears_83 hl (by decide) rfl (fun ls hl => ?_)
              refine lv_aload_n hx hb dX7_hears_85 rfl (lv_at hl 2 rfl) ?_
              refine g_get fd_RX7_16 C hX hP 0 (by decide) (shM_0 G ad _) (v := .ref (ad 3)) rfl dX7_hears_86 ?_
              refine lv_aload_n hx hb dX7_hears_89 rfl (lv_at hl 2 rfl) ?_
              refine g_get fd_RX7_7 C hX hP 0 (by decide) (shM_0 G ad _) (v := .ref (ad 1)) rfl dX7_hears_90 ?_
              refine g_wrV0 hS (g_runSW (As := [.ref (ad 3), .ref (ad 1)]) (rest := []) ky_yX7_copies lk_RX7_167 C hX (gS_b0 hI hS) hP (c_yX7_copies l G ad hI τ 3 1 (by decide) (by decide) (fun _ => rfl) (fun _ => rfl)) ⟨rfl, rfl, by decide, by decide⟩ rfl hl.1 rfl (Nat.le_of_ble_eq_true rfl) ⟨Nat.zero_le _, Nat.zero_le _⟩ dX7_hears_93) (fun H locs hP hS => ?_)
              refine lv_iload hx hb dX7_hears_96 (lv_at hl 0 rfl) ?_
              refine lv_if_eq (tgt := 105) hx hb dX7_hears_98 (by decide) (fun c10 => ?_) (fun c10 => ?_)
              · refine lv_aload_n hx hb dX7_hears_105 rfl (lv_at hl 2 rfl) ?_
                refine lv_iconst (v := 3) hx hb dX7_hears_106 (by decide) ?_
                refine g_wrI0 hS (g_runV (As := [.int 3]) (rest := []) ky_yX7_finds lk_RX7_128 C hX (gS_b0 hI hS) hP 0 (c_yX7_finds l G ad hI (m_copies τ 3 1) 3 (by decide)) (by decide) (shM_0 G ad _) ⟨rfl, rfl, by decide, by decide⟩ rfl hl.1 rfl (Nat.le_of_ble_eq_true rfl) ⟨Nat.zero_le _, Nat.zero_le _⟩ dX7_hears_107) (fun H locs hP hS => ?_)
                exact g_iretM C hr hlk rfl (by rw [hres34, m_hears_L34, if_neg c8, if_neg c9]) hP hS dX7_hears_110
              · exact absurd (by decide) c10
            · refine lv_iconst (v := 1) hx hb dX7_hears_78 (by decide) ?_
              refine lv_goto (tgt := 83) hx hb dX7_hears_79 (by decide) ?_
              refine lv_istore (lv' := [(4, .int 1), (3, .int (nI i)), (0, .ref (ad 0)), (1, .int glove), (2, .int topic)]) hx hb dX7_hears_83 hl (by decide) rfl (fun ls hl => ?_)
              refine lv_aload_n hx hb dX7_hears_85 rfl (lv_at hl 2 rfl) ?_
              refine g_get fd_RX7_16 C hX hP 0 (by decide) (shM_0 G ad _) (v := .ref (ad 3)) rfl dX7_hears_86 ?_
              refine lv_aload_n hx hb dX7_hears_89 rfl (lv_at hl 2 rfl) ?_
              refine g_get fd_RX7_7 C hX hP 0 (by decide) (shM_0 G ad _) (v := .ref (ad 1)) rfl dX7_hears_90 ?_
              refine g_wrV0 hS (g_runSW (As := [.ref (ad 3), .ref (ad 1)]) (rest := []) ky_yX7_copies lk_RX7_167 C hX (gS_b0 hI hS) hP (c_yX7_copies l G ad hI τ 3 1 (by decide) (by decide) (fun _ => rfl) (fun _ => rfl)) ⟨rfl, rfl, by decide, by decide⟩ rfl hl.1 rfl (Nat.le_of_ble_eq_true rfl) ⟨Nat.zero_le _, Nat.zero_le _⟩ dX7_hears_93) (fun H locs hP hS => ?_)
              refine lv_iload hx hb dX7_hears_96 (lv_at hl 0 rfl) ?_
              refine lv_if_eq (tgt := 105) hx hb dX7_hears_98 (by decide) (fun c11 => ?_) (fun c11 => ?_)
              · exact absurd c11 (by decide)
              · refine lv_iload_n hx hb dX7_hears_101 rfl (lv_at hl 1 rfl) ?_
                refine lv_goto (tgt := 110) hx hb dX7_hears_102 (by decide) ?_
                exact g_iretM C hr hlk rfl (by rw [hres34, m_hears_L34, if_neg c8, if_pos c9]) hP hS dX7_hears_110
          · refine lv_aload_n hx hb dX7_hears_54 rfl (lv_at hl 1 rfl) ?_
            refine g_wrV0 hS (g_runV (As := []) (rest := []) ky_yX7_dayGoes lk_RX7_113 C hX (gS_b0 hI hS) hP 0 (c_yX7_dayGoes l G ad hI τ  N hN hn hv) (by decide) (shM_0 G ad _) ⟨rfl, rfl, by decide, by decide⟩ rfl hl.1 rfl (Nat.le_of_ble_eq_true rfl) ⟨Nat.zero_le _, Nat.zero_le _⟩ dX7_hears_55) (fun H locs hP hS => ?_)
            refine lv_iinc (v := (nI (i + 1))) (lv' := [(3, .int (nI (i + 1))), (0, .ref (ad 0)), (1, .int glove), (2, .int topic)]) hx hb dX7_hears_58 hl (k := 0) rfl (by exact nI_1 _) (by decide) rfl (fun ls hl => ?_)
            refine lv_goto (tgt := 34) hx hb dX7_hears_61 (by decide) ?_
            exact ih34 (i + 1) (m_dayGoes τ) _ _ _ (by omega) ((dg_N _).trans hn) (dg_D _) (by rw [hres34, m_hears_L34, if_pos c8]) hP hS (lv_sub hl [0, 1, 2, 3] rfl)
    · refine lv_aload_n hx hb dX7_hears_15 rfl (lv_at hl 0 rfl) ?_
      refine lv_iconst (v := 0) hx hb dX7_hears_16 (by decide) ?_
      refine g_wrI0 hS (g_runV (As := [.int 0]) (rest := []) ky_yX7_finds lk_RX7_128 C hX (gS_b0 hI hS) hP 0 (c_yX7_finds l G ad hI σ 0 (by decide)) (by decide) (shM_0 G ad _) ⟨rfl, rfl, by decide, by decide⟩ rfl hl.1 rfl (Nat.le_of_ble_eq_true rfl) ⟨Nat.zero_le _, Nat.zero_le _⟩ dX7_hears_17) (fun H locs hP hS => ?_)
      exact g_iretM C hr hlk rfl (by rw [m_hears, if_neg c1, if_pos c2]) hP hS dX7_hears_20

def m_wise_L39 (σ : gM) (glove : Int32) (v : Int32) (σ1 : gM) : Nat → Nat → gM → Int32 × gM
  | 0, i, τ => if (m_ones (m_its τ (nN glove) 5)) < v then ((m_finds (m_copies τ 3 1) 3).1, (m_finds (m_copies τ 3 1) 3).2) else ((nI i), (m_copies τ 3 1))
  | n39 + 1, i, τ => if v ≤ (m_ones (m_its τ (nN glove) 5)) then (if (m_ones (m_its τ (nN glove) 5)) < v then ((m_finds (m_copies τ 3 1) 3).1, (m_finds (m_copies τ 3 1) 3).2) else ((nI i), (m_copies τ 3 1))) else (m_wise_L39 σ glove v σ1 n39 (i + 1) (m_dayGoes τ))
def m_wise_m1 (σ : gM) (glove : Int32) (v : Int32) (σ1 : gM) : Int32 × gM := (m_wise_L39 σ glove v σ1 200 0 σ1)
def m_wise (σ : gM) (glove : Int32) (v : Int32) : Int32 × gM := if (m_isGlove σ glove) = 0 then ((m_finds σ 0).1, (m_finds σ 0).2) else (if (m_in ((v).toInt64) 0 16) = 0 then ((m_finds σ 0).1, (m_finds σ 0).2) else (m_wise_m1 σ glove v (m_copies σ 1 3)))
def rm_yX7_wise : Room := { frames := 6, cells := 0, slots := 0, locals := 136 }
set_option maxHeartbeats 4000000 in
set_option maxRecDepth 100000 in
theorem c_yX7_wise (l : Launch) (G : gG) (ad : Nat → Nat) (hI : gI G.2.2.1 11 ad) (σ : gM) (glove : Int32) (v : Int32) (N : Nat) (hN : N ≤ 8) (hs : σ 1 0 = nI N) (hd : ¬ σ 1 1 < 0) : gMutI l yX7_wise cX7_wise 5 (some .int) rm_yX7_wise G [.ref (ad 0), .int glove, .int v] 11 ad (shM G ad) σ (m_wise σ glove v) := by
  refine g_start [.ref (ad 0), .int glove, .int v] (by decide +kernel) (Nat.le_of_ble_eq_true rfl) ?_
  intro p e s m below meth c ls B Z hl
  obtain ⟨C, hr, hlk⟩ := B
  have hx := C.1
  have hb := C.2.1
  obtain ⟨hX, hP⟩ := Z
  have hS : va_S (gA 11 ad) s.heap s.heap [] := va_S.rf
  revert hP hS
  intro hP hS
  have hl : lv_has ls 5 [(0, .ref (ad 0)), (1, .int glove), (2, .int v)] := hl
  refine lv_aload_n hx hb dX7_wise_0 rfl (lv_at hl 0 rfl) ?_
  refine lv_iload_n hx hb dX7_wise_1 rfl (lv_at hl 1 rfl) ?_
  refine g_rd (g_runV (As := [.int glove]) (rest := []) ky_yX7_isGlove lk_RX7_138 C hX (gS_b0 hI hS) hP 0 (c_yX7_isGlove l G ad hI σ glove) (by decide) (shM_0 G ad _) ⟨rfl, rfl, by decide, by decide⟩ rfl hl.1 rfl (Nat.le_of_ble_eq_true rfl) ⟨Nat.zero_le _, Nat.zero_le _⟩ dX7_wise_2) ?_
  refine lv_if_eq (tgt := 20) hx hb dX7_wise_5 (by decide) (fun c1 => ?_) (fun c1 => ?_)
  · refine lv_aload_n hx hb dX7_wise_20 rfl (lv_at hl 0 rfl) ?_
    refine lv_iconst (v := 0) hx hb dX7_wise_21 (by decide) ?_
    refine g_wrI0 hS (g_runV (As := [.int 0]) (rest := []) ky_yX7_finds lk_RX7_128 C hX (gS_b0 hI hS) hP 0 (c_yX7_finds l G ad hI σ 0 (by decide)) (by decide) (shM_0 G ad _) ⟨rfl, rfl, by decide, by decide⟩ rfl hl.1 rfl (Nat.le_of_ble_eq_true rfl) ⟨Nat.zero_le _, Nat.zero_le _⟩ dX7_wise_22) (fun H locs hP hS => ?_)
    exact g_iretM C hr hlk rfl (by rw [m_wise, if_pos c1]) hP hS dX7_wise_25
  · obtain ⟨hg1, hg2⟩ := glv_of hN hs c1
    refine lv_iload_n hx hb dX7_wise_8 rfl (lv_at hl 2 rfl) ?_
    refine lv_i2l (v := (v).toInt64) hx hb dX7_wise_9 rfl ?_
    refine lv_lconst (v := 0) hx hb dX7_wise_10 (by decide) ?_
    refine lv_ldc2 hx hb C.2.2.2.1 (C.2.2.2.2 _ kc_RX7_176) dX7_wise_11 ?_
    refine g_rd (g_runS (As := [.long ((v).toInt64), .long 0, .long 16]) (rest := []) ky_yX7_in lk_RX7_42 C (c_yX7_in l ((v).toInt64) 0 16) ⟨rfl, rfl, by decide, by decide⟩ rfl hl.1 rfl (Nat.le_of_ble_eq_true rfl) ⟨Nat.zero_le _, Nat.zero_le _⟩ dX7_wise_14) ?_
    refine lv_if_ne (tgt := 26) hx hb dX7_wise_17 (by decide) (fun c2 => ?_) (fun c2 => ?_)
    · refine lv_aload_n hx hb dX7_wise_26 rfl (lv_at hl 0 rfl) ?_
      refine g_get fd_RX7_7 C hX hP 0 (by decide) (shM_0 G ad _) (v := .ref (ad 1)) rfl dX7_wise_27 ?_
      refine lv_aload_n hx hb dX7_wise_30 rfl (lv_at hl 0 rfl) ?_
      refine g_get fd_RX7_16 C hX hP 0 (by decide) (shM_0 G ad _) (v := .ref (ad 3)) rfl dX7_wise_31 ?_
      refine g_wrV0 hS (g_runSW (As := [.ref (ad 1), .ref (ad 3)]) (rest := []) ky_yX7_copies lk_RX7_167 C hX (gS_b0 hI hS) hP (c_yX7_copies l G ad hI σ 1 3 (by decide) (by decide) (fun _ => rfl) (fun _ => rfl)) ⟨rfl, rfl, by decide, by decide⟩ rfl hl.1 rfl (Nat.le_of_ble_eq_true rfl) ⟨Nat.zero_le _, Nat.zero_le _⟩ dX7_wise_34) (fun H locs hP hS => ?_)
      obtain ⟨σ1, eσ1⟩ : ∃ τ_ : gM, τ_ = (m_copies σ 1 3) := ⟨_, rfl⟩
      rw [← eσ1] at hP
      have hs1 : σ1 1 0 = nI N := by rw [eσ1, cp_row (by decide) _ (by decide)]; exact hs
      have hd1 : ¬ σ1 1 1 < 0 := by rw [eσ1, cp_row (by decide) _ (by decide)]; exact hd
      have hA1 : ∀ j, j < 75 → σ1 3 j = σ 1 j := fun j hj => by rw [eσ1, cp_at (by decide) _ hj]
      have hB1 : ∀ j, j < 75 → σ1 1 j = σ 1 j := fun j hj => by rw [eσ1, cp_row (by decide) _ (by decide)]
      refine lv_iconst (v := 0) hx hb dX7_wise_37 (by decide) ?_
      refine lv_istore_n (lv' := [(3, .int 0), (0, .ref (ad 0)), (1, .int glove), (2, .int v)]) hx hb dX7_wise_38 rfl hl (by decide) rfl (fun ls hl => ?_)
      suffices loop39 : ∀ (n39 : Nat) (i : Nat) (τ : gM) (H : Heap) (locs : List Loc) (ls : Array Slot), (i + n39 = 200) → (τ 1 0 = nI N) → (¬ τ 1 1 < 0) → m_wise σ glove v = (m_wise_L39 σ glove v σ1 n39 i τ) → gP G.1 11 ad (gE (shM G ad) τ) H → va_S (gA 11 ad) s.heap H locs → lv_has ls 5 [(3, .int (nI i)), (0, .ref (ad 0)), (1, .int glove), (2, .int v)] → W p l e rm_yX7_wise s m ([.ref (ad 0), .int glove, .int v] : List Value).toArray below meth c H locs 0 0 (MQ below (va_Qi (fun (x : Int32) (τ : gM) => m_wise σ glove v = (x, τ)) (fun τ t => gP G.1 11 ad (gE (shM G ad) τ) t.heap) (gA 11 ad)) ([.ref (ad 0), .int glove, .int v] : List Value).toArray s 0 0 (gA 11 ad)) (F0 m 39 ls []) by
        exact loop39 200 0 σ1 _ _ _ (by omega) hs1 hd1 (by rw [m_wise, if_neg c1, if_neg c2, ← eσ1, m_wise_m1]) hP hS (lv_sub hl [0, 1, 2, 3] rfl)
      intro n39
      induction n39 with
      | zero =>
        intro i τ H locs ls hi39 hn hv hres39 hP hS hl
        refine lv_iload_n hx hb dX7_wise_39 rfl (lv_at hl 0 rfl) ?_
        refine lv_sipush (v := 200) hx hb dX7_wise_40 (by decide) ?_
        refine lv_icmp_ge (tgt := 69) hx hb dX7_wise_43 (by decide) (fun c3 => ?_) (fun c3 => ?_)
        · refine lv_aload_n hx hb dX7_wise_69 rfl (lv_at hl 1 rfl) ?_
          refine lv_iload_n hx hb dX7_wise_70 rfl (lv_at hl 2 rfl) ?_
          refine lv_as (y := (nI (nN glove))) hg1 ?_
          refine lv_iconst (v := 5) hx hb dX7_wise_71 (by decide) ?_
          refine g_rd (g_runV (As := [.int (nI (nN glove)), .int 5]) (rest := []) ky_yX7_its lk_RX7_58 C hX (gS_b0 hI hS) hP 0 (c_yX7_its l G ad hI τ (nN glove) 5 (by omega) (by decide)) (by decide) (shM_0 G ad _) ⟨rfl, rfl, by decide, by decide⟩ rfl hl.1 rfl (Nat.le_of_ble_eq_true rfl) ⟨Nat.zero_le _, Nat.zero_le _⟩ dX7_wise_72) ?_
          refine g_rd (g_runS (As := [.int (m_its τ (nN glove) 5)]) (rest := []) ky_yX7_ones lk_RX7_84 C (c_yX7_ones l (m_its τ (nN glove) 5)) ⟨rfl, rfl, by decide, by decide⟩ rfl hl.1 rfl (Nat.le_of_ble_eq_true rfl) ⟨Nat.zero_le _, Nat.zero_le _⟩ dX7_wise_75) ?_
          refine lv_iload_n hx hb dX7_wise_78 rfl (lv_at hl 3 rfl) ?_
          refine lv_icmp_lt (tgt := 86) hx hb dX7_wise_79 (by decide) (fun c4 => ?_) (fun c4 => ?_)
          · refine lv_iconst (v := 0) hx hb dX7_wise_86 (by decide) ?_
            refine lv_istore (lv' := [(4, .int 0), (3, .int (nI i)), (0, .ref (ad 0)), (1, .int glove), (2, .int v)]) hx hb dX7_wise_87 hl (by decide) rfl (fun ls hl => ?_)
            refine lv_aload_n hx hb dX7_wise_89 rfl (lv_at hl 2 rfl) ?_
            refine g_get fd_RX7_16 C hX hP 0 (by decide) (shM_0 G ad _) (v := .ref (ad 3)) rfl dX7_wise_90 ?_
            refine lv_aload_n hx hb dX7_wise_93 rfl (lv_at hl 2 rfl) ?_
            refine g_get fd_RX7_7 C hX hP 0 (by decide) (shM_0 G ad _) (v := .ref (ad 1)) rfl dX7_wise_94 ?_
            refine g_wrV0 hS (g_runSW (As := [.ref (ad 3), .ref (ad 1)]) (rest := []) ky_yX7_copies lk_RX7_167 C hX (gS_b0 hI hS) hP (c_yX7_copies l G ad hI τ 3 1 (by decide) (by decide) (fun _ => rfl) (fun _ => rfl)) ⟨rfl, rfl, by decide, by decide⟩ rfl hl.1 rfl (Nat.le_of_ble_eq_true rfl) ⟨Nat.zero_le _, Nat.zero_le _⟩ dX7_wise_97) (fun H locs hP hS => ?_)
            refine lv_iload hx hb dX7_wise_100 (lv_at hl 0 rfl) ?_
            refine lv_if_eq (tgt := 109) hx hb dX7_wise_102 (by decide) (fun c5 => ?_) (fun c5 => ?_)
            · refine lv_aload_n hx hb dX7_wise_109 rfl (lv_at hl 2 rfl) ?_
              refine lv_iconst (v := 3) hx hb dX7_wise_110 (by decide) ?_
              refine g_wrI0 hS (g_runV (As := [.int 3]) (rest := []) ky_yX7_finds lk_RX7_128 C hX (gS_b0 hI hS) hP 0 (c_yX7_finds l G ad hI (m_copies τ 3 1) 3 (by decide)) (by decide) (shM_0 G ad _) ⟨rfl, rfl, by decide, by decide⟩ rfl hl.1 rfl (Nat.le_of_ble_eq_true rfl) ⟨Nat.zero_le _, Nat.zero_le _⟩ dX7_wise_111) (fun H locs hP hS => ?_)
              exact g_iretM C hr hlk rfl (by rw [hres39, m_wise_L39, if_pos c4]) hP hS dX7_wise_114
            · exact absurd (by decide) c5
          · refine lv_iconst (v := 1) hx hb dX7_wise_82 (by decide) ?_
            refine lv_goto (tgt := 87) hx hb dX7_wise_83 (by decide) ?_
            refine lv_istore (lv' := [(4, .int 1), (3, .int (nI i)), (0, .ref (ad 0)), (1, .int glove), (2, .int v)]) hx hb dX7_wise_87 hl (by decide) rfl (fun ls hl => ?_)
            refine lv_aload_n hx hb dX7_wise_89 rfl (lv_at hl 2 rfl) ?_
            refine g_get fd_RX7_16 C hX hP 0 (by decide) (shM_0 G ad _) (v := .ref (ad 3)) rfl dX7_wise_90 ?_
            refine lv_aload_n hx hb dX7_wise_93 rfl (lv_at hl 2 rfl) ?_
            refine g_get fd_RX7_7 C hX hP 0 (by decide) (shM_0 G ad _) (v := .ref (ad 1)) rfl dX7_wise_94 ?_
            refine g_wrV0 hS (g_runSW (As := [.ref (ad 3), .ref (ad 1)]) (rest := []) ky_yX7_copies lk_RX7_167 C hX (gS_b0 hI hS) hP (c_yX7_copies l G ad hI τ 3 1 (by decide) (by decide) (fun _ => rfl) (fun _ => rfl)) ⟨rfl, rfl, by decide, by decide⟩ rfl hl.1 rfl (Nat.le_of_ble_eq_true rfl) ⟨Nat.zero_le _, Nat.zero_le _⟩ dX7_wise_97) (fun H locs hP hS => ?_)
            refine lv_iload hx hb dX7_wise_100 (lv_at hl 0 rfl) ?_
            refine lv_if_eq (tgt := 109) hx hb dX7_wise_102 (by decide) (fun c6 => ?_) (fun c6 => ?_)
            · exact absurd c6 (by decide)
            · refine lv_iload_n hx hb dX7_wise_105 rfl (lv_at hl 1 rfl) ?_
              refine lv_goto (tgt := 114) hx hb dX7_wise_106 (by decide) ?_
              exact g_iretM C hr hlk rfl (by rw [hres39, m_wise_L39, if_neg c4]) hP hS dX7_wise_114
        · exact absurd (show nI (200) ≤ nI i from nI_le (by omega) (by omega)) c3
      | succ n39 ih39 =>
        intro i τ H locs ls hi39 hn hv hres39 hP hS hl
        refine lv_iload_n hx hb dX7_wise_39 rfl (lv_at hl 0 rfl) ?_
        refine lv_sipush (v := 200) hx hb dX7_wise_40 (by decide) ?_
        refine lv_icmp_ge (tgt := 69) hx hb dX7_wise_43 (by decide) (fun c7 => ?_) (fun c7 => ?_)
        · exact absurd (show nI (200) ≤ nI i from c7) (nI_ge (by omega) (by omega))
        · refine lv_aload_n hx hb dX7_wise_46 rfl (lv_at hl 1 rfl) ?_
          refine lv_iload_n hx hb dX7_wise_47 rfl (lv_at hl 2 rfl) ?_
          refine lv_as (y := (nI (nN glove))) hg1 ?_
          refine lv_iconst (v := 5) hx hb dX7_wise_48 (by decide) ?_
          refine g_rd (g_runV (As := [.int (nI (nN glove)), .int 5]) (rest := []) ky_yX7_its lk_RX7_58 C hX (gS_b0 hI hS) hP 0 (c_yX7_its l G ad hI τ (nN glove) 5 (by omega) (by decide)) (by decide) (shM_0 G ad _) ⟨rfl, rfl, by decide, by decide⟩ rfl hl.1 rfl (Nat.le_of_ble_eq_true rfl) ⟨Nat.zero_le _, Nat.zero_le _⟩ dX7_wise_49) ?_
          refine g_rd (g_runS (As := [.int (m_its τ (nN glove) 5)]) (rest := []) ky_yX7_ones lk_RX7_84 C (c_yX7_ones l (m_its τ (nN glove) 5)) ⟨rfl, rfl, by decide, by decide⟩ rfl hl.1 rfl (Nat.le_of_ble_eq_true rfl) ⟨Nat.zero_le _, Nat.zero_le _⟩ dX7_wise_52) ?_
          refine lv_iload_n hx hb dX7_wise_55 rfl (lv_at hl 3 rfl) ?_
          refine lv_icmp_ge (tgt := 69) hx hb dX7_wise_56 (by decide) (fun c8 => ?_) (fun c8 => ?_)
          · refine lv_aload_n hx hb dX7_wise_69 rfl (lv_at hl 1 rfl) ?_
            refine lv_iload_n hx hb dX7_wise_70 rfl (lv_at hl 2 rfl) ?_
            refine lv_as (y := (nI (nN glove))) hg1 ?_
            refine lv_iconst (v := 5) hx hb dX7_wise_71 (by decide) ?_
            refine g_rd (g_runV (As := [.int (nI (nN glove)), .int 5]) (rest := []) ky_yX7_its lk_RX7_58 C hX (gS_b0 hI hS) hP 0 (c_yX7_its l G ad hI τ (nN glove) 5 (by omega) (by decide)) (by decide) (shM_0 G ad _) ⟨rfl, rfl, by decide, by decide⟩ rfl hl.1 rfl (Nat.le_of_ble_eq_true rfl) ⟨Nat.zero_le _, Nat.zero_le _⟩ dX7_wise_72) ?_
            refine g_rd (g_runS (As := [.int (m_its τ (nN glove) 5)]) (rest := []) ky_yX7_ones lk_RX7_84 C (c_yX7_ones l (m_its τ (nN glove) 5)) ⟨rfl, rfl, by decide, by decide⟩ rfl hl.1 rfl (Nat.le_of_ble_eq_true rfl) ⟨Nat.zero_le _, Nat.zero_le _⟩ dX7_wise_75) ?_
            refine lv_iload_n hx hb dX7_wise_78 rfl (lv_at hl 3 rfl) ?_
            refine lv_icmp_lt (tgt := 86) hx hb dX7_wise_79 (by decide) (fun c9 => ?_) (fun c9 => ?_)
            · refine lv_iconst (v := 0) hx hb dX7_wise_86 (by decide) ?_
              refine lv_istore (lv' := [(4, .int 0), (3, .int (nI i)), (0, .ref (ad 0)), (1, .int glove), (2, .int v)]) hx hb dX7_wise_87 hl (by decide) rfl (fun ls hl => ?_)
              refine lv_aload_n hx hb dX7_wise_89 rfl (lv_at hl 2 rfl) ?_
              refine g_get fd_RX7_16 C hX hP 0 (by decide) (shM_0 G ad _) (v := .ref (ad 3)) rfl dX7_wise_90 ?_
              refine lv_aload_n hx hb dX7_wise_93 rfl (lv_at hl 2 rfl) ?_
              refine g_get fd_RX7_7 C hX hP 0 (by decide) (shM_0 G ad _) (v := .ref (ad 1)) rfl dX7_wise_94 ?_
              refine g_wrV0 hS (g_runSW (As := [.ref (ad 3), .ref (ad 1)]) (rest := []) ky_yX7_copies lk_RX7_167 C hX (gS_b0 hI hS) hP (c_yX7_copies l G ad hI τ 3 1 (by decide) (by decide) (fun _ => rfl) (fun _ => rfl)) ⟨rfl, rfl, by decide, by decide⟩ rfl hl.1 rfl (Nat.le_of_ble_eq_true rfl) ⟨Nat.zero_le _, Nat.zero_le _⟩ dX7_wise_97) (fun H locs hP hS => ?_)
              refine lv_iload hx hb dX7_wise_100 (lv_at hl 0 rfl) ?_
              refine lv_if_eq (tgt := 109) hx hb dX7_wise_102 (by decide) (fun c10 => ?_) (fun c10 => ?_)
              · refine lv_aload_n hx hb dX7_wise_109 rfl (lv_at hl 2 rfl) ?_
                refine lv_iconst (v := 3) hx hb dX7_wise_110 (by decide) ?_
                refine g_wrI0 hS (g_runV (As := [.int 3]) (rest := []) ky_yX7_finds lk_RX7_128 C hX (gS_b0 hI hS) hP 0 (c_yX7_finds l G ad hI (m_copies τ 3 1) 3 (by decide)) (by decide) (shM_0 G ad _) ⟨rfl, rfl, by decide, by decide⟩ rfl hl.1 rfl (Nat.le_of_ble_eq_true rfl) ⟨Nat.zero_le _, Nat.zero_le _⟩ dX7_wise_111) (fun H locs hP hS => ?_)
                exact g_iretM C hr hlk rfl (by rw [hres39, m_wise_L39, if_pos c8, if_pos c9]) hP hS dX7_wise_114
              · exact absurd (by decide) c10
            · refine lv_iconst (v := 1) hx hb dX7_wise_82 (by decide) ?_
              refine lv_goto (tgt := 87) hx hb dX7_wise_83 (by decide) ?_
              refine lv_istore (lv' := [(4, .int 1), (3, .int (nI i)), (0, .ref (ad 0)), (1, .int glove), (2, .int v)]) hx hb dX7_wise_87 hl (by decide) rfl (fun ls hl => ?_)
              refine lv_aload_n hx hb dX7_wise_89 rfl (lv_at hl 2 rfl) ?_
              refine g_get fd_RX7_16 C hX hP 0 (by decide) (shM_0 G ad _) (v := .ref (ad 3)) rfl dX7_wise_90 ?_
              refine lv_aload_n hx hb dX7_wise_93 rfl (lv_at hl 2 rfl) ?_
              refine g_get fd_RX7_7 C hX hP 0 (by decide) (shM_0 G ad _) (v := .ref (ad 1)) rfl dX7_wise_94 ?_
              refine g_wrV0 hS (g_runSW (As := [.ref (ad 3), .ref (ad 1)]) (rest := []) ky_yX7_copies lk_RX7_167 C hX (gS_b0 hI hS) hP (c_yX7_copies l G ad hI τ 3 1 (by decide) (by decide) (fun _ => rfl) (fun _ => rfl)) ⟨rfl, rfl, by decide, by decide⟩ rfl hl.1 rfl (Nat.le_of_ble_eq_true rfl) ⟨Nat.zero_le _, Nat.zero_le _⟩ dX7_wise_97) (fun H locs hP hS => ?_)
              refine lv_iload hx hb dX7_wise_100 (lv_at hl 0 rfl) ?_
              refine lv_if_eq (tgt := 109) hx hb dX7_wise_102 (by decide) (fun c11 => ?_) (fun c11 => ?_)
              · exact absurd c11 (by decide)
              · refine lv_iload_n hx hb dX7_wise_105 rfl (lv_at hl 1 rfl) ?_
                refine lv_goto (tgt := 114) hx hb dX7_wise_106 (by decide) ?_
                exact g_iretM C hr hlk rfl (by rw [hres39, m_wise_L39, if_pos c8, if_neg c9]) hP hS dX7_wise_114
          · refine lv_aload_n hx hb dX7_wise_59 rfl (lv_at hl 1 rfl) ?_
            refine g_wrV0 hS (g_runV (As := []) (rest := []) ky_yX7_dayGoes lk_RX7_113 C hX (gS_b0 hI hS) hP 0 (c_yX7_dayGoes l G ad hI τ  N hN hn hv) (by decide) (shM_0 G ad _) ⟨rfl, rfl, by decide, by decide⟩ rfl hl.1 rfl (Nat.le_of_ble_eq_true rfl) ⟨Nat.zero_le _, Nat.zero_le _⟩ dX7_wise_60) (fun H locs hP hS => ?_)
            refine lv_iinc (v := (nI (i + 1))) (lv' := [(3, .int (nI (i + 1))), (0, .ref (ad 0)), (1, .int glove), (2, .int v)]) hx hb dX7_wise_63 hl (k := 0) rfl (by exact nI_1 _) (by decide) rfl (fun ls hl => ?_)
            refine lv_goto (tgt := 39) hx hb dX7_wise_66 (by decide) ?_
            exact ih39 (i + 1) (m_dayGoes τ) _ _ _ (by omega) ((dg_N _).trans hn) (dg_D _) (by rw [hres39, m_wise_L39, if_neg c8]) hP hS (lv_sub hl [0, 1, 2, 3] rfl)
    · refine lv_aload_n hx hb dX7_wise_20 rfl (lv_at hl 0 rfl) ?_
      refine lv_iconst (v := 0) hx hb dX7_wise_21 (by decide) ?_
      refine g_wrI0 hS (g_runV (As := [.int 0]) (rest := []) ky_yX7_finds lk_RX7_128 C hX (gS_b0 hI hS) hP 0 (c_yX7_finds l G ad hI σ 0 (by decide)) (by decide) (shM_0 G ad _) ⟨rfl, rfl, by decide, by decide⟩ rfl hl.1 rfl (Nat.le_of_ble_eq_true rfl) ⟨Nat.zero_le _, Nat.zero_le _⟩ dX7_wise_22) (fun H locs hP hS => ?_)
      exact g_iretM C hr hlk rfl (by rw [m_wise, if_neg c1, if_pos c2]) hP hS dX7_wise_25

def m_areKnown (σ : gM) (topics : Int32) : Int32 := if (topics &&& (((m_allKnow σ) ||| (m_allHands σ)) ^^^ (-1))) = 0 then 1 else 0
def rm_yX7_areKnown : Room := { frames := 3, cells := 0, slots := 0, locals := 66 }
set_option maxHeartbeats 4000000 in
set_option maxRecDepth 100000 in
theorem c_yX7_areKnown (l : Launch) (G : gG) (ad : Nat → Nat) (hI : gI G.2.2.1 11 ad) (σ : gM) (topics : Int32) (N : Nat) (hN : N ≤ 8) (hs : σ 1 0 = nI N) : gRead l yX7_areKnown cX7_areKnown 2 (some .boolean) rm_yX7_areKnown G [.ref (ad 0), .int topics] 11 ad (gE (shM G ad) σ) (m_areKnown σ topics) := by
  refine g_start [.ref (ad 0), .int topics] (by decide +kernel) (Nat.le_of_ble_eq_true rfl) ?_
  intro p e s m below meth c ls B Z hl
  obtain ⟨C, hr, hlk⟩ := B
  have hx := C.1
  have hb := C.2.1
  obtain ⟨hX, hP⟩ := Z
  have hS : va_S (gA 11 ad) s.heap s.heap [] := va_S.rf
  have hl : lv_has ls 2 [(0, .ref (ad 0)), (1, .int topics)] := hl
  refine lv_iload_n hx hb dX7_areKnown_0 rfl (lv_at hl 1 rfl) ?_
  refine lv_aload_n hx hb dX7_areKnown_1 rfl (lv_at hl 0 rfl) ?_
  refine g_rd (g_runV (As := []) (rest := [.int topics]) ky_yX7_allKnow lk_RX7_155 C hX (gS_b0 hI hS) hP 0 (c_yX7_allKnow l G ad hI σ  N hN hs) (by decide) (shM_0 G ad _) ⟨rfl, rfl, by decide, by decide⟩ rfl hl.1 rfl (Nat.le_of_ble_eq_true rfl) ⟨Nat.zero_le _, Nat.zero_le _⟩ dX7_areKnown_2) ?_
  refine lv_aload_n hx hb dX7_areKnown_5 rfl (lv_at hl 0 rfl) ?_
  refine g_rd (g_runV (As := []) (rest := [.int (m_allKnow σ), .int topics]) ky_yX7_allHands lk_RX7_158 C hX (gS_b0 hI hS) hP 0 (c_yX7_allHands l G ad hI σ  N hN hs) (by decide) (shM_0 G ad _) ⟨rfl, rfl, by decide, by decide⟩ rfl hl.1 rfl (Nat.le_of_ble_eq_true rfl) ⟨Nat.zero_le _, Nat.zero_le _⟩ dX7_areKnown_6) ?_
  refine lv_ior hx hb dX7_areKnown_9 ?_
  refine lv_iconst (v := (-1)) hx hb dX7_areKnown_10 (by decide) ?_
  refine lv_ixor hx hb dX7_areKnown_11 ?_
  refine lv_iand hx hb dX7_areKnown_12 ?_
  refine lv_if_ne (tgt := 20) hx hb dX7_areKnown_13 (by decide) (fun c1 => ?_) (fun c1 => ?_)
  · refine lv_iconst (v := 0) hx hb dX7_areKnown_20 (by decide) ?_
    exact g_iret C hr hlk rfl (by rw [m_areKnown, if_neg c1]) rfl rfl dX7_areKnown_21
  · refine lv_iconst (v := 1) hx hb dX7_areKnown_16 (by decide) ?_
    refine lv_goto (tgt := 21) hx hb dX7_areKnown_17 (by decide) ?_
    exact g_iret C hr hlk rfl (by rw [m_areKnown, if_pos c1]) rfl rfl dX7_areKnown_21

def m_out_L26 (σ : gM) (topics : Int32) (σ1 : gM) : Nat → Nat → gM → Int32 × gM
  | 0, i, τ => if (m_areKnown τ topics) = 0 then ((m_finds (m_copies τ 3 1) 3).1, (m_finds (m_copies τ 3 1) 3).2) else ((nI i), (m_copies τ 3 1))
  | n26 + 1, i, τ => if (m_areKnown τ topics) = 0 then (m_out_L26 σ topics σ1 n26 (i + 1) (m_dayGoes τ)) else (if (m_areKnown τ topics) = 0 then ((m_finds (m_copies τ 3 1) 3).1, (m_finds (m_copies τ 3 1) 3).2) else ((nI i), (m_copies τ 3 1)))
def m_out_m1 (σ : gM) (topics : Int32) (σ1 : gM) : Int32 × gM := (m_out_L26 σ topics σ1 200 0 σ1)
def m_out (σ : gM) (topics : Int32) : Int32 × gM := if (m_areTopics topics) = 0 then ((m_finds σ 0).1, (m_finds σ 0).2) else (m_out_m1 σ topics (m_copies σ 1 3))
def rm_yX7_out : Room := { frames := 6, cells := 0, slots := 0, locals := 136 }
set_option maxHeartbeats 4000000 in
set_option maxRecDepth 100000 in
theorem c_yX7_out (l : Launch) (G : gG) (ad : Nat → Nat) (hI : gI G.2.2.1 11 ad) (σ : gM) (topics : Int32) (N : Nat) (hN : N ≤ 8) (hs : σ 1 0 = nI N) (hd : ¬ σ 1 1 < 0) : gMutI l yX7_out cX7_out 4 (some .int) rm_yX7_out G [.ref (ad 0), .int topics] 11 ad (shM G ad) σ (m_out σ topics) := by
  refine g_start [.ref (ad 0), .int topics] (by decide +kernel) (Nat.le_of_ble_eq_true rfl) ?_
  intro p e s m below meth c ls B Z hl
  obtain ⟨C, hr, hlk⟩ := B
  have hx := C.1
  have hb := C.2.1
  obtain ⟨hX, hP⟩ := Z
  have hS : va_S (gA 11 ad) s.heap s.heap [] := va_S.rf
  revert hP hS
  intro hP hS
  have hl : lv_has ls 4 [(0, .ref (ad 0)), (1, .int topics)] := hl
  refine lv_iload_n hx hb dX7_out_0 rfl (lv_at hl 1 rfl) ?_
  refine g_rd (g_runS (As := [.int topics]) (rest := []) ky_yX7_areTopics lk_RX7_178 C (c_yX7_areTopics l topics) ⟨rfl, rfl, by decide, by decide⟩ rfl hl.1 rfl (Nat.le_of_ble_eq_true rfl) ⟨Nat.zero_le _, Nat.zero_le _⟩ dX7_out_1) ?_
  refine lv_if_ne (tgt := 13) hx hb dX7_out_4 (by decide) (fun c1 => ?_) (fun c1 => ?_)
  · refine lv_aload_n hx hb dX7_out_13 rfl (lv_at hl 0 rfl) ?_
    refine g_get fd_RX7_7 C hX hP 0 (by decide) (shM_0 G ad _) (v := .ref (ad 1)) rfl dX7_out_14 ?_
    refine lv_aload_n hx hb dX7_out_17 rfl (lv_at hl 0 rfl) ?_
    refine g_get fd_RX7_16 C hX hP 0 (by decide) (shM_0 G ad _) (v := .ref (ad 3)) rfl dX7_out_18 ?_
    refine g_wrV0 hS (g_runSW (As := [.ref (ad 1), .ref (ad 3)]) (rest := []) ky_yX7_copies lk_RX7_167 C hX (gS_b0 hI hS) hP (c_yX7_copies l G ad hI σ 1 3 (by decide) (by decide) (fun _ => rfl) (fun _ => rfl)) ⟨rfl, rfl, by decide, by decide⟩ rfl hl.1 rfl (Nat.le_of_ble_eq_true rfl) ⟨Nat.zero_le _, Nat.zero_le _⟩ dX7_out_21) (fun H locs hP hS => ?_)
    obtain ⟨σ1, eσ1⟩ : ∃ τ_ : gM, τ_ = (m_copies σ 1 3) := ⟨_, rfl⟩
    rw [← eσ1] at hP
    have hs1 : σ1 1 0 = nI N := by rw [eσ1, cp_row (by decide) _ (by decide)]; exact hs
    have hd1 : ¬ σ1 1 1 < 0 := by rw [eσ1, cp_row (by decide) _ (by decide)]; exact hd
    have hA1 : ∀ j, j < 75 → σ1 3 j = σ 1 j := fun j hj => by rw [eσ1, cp_at (by decide) _ hj]
    have hB1 : ∀ j, j < 75 → σ1 1 j = σ 1 j := fun j hj => by rw [eσ1, cp_row (by decide) _ (by decide)]
    refine lv_iconst (v := 0) hx hb dX7_out_24 (by decide) ?_
    refine lv_istore_n (lv' := [(2, .int 0), (0, .ref (ad 0)), (1, .int topics)]) hx hb dX7_out_25 rfl hl (by decide) rfl (fun ls hl => ?_)
    suffices loop26 : ∀ (n26 : Nat) (i : Nat) (τ : gM) (H : Heap) (locs : List Loc) (ls : Array Slot), (i + n26 = 200) → (τ 1 0 = nI N) → (¬ τ 1 1 < 0) → m_out σ topics = (m_out_L26 σ topics σ1 n26 i τ) → gP G.1 11 ad (gE (shM G ad) τ) H → va_S (gA 11 ad) s.heap H locs → lv_has ls 4 [(2, .int (nI i)), (0, .ref (ad 0)), (1, .int topics)] → W p l e rm_yX7_out s m ([.ref (ad 0), .int topics] : List Value).toArray below meth c H locs 0 0 (MQ below (va_Qi (fun (x : Int32) (τ : gM) => m_out σ topics = (x, τ)) (fun τ t => gP G.1 11 ad (gE (shM G ad) τ) t.heap) (gA 11 ad)) ([.ref (ad 0), .int topics] : List Value).toArray s 0 0 (gA 11 ad)) (F0 m 26 ls []) by
      exact loop26 200 0 σ1 _ _ _ (by omega) hs1 hd1 (by rw [m_out, if_neg c1, ← eσ1, m_out_m1]) hP hS (lv_sub hl [0, 1, 2] rfl)
    intro n26
    induction n26 with
    | zero =>
      intro i τ H locs ls hi26 hn hv hres26 hP hS hl
      refine lv_iload_n hx hb dX7_out_26 rfl (lv_at hl 0 rfl) ?_
      refine lv_sipush (v := 200) hx hb dX7_out_27 (by decide) ?_
      refine lv_icmp_ge (tgt := 51) hx hb dX7_out_30 (by decide) (fun c2 => ?_) (fun c2 => ?_)
      · refine lv_aload_n hx hb dX7_out_51 rfl (lv_at hl 1 rfl) ?_
        refine lv_iload_n hx hb dX7_out_52 rfl (lv_at hl 2 rfl) ?_
        refine g_rd (g_runV (As := [.int topics]) (rest := []) ky_yX7_areKnown lk_RX7_181 C hX (gS_b0 hI hS) hP 0 (c_yX7_areKnown l G ad hI τ topics N hN hn) (by decide) (shM_0 G ad _) ⟨rfl, rfl, by decide, by decide⟩ rfl hl.1 rfl (Nat.le_of_ble_eq_true rfl) ⟨Nat.zero_le _, Nat.zero_le _⟩ dX7_out_53) ?_
        refine lv_istore_n (lv' := [(3, .int (m_areKnown τ topics)), (2, .int (nI i)), (0, .ref (ad 0)), (1, .int topics)]) hx hb dX7_out_56 rfl hl (by decide) rfl (fun ls hl => ?_)
        refine lv_aload_n hx hb dX7_out_57 rfl (lv_at hl 2 rfl) ?_
        refine g_get fd_RX7_16 C hX hP 0 (by decide) (shM_0 G ad _) (v := .ref (ad 3)) rfl dX7_out_58 ?_
        refine lv_aload_n hx hb dX7_out_61 rfl (lv_at hl 2 rfl) ?_
        refine g_get fd_RX7_7 C hX hP 0 (by decide) (shM_0 G ad _) (v := .ref (ad 1)) rfl dX7_out_62 ?_
        refine g_wrV0 hS (g_runSW (As := [.ref (ad 3), .ref (ad 1)]) (rest := []) ky_yX7_copies lk_RX7_167 C hX (gS_b0 hI hS) hP (c_yX7_copies l G ad hI τ 3 1 (by decide) (by decide) (fun _ => rfl) (fun _ => rfl)) ⟨rfl, rfl, by decide, by decide⟩ rfl hl.1 rfl (Nat.le_of_ble_eq_true rfl) ⟨Nat.zero_le _, Nat.zero_le _⟩ dX7_out_65) (fun H locs hP hS => ?_)
        refine lv_iload_n hx hb dX7_out_68 rfl (lv_at hl 0 rfl) ?_
        refine lv_if_eq (tgt := 76) hx hb dX7_out_69 (by decide) (fun c3 => ?_) (fun c3 => ?_)
        · refine lv_aload_n hx hb dX7_out_76 rfl (lv_at hl 2 rfl) ?_
          refine lv_iconst (v := 3) hx hb dX7_out_77 (by decide) ?_
          refine g_wrI0 hS (g_runV (As := [.int 3]) (rest := []) ky_yX7_finds lk_RX7_128 C hX (gS_b0 hI hS) hP 0 (c_yX7_finds l G ad hI (m_copies τ 3 1) 3 (by decide)) (by decide) (shM_0 G ad _) ⟨rfl, rfl, by decide, by decide⟩ rfl hl.1 rfl (Nat.le_of_ble_eq_true rfl) ⟨Nat.zero_le _, Nat.zero_le _⟩ dX7_out_78) (fun H locs hP hS => ?_)
          exact g_iretM C hr hlk rfl (by rw [hres26, m_out_L26, if_pos c3]) hP hS dX7_out_81
        · refine lv_iload_n hx hb dX7_out_72 rfl (lv_at hl 1 rfl) ?_
          refine lv_goto (tgt := 81) hx hb dX7_out_73 (by decide) ?_
          exact g_iretM C hr hlk rfl (by rw [hres26, m_out_L26, if_neg c3]) hP hS dX7_out_81
      · exact absurd (show nI (200) ≤ nI i from nI_le (by omega) (by omega)) c2
    | succ n26 ih26 =>
      intro i τ H locs ls hi26 hn hv hres26 hP hS hl
      refine lv_iload_n hx hb dX7_out_26 rfl (lv_at hl 0 rfl) ?_
      refine lv_sipush (v := 200) hx hb dX7_out_27 (by decide) ?_
      refine lv_icmp_ge (tgt := 51) hx hb dX7_out_30 (by decide) (fun c4 => ?_) (fun c4 => ?_)
      · exact absurd (show nI (200) ≤ nI i from c4) (nI_ge (by omega) (by omega))
      · refine lv_aload_n hx hb dX7_out_33 rfl (lv_at hl 1 rfl) ?_
        refine lv_iload_n hx hb dX7_out_34 rfl (lv_at hl 2 rfl) ?_
        refine g_rd (g_runV (As := [.int topics]) (rest := []) ky_yX7_areKnown lk_RX7_181 C hX (gS_b0 hI hS) hP 0 (c_yX7_areKnown l G ad hI τ topics N hN hn) (by decide) (shM_0 G ad _) ⟨rfl, rfl, by decide, by decide⟩ rfl hl.1 rfl (Nat.le_of_ble_eq_true rfl) ⟨Nat.zero_le _, Nat.zero_le _⟩ dX7_out_35) ?_
        refine lv_if_ne (tgt := 51) hx hb dX7_out_38 (by decide) (fun c5 => ?_) (fun c5 => ?_)
        · refine lv_aload_n hx hb dX7_out_51 rfl (lv_at hl 1 rfl) ?_
          refine lv_iload_n hx hb dX7_out_52 rfl (lv_at hl 2 rfl) ?_
          refine g_rd (g_runV (As := [.int topics]) (rest := []) ky_yX7_areKnown lk_RX7_181 C hX (gS_b0 hI hS) hP 0 (c_yX7_areKnown l G ad hI τ topics N hN hn) (by decide) (shM_0 G ad _) ⟨rfl, rfl, by decide, by decide⟩ rfl hl.1 rfl (Nat.le_of_ble_eq_true rfl) ⟨Nat.zero_le _, Nat.zero_le _⟩ dX7_out_53) ?_
          refine lv_istore_n (lv' := [(3, .int (m_areKnown τ topics)), (2, .int (nI i)), (0, .ref (ad 0)), (1, .int topics)]) hx hb dX7_out_56 rfl hl (by decide) rfl (fun ls hl => ?_)
          refine lv_aload_n hx hb dX7_out_57 rfl (lv_at hl 2 rfl) ?_
          refine g_get fd_RX7_16 C hX hP 0 (by decide) (shM_0 G ad _) (v := .ref (ad 3)) rfl dX7_out_58 ?_
          refine lv_aload_n hx hb dX7_out_61 rfl (lv_at hl 2 rfl) ?_
          refine g_get fd_RX7_7 C hX hP 0 (by decide) (shM_0 G ad _) (v := .ref (ad 1)) rfl dX7_out_62 ?_
          refine g_wrV0 hS (g_runSW (As := [.ref (ad 3), .ref (ad 1)]) (rest := []) ky_yX7_copies lk_RX7_167 C hX (gS_b0 hI hS) hP (c_yX7_copies l G ad hI τ 3 1 (by decide) (by decide) (fun _ => rfl) (fun _ => rfl)) ⟨rfl, rfl, by decide, by decide⟩ rfl hl.1 rfl (Nat.le_of_ble_eq_true rfl) ⟨Nat.zero_le _, Nat.zero_le _⟩ dX7_out_65) (fun H locs hP hS => ?_)
          refine lv_iload_n hx hb dX7_out_68 rfl (lv_at hl 0 rfl) ?_
          refine lv_if_eq (tgt := 76) hx hb dX7_out_69 (by decide) (fun c6 => ?_) (fun c6 => ?_)
          · refine lv_aload_n hx hb dX7_out_76 rfl (lv_at hl 2 rfl) ?_
            refine lv_iconst (v := 3) hx hb dX7_out_77 (by decide) ?_
            refine g_wrI0 hS (g_runV (As := [.int 3]) (rest := []) ky_yX7_finds lk_RX7_128 C hX (gS_b0 hI hS) hP 0 (c_yX7_finds l G ad hI (m_copies τ 3 1) 3 (by decide)) (by decide) (shM_0 G ad _) ⟨rfl, rfl, by decide, by decide⟩ rfl hl.1 rfl (Nat.le_of_ble_eq_true rfl) ⟨Nat.zero_le _, Nat.zero_le _⟩ dX7_out_78) (fun H locs hP hS => ?_)
            exact g_iretM C hr hlk rfl (by rw [hres26, m_out_L26, if_neg c5, if_pos c6]) hP hS dX7_out_81
          · refine lv_iload_n hx hb dX7_out_72 rfl (lv_at hl 1 rfl) ?_
            refine lv_goto (tgt := 81) hx hb dX7_out_73 (by decide) ?_
            exact g_iretM C hr hlk rfl (by rw [hres26, m_out_L26, if_neg c5, if_neg c6]) hP hS dX7_out_81
        · refine lv_aload_n hx hb dX7_out_41 rfl (lv_at hl 1 rfl) ?_
          refine g_wrV0 hS (g_runV (As := []) (rest := []) ky_yX7_dayGoes lk_RX7_113 C hX (gS_b0 hI hS) hP 0 (c_yX7_dayGoes l G ad hI τ  N hN hn hv) (by decide) (shM_0 G ad _) ⟨rfl, rfl, by decide, by decide⟩ rfl hl.1 rfl (Nat.le_of_ble_eq_true rfl) ⟨Nat.zero_le _, Nat.zero_le _⟩ dX7_out_42) (fun H locs hP hS => ?_)
          refine lv_iinc (v := (nI (i + 1))) (lv' := [(2, .int (nI (i + 1))), (0, .ref (ad 0)), (1, .int topics)]) hx hb dX7_out_45 hl (k := 0) rfl (by exact nI_1 _) (by decide) rfl (fun ls hl => ?_)
          refine lv_goto (tgt := 26) hx hb dX7_out_48 (by decide) ?_
          exact ih26 (i + 1) (m_dayGoes τ) _ _ _ (by omega) ((dg_N _).trans hn) (dg_D _) (by rw [hres26, m_out_L26, if_pos c5]) hP hS (lv_sub hl [0, 1, 2] rfl)
  · refine lv_aload_n hx hb dX7_out_7 rfl (lv_at hl 0 rfl) ?_
    refine lv_iconst (v := 0) hx hb dX7_out_8 (by decide) ?_
    refine g_wrI0 hS (g_runV (As := [.int 0]) (rest := []) ky_yX7_finds lk_RX7_128 C hX (gS_b0 hI hS) hP 0 (c_yX7_finds l G ad hI σ 0 (by decide)) (by decide) (shM_0 G ad _) ⟨rfl, rfl, by decide, by decide⟩ rfl hl.1 rfl (Nat.le_of_ble_eq_true rfl) ⟨Nat.zero_le _, Nat.zero_le _⟩ dX7_out_9) (fun H locs hP hS => ?_)
    exact g_iretM C hr hlk rfl (by rw [m_out, if_pos c1]) hP hS dX7_out_12

theorem bh_2 (σ : gM) (k w : Nat) : (m_behind σ k w).2 = m_copies (m_daysGo σ k) 3 1 := rfl
theorem bh_3 (σ : gM) (k w : Nat) : (m_behind σ k w).2 3 = σ 3 := by
  rw [bh_2, cp_row (by decide) _ (by decide), dys_row _ _ (by decide)]
theorem bh_1 (σ : gM) (k w : Nat) {j : Nat} (hj : j < 75) : (m_behind σ k w).2 1 j = σ 3 j := by
  rw [bh_2, cp_at (by decide) _ hj, dys_row _ _ (by decide)]
theorem odds_q {x : Int32} {n : Nat} (hq : ∃ q, q + 1 = n + 1 ∧ q ≤ 4 ∧ x = nI (2 ^ q)) (h : ¬ x ≤ 1) : ∃ q, q + 1 = n ∧ q ≤ 4 ∧ x / 2 = nI (2 ^ q) := by
  obtain ⟨q, h1, h2, h3⟩ := hq
  subst h3
  obtain rfl | rfl | rfl | rfl | rfl : q = 0 ∨ q = 1 ∨ q = 2 ∨ q = 3 ∨ q = 4 := by omega
  · exact absurd (by decide) h
  · exact ⟨0, by omega, by decide, by decide⟩
  · exact ⟨1, by omega, by decide, by decide⟩
  · exact ⟨2, by omega, by decide, by decide⟩
  · exact ⟨3, by omega, by decide, by decide⟩
theorem ix_49 (g : Nat) : (49 : Int32) + nI g = nI (49 + g) := by
  show nI 49 + nI g = _
  rw [nI_add]
theorem ix_49' {g : Int32} (h : g = nI (nN g)) : (49 : Int32) + g = nI (49 + nN g) := by
  have := ix_49 (nN g)
  rw [← h] at this
  exact this
theorem shl1 {N : Nat} (h : N ≤ 8) : jshl 1 (nI N) = nI (2 ^ N) := by
  obtain rfl | rfl | rfl | rfl | rfl | rfl | rfl | rfl | rfl : N = 0 ∨ N = 1 ∨ N = 2 ∨ N = 3 ∨ N = 4 ∨ N = 5 ∨ N = 6 ∨ N = 7 ∨ N = 8 := by omega
  all_goals decide
theorem pow8 {N : Nat} (h : N ≤ 8) : 2 ^ N ≤ 256 := Nat.pow_le_pow_right (n := 2) (by decide) h

def m_bestOf_L20 (σ : gM) (g : Nat) (w : Nat) (most : Nat) (k : Nat) (σ1 : gM) : Nat → Nat → Int32 → Int32 → gM → Int32 × gM
  | 0, i, best, top, τ => (best, τ)
  | n20 + 1, i, best, top, τ => if (m_ones (m_behind (m_sets τ g w (nI i)) k (49 + g)).1) ≤ top then (m_bestOf_L20 σ g w most k σ1 n20 (i + 1) best top ((m_behind (m_sets τ g w (nI i)) k (49 + g)).2)) else (m_bestOf_L20 σ g w most k σ1 n20 (i + 1) (nI i) ((m_ones (m_behind (m_sets τ g w (nI i)) k (49 + g)).1)) ((m_behind (m_sets τ g w (nI i)) k (49 + g)).2))
def m_bestOf_m1 (σ : gM) (g : Nat) (w : Nat) (most : Nat) (k : Nat) (σ1 : gM) : Int32 × gM := (m_bestOf_L20 σ g w most k σ1 (most + 1) 0 0 (-1) σ1)
def m_bestOf (σ : gM) (g : Nat) (w : Nat) (most : Nat) (k : Nat) : Int32 × gM := (m_bestOf_m1 σ g w most k (m_copies σ 1 3))
def rm_yX7_bestOf : Room := { frames := 8, cells := 0, slots := 0, locals := 181 }
set_option maxHeartbeats 4000000 in
set_option maxRecDepth 100000 in
theorem c_yX7_bestOf (l : Launch) (G : gG) (ad : Nat → Nat) (hI : gI G.2.2.1 11 ad) (σ : gM) (g : Nat) (w : Nat) (most : Nat) (k : Nat) (N : Nat) (hN : N ≤ 8) (hs : σ 1 0 = nI N) (hd : ¬ σ 1 1 < 0) (hg : g < 8) (hw : w < 7) (hm : most < 100) (hk : k < 1000) : gMutI l yX7_bestOf cX7_bestOf 9 (some .int) rm_yX7_bestOf G [.ref (ad 0), .int (nI g), .int (nI w), .int (nI most), .int (nI k)] 11 ad (shM G ad) σ (m_bestOf σ g w most k) := by
  refine g_start [.ref (ad 0), .int (nI g), .int (nI w), .int (nI most), .int (nI k)] (by decide +kernel) (Nat.le_of_ble_eq_true rfl) ?_
  intro p e s m below meth c ls B Z hl
  obtain ⟨C, hr, hlk⟩ := B
  have hx := C.1
  have hb := C.2.1
  obtain ⟨hX, hP⟩ := Z
  have hS : va_S (gA 11 ad) s.heap s.heap [] := va_S.rf
  revert hP hS
  intro hP hS
  have hl : lv_has ls 9 [(0, .ref (ad 0)), (1, .int (nI g)), (2, .int (nI w)), (3, .int (nI most)), (4, .int (nI k))] := hl
  refine lv_aload_n hx hb dX7_bestOf_0 rfl (lv_at hl 0 rfl) ?_
  refine g_get fd_RX7_7 C hX hP 0 (by decide) (shM_0 G ad _) (v := .ref (ad 1)) rfl dX7_bestOf_1 ?_
  refine lv_aload_n hx hb dX7_bestOf_4 rfl (lv_at hl 0 rfl) ?_
  refine g_get fd_RX7_16 C hX hP 0 (by decide) (shM_0 G ad _) (v := .ref (ad 3)) rfl dX7_bestOf_5 ?_
  refine g_wrV0 hS (g_runSW (As := [.ref (ad 1), .ref (ad 3)]) (rest := []) ky_yX7_copies lk_RX7_167 C hX (gS_b0 hI hS) hP (c_yX7_copies l G ad hI σ 1 3 (by decide) (by decide) (fun _ => rfl) (fun _ => rfl)) ⟨rfl, rfl, by decide, by decide⟩ rfl hl.1 rfl (Nat.le_of_ble_eq_true rfl) ⟨Nat.zero_le _, Nat.zero_le _⟩ dX7_bestOf_8) (fun H locs hP hS => ?_)
  obtain ⟨σ1, eσ1⟩ : ∃ τ_ : gM, τ_ = (m_copies σ 1 3) := ⟨_, rfl⟩
  rw [← eσ1] at hP
  have hs1 : σ1 1 0 = nI N := by rw [eσ1, cp_row (by decide) _ (by decide)]; exact hs
  have hd1 : ¬ σ1 1 1 < 0 := by rw [eσ1, cp_row (by decide) _ (by decide)]; exact hd
  have hA1 : ∀ j, j < 75 → σ1 3 j = σ 1 j := fun j hj => by rw [eσ1, cp_at (by decide) _ hj]
  have hB1 : ∀ j, j < 75 → σ1 1 j = σ 1 j := fun j hj => by rw [eσ1, cp_row (by decide) _ (by decide)]
  refine lv_iconst (v := 0) hx hb dX7_bestOf_11 (by decide) ?_
  refine lv_istore (lv' := [(5, .int 0), (0, .ref (ad 0)), (1, .int (nI g)), (2, .int (nI w)), (3, .int (nI most)), (4, .int (nI k))]) hx hb dX7_bestOf_12 hl (by decide) rfl (fun ls hl => ?_)
  refine lv_iconst (v := (-1)) hx hb dX7_bestOf_14 (by decide) ?_
  refine lv_istore (lv' := [(6, .int (-1)), (5, .int 0), (0, .ref (ad 0)), (1, .int (nI g)), (2, .int (nI w)), (3, .int (nI most)), (4, .int (nI k))]) hx hb dX7_bestOf_15 hl (by decide) rfl (fun ls hl => ?_)
  refine lv_iconst (v := 0) hx hb dX7_bestOf_17 (by decide) ?_
  refine lv_istore (lv' := [(7, .int 0), (6, .int (-1)), (5, .int 0), (0, .ref (ad 0)), (1, .int (nI g)), (2, .int (nI w)), (3, .int (nI most)), (4, .int (nI k))]) hx hb dX7_bestOf_18 hl (by decide) rfl (fun ls hl => ?_)
  suffices loop20 : ∀ (n20 : Nat) (i : Nat) (best : Int32) (top : Int32) (τ : gM) (H : Heap) (locs : List Loc) (ls : Array Slot), (i + n20 = most + 1) → (∀ j, j < 75 → τ 3 j = σ 1 j) → (∀ j, j < 75 → τ 1 j = σ 1 j) → m_bestOf σ g w most k = (m_bestOf_L20 σ g w most k σ1 n20 i best top τ) → gP G.1 11 ad (gE (shM G ad) τ) H → va_S (gA 11 ad) s.heap H locs → lv_has ls 9 [(7, .int (nI i)), (6, .int top), (5, .int best), (0, .ref (ad 0)), (1, .int (nI g)), (2, .int (nI w)), (3, .int (nI most)), (4, .int (nI k))] → W p l e rm_yX7_bestOf s m ([.ref (ad 0), .int (nI g), .int (nI w), .int (nI most), .int (nI k)] : List Value).toArray below meth c H locs 0 0 (MQ below (va_Qi (fun (x : Int32) (τ : gM) => m_bestOf σ g w most k = (x, τ)) (fun τ t => gP G.1 11 ad (gE (shM G ad) τ) t.heap) (gA 11 ad)) ([.ref (ad 0), .int (nI g), .int (nI w), .int (nI most), .int (nI k)] : List Value).toArray s 0 0 (gA 11 ad)) (F0 m 20 ls []) by
    exact loop20 (most + 1) 0 0 (-1) σ1 _ _ _ (by omega) hA1 hB1 (by rw [m_bestOf, ← eσ1, m_bestOf_m1]) hP hS (lv_sub hl [0, 1, 2, 3, 4, 5, 6, 7] rfl)
  intro n20
  induction n20 with
  | zero =>
    intro i best top τ H locs ls hi20 hA hB hres20 hP hS hl
    refine lv_iload hx hb dX7_bestOf_20 (lv_at hl 0 rfl) ?_
    refine lv_iload_n hx hb dX7_bestOf_22 rfl (lv_at hl 6 rfl) ?_
    refine lv_icmp_gt (tgt := 70) hx hb dX7_bestOf_23 (by decide) (fun c1 => ?_) (fun c1 => ?_)
    · refine lv_iload hx hb dX7_bestOf_70 (lv_at hl 2 rfl) ?_
      exact g_iretM C hr hlk rfl (by rw [hres20, m_bestOf_L20]) hP hS dX7_bestOf_72
    · exact absurd (show nI most < nI i from nI_lt (by omega) (by omega)) c1
  | succ n20 ih20 =>
    intro i best top τ H locs ls hi20 hA hB hres20 hP hS hl
    refine lv_iload hx hb dX7_bestOf_20 (lv_at hl 0 rfl) ?_
    refine lv_iload_n hx hb dX7_bestOf_22 rfl (lv_at hl 6 rfl) ?_
    refine lv_icmp_gt (tgt := 70) hx hb dX7_bestOf_23 (by decide) (fun c2 => ?_) (fun c2 => ?_)
    · exact absurd (show nI most < nI i from c2) (nI_nlt (by omega) (by omega))
    · refine lv_aload_n hx hb dX7_bestOf_26 rfl (lv_at hl 3 rfl) ?_
      refine lv_iload_n hx hb dX7_bestOf_27 rfl (lv_at hl 4 rfl) ?_
      refine lv_iload_n hx hb dX7_bestOf_28 rfl (lv_at hl 5 rfl) ?_
      refine lv_iload hx hb dX7_bestOf_29 (lv_at hl 0 rfl) ?_
      refine g_wrV0 hS (g_runV (As := [.int (nI g), .int (nI w), .int (nI i)]) (rest := []) ky_yX7_sets lk_RX7_90 C hX (gS_b0 hI hS) hP 0 (c_yX7_sets l G ad hI τ g w (nI i) hg hw) (by decide) (shM_0 G ad _) ⟨rfl, rfl, by decide, by decide⟩ rfl hl.1 rfl (Nat.le_of_ble_eq_true rfl) ⟨Nat.zero_le _, Nat.zero_le _⟩ dX7_bestOf_31) (fun H locs hP hS => ?_)
      refine lv_aload_n hx hb dX7_bestOf_34 rfl (lv_at hl 3 rfl) ?_
      refine lv_iload hx hb dX7_bestOf_35 (lv_at hl 7 rfl) ?_
      refine lv_bipush (v := 49) hx hb dX7_bestOf_37 (by decide) ?_
      refine lv_iload_n hx hb dX7_bestOf_39 rfl (lv_at hl 4 rfl) ?_
      refine lv_iadd hx hb dX7_bestOf_40 ?_
      refine lv_as (y := (nI (49 + g))) (ix_49 g) ?_
      refine g_wrI0 hS (g_runV (As := [.int (nI k), .int (nI (49 + g))]) (rest := []) ky_yX7_behind lk_RX7_173 C hX (gS_b0 hI hS) hP 0 (c_yX7_behind l G ad hI (m_sets τ g w (nI i)) k (49 + g) N hN ((sets_lo (by decide)).trans ((hB 0 (by decide)).trans hs)) (by rw [sets_lo (by decide), hB 1 (by decide)]; exact hd) hk (by omega)) (by decide) (shM_0 G ad _) ⟨rfl, rfl, by decide, by decide⟩ rfl hl.1 rfl (Nat.le_of_ble_eq_true rfl) ⟨Nat.zero_le _, Nat.zero_le _⟩ dX7_bestOf_41) (fun H locs hP hS => ?_)
      refine g_rd (g_runS (As := [.int (m_behind (m_sets τ g w (nI i)) k (49 + g)).1]) (rest := []) ky_yX7_ones lk_RX7_84 C (c_yX7_ones l (m_behind (m_sets τ g w (nI i)) k (49 + g)).1) ⟨rfl, rfl, by decide, by decide⟩ rfl hl.1 rfl (Nat.le_of_ble_eq_true rfl) ⟨Nat.zero_le _, Nat.zero_le _⟩ dX7_bestOf_44) ?_
      refine lv_istore (lv' := [(8, .int (m_ones (m_behind (m_sets τ g w (nI i)) k (49 + g)).1)), (7, .int (nI i)), (6, .int top), (5, .int best), (0, .ref (ad 0)), (1, .int (nI g)), (2, .int (nI w)), (3, .int (nI most)), (4, .int (nI k))]) hx hb dX7_bestOf_47 hl (by decide) rfl (fun ls hl => ?_)
      refine lv_iload hx hb dX7_bestOf_49 (lv_at hl 0 rfl) ?_
      refine lv_iload hx hb dX7_bestOf_51 (lv_at hl 2 rfl) ?_
      refine lv_icmp_le (tgt := 64) hx hb dX7_bestOf_53 (by decide) (fun c3 => ?_) (fun c3 => ?_)
      · refine lv_iinc (v := (nI (i + 1))) (lv' := [(7, .int (nI (i + 1))), (8, .int (m_ones (m_behind (m_sets τ g w (nI i)) k (49 + g)).1)), (6, .int top), (5, .int best), (0, .ref (ad 0)), (1, .int (nI g)), (2, .int (nI w)), (3, .int (nI most)), (4, .int (nI k))]) hx hb dX7_bestOf_64 hl (k := 1) rfl (by exact nI_1 _) (by decide) rfl (fun ls hl => ?_)
        refine lv_goto (tgt := 20) hx hb dX7_bestOf_67 (by decide) ?_
        exact ih20 (i + 1) best top ((m_behind (m_sets τ g w (nI i)) k (49 + g)).2) _ _ _ (by omega) (fun j hj => by rw [bh_3, sets_row (by decide)]; exact hA j hj) (fun j hj => by rw [bh_1 _ _ _ hj, sets_row (by decide)]; exact hA j hj) (by rw [hres20, m_bestOf_L20, if_pos c3]) hP hS (lv_sub hl [0, 2, 3, 4, 5, 6, 7, 8] rfl)
      · refine lv_iload hx hb dX7_bestOf_56 (lv_at hl 1 rfl) ?_
        refine lv_istore (lv' := [(5, .int (nI i)), (8, .int (m_ones (m_behind (m_sets τ g w (nI i)) k (49 + g)).1)), (7, .int (nI i)), (6, .int top), (0, .ref (ad 0)), (1, .int (nI g)), (2, .int (nI w)), (3, .int (nI most)), (4, .int (nI k))]) hx hb dX7_bestOf_58 hl (by decide) rfl (fun ls hl => ?_)
        refine lv_iload hx hb dX7_bestOf_60 (lv_at hl 1 rfl) ?_
        refine lv_istore (lv' := [(6, .int (m_ones (m_behind (m_sets τ g w (nI i)) k (49 + g)).1)), (5, .int (nI i)), (8, .int (m_ones (m_behind (m_sets τ g w (nI i)) k (49 + g)).1)), (7, .int (nI i)), (0, .ref (ad 0)), (1, .int (nI g)), (2, .int (nI w)), (3, .int (nI most)), (4, .int (nI k))]) hx hb dX7_bestOf_62 hl (by decide) rfl (fun ls hl => ?_)
        refine lv_iinc (v := (nI (i + 1))) (lv' := [(7, .int (nI (i + 1))), (6, .int (m_ones (m_behind (m_sets τ g w (nI i)) k (49 + g)).1)), (5, .int (nI i)), (8, .int (m_ones (m_behind (m_sets τ g w (nI i)) k (49 + g)).1)), (0, .ref (ad 0)), (1, .int (nI g)), (2, .int (nI w)), (3, .int (nI most)), (4, .int (nI k))]) hx hb dX7_bestOf_64 hl (k := 3) rfl (by exact nI_1 _) (by decide) rfl (fun ls hl => ?_)
        refine lv_goto (tgt := 20) hx hb dX7_bestOf_67 (by decide) ?_
        exact ih20 (i + 1) (nI i) ((m_ones (m_behind (m_sets τ g w (nI i)) k (49 + g)).1)) ((m_behind (m_sets τ g w (nI i)) k (49 + g)).2) _ _ _ (by omega) (fun j hj => by rw [bh_3, sets_row (by decide)]; exact hA j hj) (fun j hj => by rw [bh_1 _ _ _ hj, sets_row (by decide)]; exact hA j hj) (by rw [hres20, m_bestOf_L20, if_neg c3]) hP hS (lv_sub hl [0, 1, 2, 4, 5, 6, 7, 8] rfl)

def m_leave (σ : gM) (glove : Int32) (k : Int32) : Int32 × gM := if (m_isGlove σ glove) = 0 then ((m_finds σ 0).1, (m_finds σ 0).2) else (if (m_in ((k).toInt64) 0 60) = 0 then ((m_finds σ 0).1, (m_finds σ 0).2) else ((m_bestOf σ (nN glove) 1 5 (nN k)).1, (m_bestOf σ (nN glove) 1 5 (nN k)).2))
def rm_yX7_leave : Room := { frames := 9, cells := 0, slots := 0, locals := 209 }
set_option maxHeartbeats 4000000 in
set_option maxRecDepth 100000 in
theorem c_yX7_leave (l : Launch) (G : gG) (ad : Nat → Nat) (hI : gI G.2.2.1 11 ad) (σ : gM) (glove : Int32) (k : Int32) (N : Nat) (hN : N ≤ 8) (hs : σ 1 0 = nI N) (hd : ¬ σ 1 1 < 0) : gMutI l yX7_leave cX7_leave 3 (some .int) rm_yX7_leave G [.ref (ad 0), .int glove, .int k] 11 ad (shM G ad) σ (m_leave σ glove k) := by
  refine g_start [.ref (ad 0), .int glove, .int k] (by decide +kernel) (Nat.le_of_ble_eq_true rfl) ?_
  intro p e s m below meth c ls B Z hl
  obtain ⟨C, hr, hlk⟩ := B
  have hx := C.1
  have hb := C.2.1
  obtain ⟨hX, hP⟩ := Z
  have hS : va_S (gA 11 ad) s.heap s.heap [] := va_S.rf
  revert hP hS
  intro hP hS
  have hl : lv_has ls 3 [(0, .ref (ad 0)), (1, .int glove), (2, .int k)] := hl
  refine lv_aload_n hx hb dX7_leave_0 rfl (lv_at hl 0 rfl) ?_
  refine lv_iload_n hx hb dX7_leave_1 rfl (lv_at hl 1 rfl) ?_
  refine g_rd (g_runV (As := [.int glove]) (rest := []) ky_yX7_isGlove lk_RX7_138 C hX (gS_b0 hI hS) hP 0 (c_yX7_isGlove l G ad hI σ glove) (by decide) (shM_0 G ad _) ⟨rfl, rfl, by decide, by decide⟩ rfl hl.1 rfl (Nat.le_of_ble_eq_true rfl) ⟨Nat.zero_le _, Nat.zero_le _⟩ dX7_leave_2) ?_
  refine lv_if_eq (tgt := 31) hx hb dX7_leave_5 (by decide) (fun c1 => ?_) (fun c1 => ?_)
  · refine lv_aload_n hx hb dX7_leave_31 rfl (lv_at hl 0 rfl) ?_
    refine lv_iconst (v := 0) hx hb dX7_leave_32 (by decide) ?_
    refine g_wrI0 hS (g_runV (As := [.int 0]) (rest := []) ky_yX7_finds lk_RX7_128 C hX (gS_b0 hI hS) hP 0 (c_yX7_finds l G ad hI σ 0 (by decide)) (by decide) (shM_0 G ad _) ⟨rfl, rfl, by decide, by decide⟩ rfl hl.1 rfl (Nat.le_of_ble_eq_true rfl) ⟨Nat.zero_le _, Nat.zero_le _⟩ dX7_leave_33) (fun H locs hP hS => ?_)
    exact g_iretM C hr hlk rfl (by rw [m_leave, if_pos c1]) hP hS dX7_leave_36
  · obtain ⟨hg1, hg2⟩ := glv_of hN hs c1
    refine lv_iload_n hx hb dX7_leave_8 rfl (lv_at hl 2 rfl) ?_
    refine lv_i2l (v := (k).toInt64) hx hb dX7_leave_9 rfl ?_
    refine lv_lconst (v := 0) hx hb dX7_leave_10 (by decide) ?_
    refine lv_ldc2 hx hb C.2.2.2.1 (C.2.2.2.2 _ kc_RX7_150) dX7_leave_11 ?_
    refine g_rd (g_runS (As := [.long ((k).toInt64), .long 0, .long 60]) (rest := []) ky_yX7_in lk_RX7_42 C (c_yX7_in l ((k).toInt64) 0 60) ⟨rfl, rfl, by decide, by decide⟩ rfl hl.1 rfl (Nat.le_of_ble_eq_true rfl) ⟨Nat.zero_le _, Nat.zero_le _⟩ dX7_leave_14) ?_
    refine lv_if_eq (tgt := 31) hx hb dX7_leave_17 (by decide) (fun c2 => ?_) (fun c2 => ?_)
    · refine lv_aload_n hx hb dX7_leave_31 rfl (lv_at hl 0 rfl) ?_
      refine lv_iconst (v := 0) hx hb dX7_leave_32 (by decide) ?_
      refine g_wrI0 hS (g_runV (As := [.int 0]) (rest := []) ky_yX7_finds lk_RX7_128 C hX (gS_b0 hI hS) hP 0 (c_yX7_finds l G ad hI σ 0 (by decide)) (by decide) (shM_0 G ad _) ⟨rfl, rfl, by decide, by decide⟩ rfl hl.1 rfl (Nat.le_of_ble_eq_true rfl) ⟨Nat.zero_le _, Nat.zero_le _⟩ dX7_leave_33) (fun H locs hP hS => ?_)
      exact g_iretM C hr hlk rfl (by rw [m_leave, if_neg c1, if_pos c2]) hP hS dX7_leave_36
    · obtain ⟨hk1, hk2⟩ := in_nat (M := 61) (by decide) (by decide) c2
      refine lv_aload_n hx hb dX7_leave_20 rfl (lv_at hl 0 rfl) ?_
      refine lv_iload_n hx hb dX7_leave_21 rfl (lv_at hl 1 rfl) ?_
      refine lv_as (y := (nI (nN glove))) hg1 ?_
      refine lv_iconst (v := 1) hx hb dX7_leave_22 (by decide) ?_
      refine lv_iconst (v := 5) hx hb dX7_leave_23 (by decide) ?_
      refine lv_iload_n hx hb dX7_leave_24 rfl (lv_at hl 2 rfl) ?_
      refine lv_as (y := (nI (nN k))) hk1 ?_
      refine g_wrI0 hS (g_runV (As := [.int (nI (nN glove)), .int 1, .int 5, .int (nI (nN k))]) (rest := []) ky_yX7_bestOf lk_RX7_184 C hX (gS_b0 hI hS) hP 0 (c_yX7_bestOf l G ad hI σ (nN glove) 1 5 (nN k) N hN hs hd (by omega) (by decide) (by decide) (by omega)) (by decide) (shM_0 G ad _) ⟨rfl, rfl, by decide, by decide⟩ rfl hl.1 rfl (Nat.le_of_ble_eq_true rfl) ⟨Nat.zero_le _, Nat.zero_le _⟩ dX7_leave_25) (fun H locs hP hS => ?_)
      refine lv_goto (tgt := 36) hx hb dX7_leave_28 (by decide) ?_
      exact g_iretM C hr hlk rfl (by rw [m_leave, if_neg c1, if_neg c2]) hP hS dX7_leave_36

def m_kindFor (σ : gM) (glove : Int32) (k : Int32) : Int32 × gM := if (m_isGlove σ glove) = 0 then ((m_finds σ 0).1, (m_finds σ 0).2) else (if (m_in ((k).toInt64) 0 60) = 0 then ((m_finds σ 0).1, (m_finds σ 0).2) else ((m_bestOf σ (nN glove) 0 6 (nN k)).1, (m_bestOf σ (nN glove) 0 6 (nN k)).2))
def rm_yX7_kindFor : Room := { frames := 9, cells := 0, slots := 0, locals := 209 }
set_option maxHeartbeats 4000000 in
set_option maxRecDepth 100000 in
theorem c_yX7_kindFor (l : Launch) (G : gG) (ad : Nat → Nat) (hI : gI G.2.2.1 11 ad) (σ : gM) (glove : Int32) (k : Int32) (N : Nat) (hN : N ≤ 8) (hs : σ 1 0 = nI N) (hd : ¬ σ 1 1 < 0) : gMutI l yX7_kindFor cX7_kindFor 3 (some .int) rm_yX7_kindFor G [.ref (ad 0), .int glove, .int k] 11 ad (shM G ad) σ (m_kindFor σ glove k) := by
  refine g_start [.ref (ad 0), .int glove, .int k] (by decide +kernel) (Nat.le_of_ble_eq_true rfl) ?_
  intro p e s m below meth c ls B Z hl
  obtain ⟨C, hr, hlk⟩ := B
  have hx := C.1
  have hb := C.2.1
  obtain ⟨hX, hP⟩ := Z
  have hS : va_S (gA 11 ad) s.heap s.heap [] := va_S.rf
  revert hP hS
  intro hP hS
  have hl : lv_has ls 3 [(0, .ref (ad 0)), (1, .int glove), (2, .int k)] := hl
  refine lv_aload_n hx hb dX7_kindFor_0 rfl (lv_at hl 0 rfl) ?_
  refine lv_iload_n hx hb dX7_kindFor_1 rfl (lv_at hl 1 rfl) ?_
  refine g_rd (g_runV (As := [.int glove]) (rest := []) ky_yX7_isGlove lk_RX7_138 C hX (gS_b0 hI hS) hP 0 (c_yX7_isGlove l G ad hI σ glove) (by decide) (shM_0 G ad _) ⟨rfl, rfl, by decide, by decide⟩ rfl hl.1 rfl (Nat.le_of_ble_eq_true rfl) ⟨Nat.zero_le _, Nat.zero_le _⟩ dX7_kindFor_2) ?_
  refine lv_if_eq (tgt := 32) hx hb dX7_kindFor_5 (by decide) (fun c1 => ?_) (fun c1 => ?_)
  · refine lv_aload_n hx hb dX7_kindFor_32 rfl (lv_at hl 0 rfl) ?_
    refine lv_iconst (v := 0) hx hb dX7_kindFor_33 (by decide) ?_
    refine g_wrI0 hS (g_runV (As := [.int 0]) (rest := []) ky_yX7_finds lk_RX7_128 C hX (gS_b0 hI hS) hP 0 (c_yX7_finds l G ad hI σ 0 (by decide)) (by decide) (shM_0 G ad _) ⟨rfl, rfl, by decide, by decide⟩ rfl hl.1 rfl (Nat.le_of_ble_eq_true rfl) ⟨Nat.zero_le _, Nat.zero_le _⟩ dX7_kindFor_34) (fun H locs hP hS => ?_)
    exact g_iretM C hr hlk rfl (by rw [m_kindFor, if_pos c1]) hP hS dX7_kindFor_37
  · obtain ⟨hg1, hg2⟩ := glv_of hN hs c1
    refine lv_iload_n hx hb dX7_kindFor_8 rfl (lv_at hl 2 rfl) ?_
    refine lv_i2l (v := (k).toInt64) hx hb dX7_kindFor_9 rfl ?_
    refine lv_lconst (v := 0) hx hb dX7_kindFor_10 (by decide) ?_
    refine lv_ldc2 hx hb C.2.2.2.1 (C.2.2.2.2 _ kc_RX7_150) dX7_kindFor_11 ?_
    refine g_rd (g_runS (As := [.long ((k).toInt64), .long 0, .long 60]) (rest := []) ky_yX7_in lk_RX7_42 C (c_yX7_in l ((k).toInt64) 0 60) ⟨rfl, rfl, by decide, by decide⟩ rfl hl.1 rfl (Nat.le_of_ble_eq_true rfl) ⟨Nat.zero_le _, Nat.zero_le _⟩ dX7_kindFor_14) ?_
    refine lv_if_eq (tgt := 32) hx hb dX7_kindFor_17 (by decide) (fun c2 => ?_) (fun c2 => ?_)
    · refine lv_aload_n hx hb dX7_kindFor_32 rfl (lv_at hl 0 rfl) ?_
      refine lv_iconst (v := 0) hx hb dX7_kindFor_33 (by decide) ?_
      refine g_wrI0 hS (g_runV (As := [.int 0]) (rest := []) ky_yX7_finds lk_RX7_128 C hX (gS_b0 hI hS) hP 0 (c_yX7_finds l G ad hI σ 0 (by decide)) (by decide) (shM_0 G ad _) ⟨rfl, rfl, by decide, by decide⟩ rfl hl.1 rfl (Nat.le_of_ble_eq_true rfl) ⟨Nat.zero_le _, Nat.zero_le _⟩ dX7_kindFor_34) (fun H locs hP hS => ?_)
      exact g_iretM C hr hlk rfl (by rw [m_kindFor, if_neg c1, if_pos c2]) hP hS dX7_kindFor_37
    · obtain ⟨hk1, hk2⟩ := in_nat (M := 61) (by decide) (by decide) c2
      refine lv_aload_n hx hb dX7_kindFor_20 rfl (lv_at hl 0 rfl) ?_
      refine lv_iload_n hx hb dX7_kindFor_21 rfl (lv_at hl 1 rfl) ?_
      refine lv_as (y := (nI (nN glove))) hg1 ?_
      refine lv_iconst (v := 0) hx hb dX7_kindFor_22 (by decide) ?_
      refine lv_bipush (v := 6) hx hb dX7_kindFor_23 (by decide) ?_
      refine lv_iload_n hx hb dX7_kindFor_25 rfl (lv_at hl 2 rfl) ?_
      refine lv_as (y := (nI (nN k))) hk1 ?_
      refine g_wrI0 hS (g_runV (As := [.int (nI (nN glove)), .int 0, .int 6, .int (nI (nN k))]) (rest := []) ky_yX7_bestOf lk_RX7_184 C hX (gS_b0 hI hS) hP 0 (c_yX7_bestOf l G ad hI σ (nN glove) 0 6 (nN k) N hN hs hd (by omega) (by decide) (by decide) (by omega)) (by decide) (shM_0 G ad _) ⟨rfl, rfl, by decide, by decide⟩ rfl hl.1 rfl (Nat.le_of_ble_eq_true rfl) ⟨Nat.zero_le _, Nat.zero_le _⟩ dX7_kindFor_26) (fun H locs hP hS => ?_)
      refine lv_goto (tgt := 37) hx hb dX7_kindFor_29 (by decide) ?_
      exact g_iretM C hr hlk rfl (by rw [m_kindFor, if_neg c1, if_neg c2]) hP hS dX7_kindFor_37

def m_openFor_L52 (σ : gM) (glove : Int32) (v : Int32) (k : Int32) (σ1 : gM) : Nat → Nat → gM → Int32 × gM
  | 0, i, τ => ((m_finds τ 3).1, (m_finds τ 3).2)
  | n52 + 1, i, τ => if (m_ones (m_behind (m_sets τ (nN glove) 2 (nI i)) (nN k) (49 + nN glove)).1) < v then (m_openFor_L52 σ glove v k σ1 n52 (i + 1) ((m_behind (m_sets τ (nN glove) 2 (nI i)) (nN k) (49 + nN glove)).2)) else ((nI i), (m_behind (m_sets τ (nN glove) 2 (nI i)) (nN k) (49 + nN glove)).2)
def m_openFor_m1 (σ : gM) (glove : Int32) (v : Int32) (k : Int32) (σ1 : gM) : Int32 × gM := (m_openFor_L52 σ glove v k σ1 10 0 σ1)
def m_openFor (σ : gM) (glove : Int32) (v : Int32) (k : Int32) : Int32 × gM := if (m_isGlove σ glove) = 0 then ((m_finds σ 0).1, (m_finds σ 0).2) else (if (m_in ((v).toInt64) 0 16) = 0 then ((m_finds σ 0).1, (m_finds σ 0).2) else (if (m_in ((k).toInt64) 0 60) = 0 then ((m_finds σ 0).1, (m_finds σ 0).2) else (m_openFor_m1 σ glove v k (m_copies σ 1 3))))
def rm_yX7_openFor : Room := { frames := 8, cells := 0, slots := 0, locals := 181 }
set_option maxHeartbeats 4000000 in
set_option maxRecDepth 100000 in
theorem c_yX7_openFor (l : Launch) (G : gG) (ad : Nat → Nat) (hI : gI G.2.2.1 11 ad) (σ : gM) (glove : Int32) (v : Int32) (k : Int32) (N : Nat) (hN : N ≤ 8) (hs : σ 1 0 = nI N) (hd : ¬ σ 1 1 < 0) : gMutI l yX7_openFor cX7_openFor 5 (some .int) rm_yX7_openFor G [.ref (ad 0), .int glove, .int v, .int k] 11 ad (shM G ad) σ (m_openFor σ glove v k) := by
  refine g_start [.ref (ad 0), .int glove, .int v, .int k] (by decide +kernel) (Nat.le_of_ble_eq_true rfl) ?_
  intro p e s m below meth c ls B Z hl
  obtain ⟨C, hr, hlk⟩ := B
  have hx := C.1
  have hb := C.2.1
  obtain ⟨hX, hP⟩ := Z
  have hS : va_S (gA 11 ad) s.heap s.heap [] := va_S.rf
  revert hP hS
  intro hP hS
  have hl : lv_has ls 5 [(0, .ref (ad 0)), (1, .int glove), (2, .int v), (3, .int k)] := hl
  refine lv_aload_n hx hb dX7_openFor_0 rfl (lv_at hl 0 rfl) ?_
  refine lv_iload_n hx hb dX7_openFor_1 rfl (lv_at hl 1 rfl) ?_
  refine g_rd (g_runV (As := [.int glove]) (rest := []) ky_yX7_isGlove lk_RX7_138 C hX (gS_b0 hI hS) hP 0 (c_yX7_isGlove l G ad hI σ glove) (by decide) (shM_0 G ad _) ⟨rfl, rfl, by decide, by decide⟩ rfl hl.1 rfl (Nat.le_of_ble_eq_true rfl) ⟨Nat.zero_le _, Nat.zero_le _⟩ dX7_openFor_2) ?_
  refine lv_if_eq (tgt := 32) hx hb dX7_openFor_5 (by decide) (fun c1 => ?_) (fun c1 => ?_)
  · refine lv_aload_n hx hb dX7_openFor_32 rfl (lv_at hl 0 rfl) ?_
    refine lv_iconst (v := 0) hx hb dX7_openFor_33 (by decide) ?_
    refine g_wrI0 hS (g_runV (As := [.int 0]) (rest := []) ky_yX7_finds lk_RX7_128 C hX (gS_b0 hI hS) hP 0 (c_yX7_finds l G ad hI σ 0 (by decide)) (by decide) (shM_0 G ad _) ⟨rfl, rfl, by decide, by decide⟩ rfl hl.1 rfl (Nat.le_of_ble_eq_true rfl) ⟨Nat.zero_le _, Nat.zero_le _⟩ dX7_openFor_34) (fun H locs hP hS => ?_)
    exact g_iretM C hr hlk rfl (by rw [m_openFor, if_pos c1]) hP hS dX7_openFor_37
  · obtain ⟨hg1, hg2⟩ := glv_of hN hs c1
    refine lv_iload_n hx hb dX7_openFor_8 rfl (lv_at hl 2 rfl) ?_
    refine lv_i2l (v := (v).toInt64) hx hb dX7_openFor_9 rfl ?_
    refine lv_lconst (v := 0) hx hb dX7_openFor_10 (by decide) ?_
    refine lv_ldc2 hx hb C.2.2.2.1 (C.2.2.2.2 _ kc_RX7_176) dX7_openFor_11 ?_
    refine g_rd (g_runS (As := [.long ((v).toInt64), .long 0, .long 16]) (rest := []) ky_yX7_in lk_RX7_42 C (c_yX7_in l ((v).toInt64) 0 16) ⟨rfl, rfl, by decide, by decide⟩ rfl hl.1 rfl (Nat.le_of_ble_eq_true rfl) ⟨Nat.zero_le _, Nat.zero_le _⟩ dX7_openFor_14) ?_
    refine lv_if_eq (tgt := 32) hx hb dX7_openFor_17 (by decide) (fun c2 => ?_) (fun c2 => ?_)
    · refine lv_aload_n hx hb dX7_openFor_32 rfl (lv_at hl 0 rfl) ?_
      refine lv_iconst (v := 0) hx hb dX7_openFor_33 (by decide) ?_
      refine g_wrI0 hS (g_runV (As := [.int 0]) (rest := []) ky_yX7_finds lk_RX7_128 C hX (gS_b0 hI hS) hP 0 (c_yX7_finds l G ad hI σ 0 (by decide)) (by decide) (shM_0 G ad _) ⟨rfl, rfl, by decide, by decide⟩ rfl hl.1 rfl (Nat.le_of_ble_eq_true rfl) ⟨Nat.zero_le _, Nat.zero_le _⟩ dX7_openFor_34) (fun H locs hP hS => ?_)
      exact g_iretM C hr hlk rfl (by rw [m_openFor, if_neg c1, if_pos c2]) hP hS dX7_openFor_37
    · refine lv_iload_n hx hb dX7_openFor_20 rfl (lv_at hl 3 rfl) ?_
      refine lv_i2l (v := (k).toInt64) hx hb dX7_openFor_21 rfl ?_
      refine lv_lconst (v := 0) hx hb dX7_openFor_22 (by decide) ?_
      refine lv_ldc2 hx hb C.2.2.2.1 (C.2.2.2.2 _ kc_RX7_150) dX7_openFor_23 ?_
      refine g_rd (g_runS (As := [.long ((k).toInt64), .long 0, .long 60]) (rest := []) ky_yX7_in lk_RX7_42 C (c_yX7_in l ((k).toInt64) 0 60) ⟨rfl, rfl, by decide, by decide⟩ rfl hl.1 rfl (Nat.le_of_ble_eq_true rfl) ⟨Nat.zero_le _, Nat.zero_le _⟩ dX7_openFor_26) ?_
      refine lv_if_ne (tgt := 38) hx hb dX7_openFor_29 (by decide) (fun c3 => ?_) (fun c3 => ?_)
      · obtain ⟨hk1, hk2⟩ := in_nat (M := 61) (by decide) (by decide) c3
        refine lv_aload_n hx hb dX7_openFor_38 rfl (lv_at hl 0 rfl) ?_
        refine g_get fd_RX7_7 C hX hP 0 (by decide) (shM_0 G ad _) (v := .ref (ad 1)) rfl dX7_openFor_39 ?_
        refine lv_aload_n hx hb dX7_openFor_42 rfl (lv_at hl 0 rfl) ?_
        refine g_get fd_RX7_16 C hX hP 0 (by decide) (shM_0 G ad _) (v := .ref (ad 3)) rfl dX7_openFor_43 ?_
        refine g_wrV0 hS (g_runSW (As := [.ref (ad 1), .ref (ad 3)]) (rest := []) ky_yX7_copies lk_RX7_167 C hX (gS_b0 hI hS) hP (c_yX7_copies l G ad hI σ 1 3 (by decide) (by decide) (fun _ => rfl) (fun _ => rfl)) ⟨rfl, rfl, by decide, by decide⟩ rfl hl.1 rfl (Nat.le_of_ble_eq_true rfl) ⟨Nat.zero_le _, Nat.zero_le _⟩ dX7_openFor_46) (fun H locs hP hS => ?_)
        obtain ⟨σ1, eσ1⟩ : ∃ τ_ : gM, τ_ = (m_copies σ 1 3) := ⟨_, rfl⟩
        rw [← eσ1] at hP
        have hs1 : σ1 1 0 = nI N := by rw [eσ1, cp_row (by decide) _ (by decide)]; exact hs
        have hd1 : ¬ σ1 1 1 < 0 := by rw [eσ1, cp_row (by decide) _ (by decide)]; exact hd
        have hA1 : ∀ j, j < 75 → σ1 3 j = σ 1 j := fun j hj => by rw [eσ1, cp_at (by decide) _ hj]
        have hB1 : ∀ j, j < 75 → σ1 1 j = σ 1 j := fun j hj => by rw [eσ1, cp_row (by decide) _ (by decide)]
        refine lv_iconst (v := 0) hx hb dX7_openFor_49 (by decide) ?_
        refine lv_istore (lv' := [(4, .int 0), (0, .ref (ad 0)), (1, .int glove), (2, .int v), (3, .int k)]) hx hb dX7_openFor_50 hl (by decide) rfl (fun ls hl => ?_)
        suffices loop52 : ∀ (n52 : Nat) (i : Nat) (τ : gM) (H : Heap) (locs : List Loc) (ls : Array Slot), (i + n52 = 10) → (∀ j, j < 75 → τ 3 j = σ 1 j) → (∀ j, j < 75 → τ 1 j = σ 1 j) → m_openFor σ glove v k = (m_openFor_L52 σ glove v k σ1 n52 i τ) → gP G.1 11 ad (gE (shM G ad) τ) H → va_S (gA 11 ad) s.heap H locs → lv_has ls 5 [(4, .int (nI i)), (0, .ref (ad 0)), (1, .int glove), (2, .int v), (3, .int k)] → W p l e rm_yX7_openFor s m ([.ref (ad 0), .int glove, .int v, .int k] : List Value).toArray below meth c H locs 0 0 (MQ below (va_Qi (fun (x : Int32) (τ : gM) => m_openFor σ glove v k = (x, τ)) (fun τ t => gP G.1 11 ad (gE (shM G ad) τ) t.heap) (gA 11 ad)) ([.ref (ad 0), .int glove, .int v, .int k] : List Value).toArray s 0 0 (gA 11 ad)) (F0 m 52 ls []) by
          exact loop52 10 0 σ1 _ _ _ (by omega) hA1 hB1 (by rw [m_openFor, if_neg c1, if_neg c2, if_neg c3, ← eσ1, m_openFor_m1]) hP hS (lv_sub hl [0, 1, 2, 3, 4] rfl)
        intro n52
        induction n52 with
        | zero =>
          intro i τ H locs ls hi52 hA hB hres52 hP hS hl
          refine lv_iload hx hb dX7_openFor_52 (lv_at hl 0 rfl) ?_
          refine lv_bipush (v := 10) hx hb dX7_openFor_54 (by decide) ?_
          refine lv_icmp_ge (tgt := 92) hx hb dX7_openFor_56 (by decide) (fun c4 => ?_) (fun c4 => ?_)
          · refine lv_aload_n hx hb dX7_openFor_92 rfl (lv_at hl 1 rfl) ?_
            refine lv_iconst (v := 3) hx hb dX7_openFor_93 (by decide) ?_
            refine g_wrI0 hS (g_runV (As := [.int 3]) (rest := []) ky_yX7_finds lk_RX7_128 C hX (gS_b0 hI hS) hP 0 (c_yX7_finds l G ad hI τ 3 (by decide)) (by decide) (shM_0 G ad _) ⟨rfl, rfl, by decide, by decide⟩ rfl hl.1 rfl (Nat.le_of_ble_eq_true rfl) ⟨Nat.zero_le _, Nat.zero_le _⟩ dX7_openFor_94) (fun H locs hP hS => ?_)
            exact g_iretM C hr hlk rfl (by rw [hres52, m_openFor_L52]) hP hS dX7_openFor_97
          · exact absurd (show nI (10) ≤ nI i from nI_le (by omega) (by omega)) c4
        | succ n52 ih52 =>
          intro i τ H locs ls hi52 hA hB hres52 hP hS hl
          refine lv_iload hx hb dX7_openFor_52 (lv_at hl 0 rfl) ?_
          refine lv_bipush (v := 10) hx hb dX7_openFor_54 (by decide) ?_
          refine lv_icmp_ge (tgt := 92) hx hb dX7_openFor_56 (by decide) (fun c5 => ?_) (fun c5 => ?_)
          · exact absurd (show nI (10) ≤ nI i from c5) (nI_ge (by omega) (by omega))
          · refine lv_aload_n hx hb dX7_openFor_59 rfl (lv_at hl 1 rfl) ?_
            refine lv_iload_n hx hb dX7_openFor_60 rfl (lv_at hl 2 rfl) ?_
            refine lv_as (y := (nI (nN glove))) hg1 ?_
            refine lv_iconst (v := 2) hx hb dX7_openFor_61 (by decide) ?_
            refine lv_iload hx hb dX7_openFor_62 (lv_at hl 0 rfl) ?_
            refine g_wrV0 hS (g_runV (As := [.int (nI (nN glove)), .int 2, .int (nI i)]) (rest := []) ky_yX7_sets lk_RX7_90 C hX (gS_b0 hI hS) hP 0 (c_yX7_sets l G ad hI τ (nN glove) 2 (nI i) (by omega) (by decide)) (by decide) (shM_0 G ad _) ⟨rfl, rfl, by decide, by decide⟩ rfl hl.1 rfl (Nat.le_of_ble_eq_true rfl) ⟨Nat.zero_le _, Nat.zero_le _⟩ dX7_openFor_64) (fun H locs hP hS => ?_)
            refine lv_aload_n hx hb dX7_openFor_67 rfl (lv_at hl 1 rfl) ?_
            refine lv_iload_n hx hb dX7_openFor_68 rfl (lv_at hl 4 rfl) ?_
            refine lv_as (y := (nI (nN k))) hk1 ?_
            refine lv_bipush (v := 49) hx hb dX7_openFor_69 (by decide) ?_
            refine lv_iload_n hx hb dX7_openFor_71 rfl (lv_at hl 2 rfl) ?_
            refine lv_iadd hx hb dX7_openFor_72 ?_
            refine lv_as (y := (nI (49 + nN glove))) (ix_49' hg1) ?_
            refine g_wrI0 hS (g_runV (As := [.int (nI (nN k)), .int (nI (49 + nN glove))]) (rest := []) ky_yX7_behind lk_RX7_173 C hX (gS_b0 hI hS) hP 0 (c_yX7_behind l G ad hI (m_sets τ (nN glove) 2 (nI i)) (nN k) (49 + nN glove) N hN ((sets_lo (by decide)).trans ((hB 0 (by decide)).trans hs)) (by rw [sets_lo (by decide), hB 1 (by decide)]; exact hd) (by omega) (by omega)) (by decide) (shM_0 G ad _) ⟨rfl, rfl, by decide, by decide⟩ rfl hl.1 rfl (Nat.le_of_ble_eq_true rfl) ⟨Nat.zero_le _, Nat.zero_le _⟩ dX7_openFor_73) (fun H locs hP hS => ?_)
            refine g_rd (g_runS (As := [.int (m_behind (m_sets τ (nN glove) 2 (nI i)) (nN k) (49 + nN glove)).1]) (rest := []) ky_yX7_ones lk_RX7_84 C (c_yX7_ones l (m_behind (m_sets τ (nN glove) 2 (nI i)) (nN k) (49 + nN glove)).1) ⟨rfl, rfl, by decide, by decide⟩ rfl hl.1 rfl (Nat.le_of_ble_eq_true rfl) ⟨Nat.zero_le _, Nat.zero_le _⟩ dX7_openFor_76) ?_
            refine lv_iload_n hx hb dX7_openFor_79 rfl (lv_at hl 3 rfl) ?_
            refine lv_icmp_lt (tgt := 86) hx hb dX7_openFor_80 (by decide) (fun c6 => ?_) (fun c6 => ?_)
            · refine lv_iinc (v := (nI (i + 1))) (lv' := [(4, .int (nI (i + 1))), (0, .ref (ad 0)), (1, .int glove), (2, .int v), (3, .int k)]) hx hb dX7_openFor_86 hl (k := 0) rfl (by exact nI_1 _) (by decide) rfl (fun ls hl => ?_)
              refine lv_goto (tgt := 52) hx hb dX7_openFor_89 (by decide) ?_
              exact ih52 (i + 1) ((m_behind (m_sets τ (nN glove) 2 (nI i)) (nN k) (49 + nN glove)).2) _ _ _ (by omega) (fun j hj => by rw [bh_3, sets_row (by decide)]; exact hA j hj) (fun j hj => by rw [bh_1 _ _ _ hj, sets_row (by decide)]; exact hA j hj) (by rw [hres52, m_openFor_L52, if_pos c6]) hP hS (lv_sub hl [0, 1, 2, 3, 4] rfl)
            · refine lv_iload hx hb dX7_openFor_83 (lv_at hl 0 rfl) ?_
              exact g_iretM C hr hlk rfl (by rw [hres52, m_openFor_L52, if_neg c6]) hP hS dX7_openFor_85
      · refine lv_aload_n hx hb dX7_openFor_32 rfl (lv_at hl 0 rfl) ?_
        refine lv_iconst (v := 0) hx hb dX7_openFor_33 (by decide) ?_
        refine g_wrI0 hS (g_runV (As := [.int 0]) (rest := []) ky_yX7_finds lk_RX7_128 C hX (gS_b0 hI hS) hP 0 (c_yX7_finds l G ad hI σ 0 (by decide)) (by decide) (shM_0 G ad _) ⟨rfl, rfl, by decide, by decide⟩ rfl hl.1 rfl (Nat.le_of_ble_eq_true rfl) ⟨Nat.zero_le _, Nat.zero_le _⟩ dX7_openFor_34) (fun H locs hP hS => ?_)
        exact g_iretM C hr hlk rfl (by rw [m_openFor, if_neg c1, if_neg c2, if_pos c3]) hP hS dX7_openFor_37

def m_lower_L37 (σ : gM) (pl : Int32) : Nat → Int32 → Int32 × gM
  | 0, loud => ((m_finds σ 3).1, (m_finds σ 3).2)
  | n37 + 1, loud => if (m_hearers σ (((σ 1 (3 + nN pl)) - (jrem (σ 1 (3 + nN pl)) 10)) + loud)) = 0 then (loud, σ) else (m_lower_L37 σ pl n37 (loud + (-1)))
def m_lower (σ : gM) (pl : Int32) : Int32 × gM := if (m_isPlace pl) = 0 then ((m_finds σ 0).1, (m_finds σ 0).2) else (m_lower_L37 σ pl 10 9)
def rm_yX7_lower : Room := { frames := 5, cells := 0, slots := 0, locals := 114 }
set_option maxHeartbeats 4000000 in
set_option maxRecDepth 100000 in
theorem c_yX7_lower (l : Launch) (G : gG) (ad : Nat → Nat) (hI : gI G.2.2.1 11 ad) (σ : gM) (pl : Int32) (N : Nat) (hN : N ≤ 8) (hs : σ 1 0 = nI N) : gMutI l yX7_lower cX7_lower 4 (some .int) rm_yX7_lower G [.ref (ad 0), .int pl] 11 ad (shM G ad) σ (m_lower σ pl) := by
  refine g_start [.ref (ad 0), .int pl] (by decide +kernel) (Nat.le_of_ble_eq_true rfl) ?_
  intro p e s m below meth c ls B Z hl
  obtain ⟨C, hr, hlk⟩ := B
  have hx := C.1
  have hb := C.2.1
  obtain ⟨hX, hP⟩ := Z
  have hS : va_S (gA 11 ad) s.heap s.heap [] := va_S.rf
  revert hP hS
  intro hP hS
  have hl : lv_has ls 4 [(0, .ref (ad 0)), (1, .int pl)] := hl
  refine lv_iload_n hx hb dX7_lower_0 rfl (lv_at hl 1 rfl) ?_
  refine g_rd (g_runS (As := [.int pl]) (rest := []) ky_yX7_isPlace lk_RX7_119 C (c_yX7_isPlace l pl) ⟨rfl, rfl, by decide, by decide⟩ rfl hl.1 rfl (Nat.le_of_ble_eq_true rfl) ⟨Nat.zero_le _, Nat.zero_le _⟩ dX7_lower_1) ?_
  refine lv_if_ne (tgt := 13) hx hb dX7_lower_4 (by decide) (fun c1 => ?_) (fun c1 => ?_)
  · obtain ⟨hp1, hp2⟩ := in_nat (M := 6) (by decide) (by decide) c1
    refine lv_aload_n hx hb dX7_lower_13 rfl (lv_at hl 0 rfl) ?_
    refine g_get fd_RX7_7 C hX hP 0 (by decide) (shM_0 G ad _) (v := .ref (ad 1)) rfl dX7_lower_14 ?_
    refine lv_iconst (v := 3) hx hb dX7_lower_17 (by decide) ?_
    refine lv_iload_n hx hb dX7_lower_18 rfl (lv_at hl 1 rfl) ?_
    refine lv_iadd hx hb dX7_lower_19 ?_
    refine lv_as (y := (nI (3 + nN pl))) ((congrArg (fun z => 3 + z) hp1).trans (ix_3 _)) ?_
    refine g_iald C hX hP 1 (by decide) (shM_1 G ad _) (3 + nN pl) (by omega) (by decide) dX7_lower_20 ?_
    refine lv_aload_n hx hb dX7_lower_21 rfl (lv_at hl 0 rfl) ?_
    refine g_get fd_RX7_7 C hX hP 0 (by decide) (shM_0 G ad _) (v := .ref (ad 1)) rfl dX7_lower_22 ?_
    refine lv_iconst (v := 3) hx hb dX7_lower_25 (by decide) ?_
    refine lv_iload_n hx hb dX7_lower_26 rfl (lv_at hl 1 rfl) ?_
    refine lv_iadd hx hb dX7_lower_27 ?_
    refine lv_as (y := (nI (3 + nN pl))) ((congrArg (fun z => 3 + z) hp1).trans (ix_3 _)) ?_
    refine g_iald C hX hP 1 (by decide) (shM_1 G ad _) (3 + nN pl) (by omega) (by decide) dX7_lower_28 ?_
    refine lv_bipush (v := 10) hx hb dX7_lower_29 (by decide) ?_
    refine g_irem hx hb dX7_lower_31 (by decide) ?_
    refine lv_isub hx hb dX7_lower_32 ?_
    refine lv_istore_n (lv' := [(2, .int ((σ 1 (3 + nN pl)) - (jrem (σ 1 (3 + nN pl)) 10))), (0, .ref (ad 0)), (1, .int pl)]) hx hb dX7_lower_33 rfl hl (by decide) rfl (fun ls hl => ?_)
    refine lv_bipush (v := 9) hx hb dX7_lower_34 (by decide) ?_
    refine lv_istore_n (lv' := [(3, .int 9), (2, .int ((σ 1 (3 + nN pl)) - (jrem (σ 1 (3 + nN pl)) 10))), (0, .ref (ad 0)), (1, .int pl)]) hx hb dX7_lower_36 rfl hl (by decide) rfl (fun ls hl => ?_)
    suffices loop37 : ∀ (n37 : Nat) (loud : Int32) (H : Heap) (locs : List Loc) (ls : Array Slot), (loud = nI n37 - 1) → (n37 ≤ 10) → m_lower σ pl = (m_lower_L37 σ pl n37 loud) → gP G.1 11 ad (gE (shM G ad) σ) H → va_S (gA 11 ad) s.heap H locs → lv_has ls 4 [(3, .int loud), (2, .int ((σ 1 (3 + nN pl)) - (jrem (σ 1 (3 + nN pl)) 10))), (0, .ref (ad 0)), (1, .int pl)] → W p l e rm_yX7_lower s m ([.ref (ad 0), .int pl] : List Value).toArray below meth c H locs 0 0 (MQ below (va_Qi (fun (x : Int32) (τ : gM) => m_lower σ pl = (x, τ)) (fun τ t => gP G.1 11 ad (gE (shM G ad) τ) t.heap) (gA 11 ad)) ([.ref (ad 0), .int pl] : List Value).toArray s 0 0 (gA 11 ad)) (F0 m 37 ls []) by
      exact loop37 10 9 _ _ _ (by decide) (by decide) (by rw [m_lower, if_neg c1]) hP hS (lv_sub hl [0, 1, 2, 3] rfl)
    intro n37
    induction n37 with
    | zero =>
      intro loud H locs ls hl37 hm37 hres37 hP hS hl
      refine lv_iload_n hx hb dX7_lower_37 rfl (lv_at hl 0 rfl) ?_
      refine lv_if_lt (tgt := 59) hx hb dX7_lower_38 (by decide) (fun c2 => ?_) (fun c2 => ?_)
      · refine lv_aload_n hx hb dX7_lower_59 rfl (lv_at hl 2 rfl) ?_
        refine lv_iconst (v := 3) hx hb dX7_lower_60 (by decide) ?_
        refine g_wrI0 hS (g_runV (As := [.int 3]) (rest := []) ky_yX7_finds lk_RX7_128 C hX (gS_b0 hI hS) hP 0 (c_yX7_finds l G ad hI σ 3 (by decide)) (by decide) (shM_0 G ad _) ⟨rfl, rfl, by decide, by decide⟩ rfl hl.1 rfl (Nat.le_of_ble_eq_true rfl) ⟨Nat.zero_le _, Nat.zero_le _⟩ dX7_lower_61) (fun H locs hP hS => ?_)
        exact g_iretM C hr hlk rfl (by rw [hres37, m_lower_L37]) hP hS dX7_lower_64
      · exact absurd (show loud < 0 by rw [hl37]; decide) c2
    | succ n37 ih37 =>
      intro loud H locs ls hl37 hm37 hres37 hP hS hl
      refine lv_iload_n hx hb dX7_lower_37 rfl (lv_at hl 0 rfl) ?_
      refine lv_if_lt (tgt := 59) hx hb dX7_lower_38 (by decide) (fun c3 => ?_) (fun c3 => ?_)
      · exact absurd (show nI n37 < 0 by rw [← nI_pred, ← hl37]; exact c3) (nI_pos (by omega))
      · refine lv_aload_n hx hb dX7_lower_41 rfl (lv_at hl 2 rfl) ?_
        refine lv_iload_n hx hb dX7_lower_42 rfl (lv_at hl 1 rfl) ?_
        refine lv_iload_n hx hb dX7_lower_43 rfl (lv_at hl 0 rfl) ?_
        refine lv_iadd hx hb dX7_lower_44 ?_
        refine g_rd (g_runV (As := [.int (((σ 1 (3 + nN pl)) - (jrem (σ 1 (3 + nN pl)) 10)) + loud)]) (rest := []) ky_yX7_hearers lk_RX7_98 C hX (gS_b0 hI hS) hP 0 (c_yX7_hearers l G ad hI σ (((σ 1 (3 + nN pl)) - (jrem (σ 1 (3 + nN pl)) 10)) + loud) N hN hs) (by decide) (shM_0 G ad _) ⟨rfl, rfl, by decide, by decide⟩ rfl hl.1 rfl (Nat.le_of_ble_eq_true rfl) ⟨Nat.zero_le _, Nat.zero_le _⟩ dX7_lower_45) ?_
        refine lv_if_ne (tgt := 53) hx hb dX7_lower_48 (by decide) (fun c4 => ?_) (fun c4 => ?_)
        · refine lv_iinc (v := (loud + (-1))) (lv' := [(3, .int (loud + (-1))), (2, .int ((σ 1 (3 + nN pl)) - (jrem (σ 1 (3 + nN pl)) 10))), (0, .ref (ad 0)), (1, .int pl)]) hx hb dX7_lower_53 hl (k := 0) rfl rfl (by decide) rfl (fun ls hl => ?_)
          refine lv_goto (tgt := 37) hx hb dX7_lower_56 (by decide) ?_
          exact ih37 (loud + (-1)) _ _ _ (by rw [hl37, nI_pred, Int32.sub_eq_add_neg]) (by omega) (by rw [hres37, m_lower_L37, if_neg c4]) hP hS (lv_sub hl [0, 1, 2, 3] rfl)
        · refine lv_iload_n hx hb dX7_lower_51 rfl (lv_at hl 0 rfl) ?_
          exact g_iretM C hr hlk rfl (by rw [hres37, m_lower_L37, if_pos c4]) hP hS dX7_lower_52
  · refine lv_aload_n hx hb dX7_lower_7 rfl (lv_at hl 0 rfl) ?_
    refine lv_iconst (v := 0) hx hb dX7_lower_8 (by decide) ?_
    refine g_wrI0 hS (g_runV (As := [.int 0]) (rest := []) ky_yX7_finds lk_RX7_128 C hX (gS_b0 hI hS) hP 0 (c_yX7_finds l G ad hI σ 0 (by decide)) (by decide) (shM_0 G ad _) ⟨rfl, rfl, by decide, by decide⟩ rfl hl.1 rfl (Nat.le_of_ble_eq_true rfl) ⟨Nat.zero_le _, Nat.zero_le _⟩ dX7_lower_9) (fun H locs hP hS => ?_)
    exact g_iretM C hr hlk rfl (by rw [m_lower, if_pos c1]) hP hS dX7_lower_12

def m_cover_L17 (σ : gM) (topics : Int32) : Nat → Nat → Int32 → Int32 × gM
  | 0, i, best => if 0 ≤ best then (best, σ) else ((m_finds σ 3).1, (m_finds σ 3).2)
  | n17 + 1, i, best => if (topics &&& (((m_known σ (nI i) 3) ||| (m_known σ (nI i) 5)) ^^^ (-1))) = 0 then (if best < 0 then (m_cover_L17 σ topics n17 (i + 1) (nI i)) else (if (m_ones best) ≤ (m_ones (nI i)) then (m_cover_L17 σ topics n17 (i + 1) best) else (m_cover_L17 σ topics n17 (i + 1) (nI i)))) else (m_cover_L17 σ topics n17 (i + 1) best)
def m_cover (σ : gM) (topics : Int32) : Int32 × gM := if (m_areTopics topics) = 0 then ((m_finds σ 0).1, (m_finds σ 0).2) else (m_cover_L17 σ topics (2 ^ nN (σ 1 0)) 0 (-1))
def rm_yX7_cover : Room := { frames := 2, cells := 0, slots := 0, locals := 46 }
set_option maxHeartbeats 4000000 in
set_option maxRecDepth 100000 in
theorem c_yX7_cover (l : Launch) (G : gG) (ad : Nat → Nat) (hI : gI G.2.2.1 11 ad) (σ : gM) (topics : Int32) (N : Nat) (hN : N ≤ 8) (hs : σ 1 0 = nI N) : gMutI l yX7_cover cX7_cover 5 (some .int) rm_yX7_cover G [.ref (ad 0), .int topics] 11 ad (shM G ad) σ (m_cover σ topics) := by
  refine g_start [.ref (ad 0), .int topics] (by decide +kernel) (Nat.le_of_ble_eq_true rfl) ?_
  intro p e s m below meth c ls B Z hl
  obtain ⟨C, hr, hlk⟩ := B
  have hx := C.1
  have hb := C.2.1
  obtain ⟨hX, hP⟩ := Z
  have hS : va_S (gA 11 ad) s.heap s.heap [] := va_S.rf
  revert hP hS
  intro hP hS
  have hl : lv_has ls 5 [(0, .ref (ad 0)), (1, .int topics)] := hl
  obtain ⟨P, hP2⟩ : ∃ P, P = 2 ^ N := ⟨_, rfl⟩
  have hP3 : P ≤ 256 := by rw [hP2]; exact pow8 hN
  refine lv_iload_n hx hb dX7_cover_0 rfl (lv_at hl 1 rfl) ?_
  refine g_rd (g_runS (As := [.int topics]) (rest := []) ky_yX7_areTopics lk_RX7_178 C (c_yX7_areTopics l topics) ⟨rfl, rfl, by decide, by decide⟩ rfl hl.1 rfl (Nat.le_of_ble_eq_true rfl) ⟨Nat.zero_le _, Nat.zero_le _⟩ dX7_cover_1) ?_
  refine lv_if_ne (tgt := 13) hx hb dX7_cover_4 (by decide) (fun c1 => ?_) (fun c1 => ?_)
  · refine lv_iconst (v := (-1)) hx hb dX7_cover_13 (by decide) ?_
    refine lv_istore_n (lv' := [(2, .int (-1)), (0, .ref (ad 0)), (1, .int topics)]) hx hb dX7_cover_14 rfl hl (by decide) rfl (fun ls hl => ?_)
    refine lv_iconst (v := 0) hx hb dX7_cover_15 (by decide) ?_
    refine lv_istore_n (lv' := [(3, .int 0), (2, .int (-1)), (0, .ref (ad 0)), (1, .int topics)]) hx hb dX7_cover_16 rfl hl (by decide) rfl (fun ls hl => ?_)
    suffices loop17 : ∀ (n17 : Nat) (i : Nat) (best : Int32) (H : Heap) (locs : List Loc) (ls : Array Slot), (i + n17 = P) → m_cover σ topics = (m_cover_L17 σ topics n17 i best) → gP G.1 11 ad (gE (shM G ad) σ) H → va_S (gA 11 ad) s.heap H locs → lv_has ls 5 [(3, .int (nI i)), (2, .int best), (0, .ref (ad 0)), (1, .int topics)] → W p l e rm_yX7_cover s m ([.ref (ad 0), .int topics] : List Value).toArray below meth c H locs 0 0 (MQ below (va_Qi (fun (x : Int32) (τ : gM) => m_cover σ topics = (x, τ)) (fun τ t => gP G.1 11 ad (gE (shM G ad) τ) t.heap) (gA 11 ad)) ([.ref (ad 0), .int topics] : List Value).toArray s 0 0 (gA 11 ad)) (F0 m 17 ls []) by
      exact loop17 P 0 (-1) _ _ _ (by omega) (by rw [m_cover, if_neg c1, hs, nN_nI (by omega), ← hP2]) hP hS (lv_sub hl [0, 1, 2, 3] rfl)
    intro n17
    induction n17 with
    | zero =>
      intro i best H locs ls hi17 hres17 hP hS hl
      refine lv_iload_n hx hb dX7_cover_17 rfl (lv_at hl 0 rfl) ?_
      refine lv_iconst (v := 1) hx hb dX7_cover_18 (by decide) ?_
      refine lv_aload_n hx hb dX7_cover_19 rfl (lv_at hl 2 rfl) ?_
      refine g_get fd_RX7_7 C hX hP 0 (by decide) (shM_0 G ad _) (v := .ref (ad 1)) rfl dX7_cover_20 ?_
      refine lv_iconst (v := 0) hx hb dX7_cover_23 (by decide) ?_
      refine lv_as (y := nI 0) rfl ?_
      refine g_iald C hX hP 1 (by decide) (shM_1 G ad _) 0 (by omega) (by decide) dX7_cover_24 ?_
      refine g_ishl hx hb dX7_cover_25 ?_
      refine lv_as (y := (nI P)) (by rw [hs, shl1 hN, hP2]) ?_
      refine lv_icmp_ge (tgt := 88) hx hb dX7_cover_26 (by decide) (fun c2 => ?_) (fun c2 => ?_)
      · refine lv_iload_n hx hb dX7_cover_88 rfl (lv_at hl 1 rfl) ?_
        refine lv_if_ge (tgt := 100) hx hb dX7_cover_89 (by decide) (fun c3 => ?_) (fun c3 => ?_)
        · refine lv_iload_n hx hb dX7_cover_100 rfl (lv_at hl 1 rfl) ?_
          exact g_iretM C hr hlk rfl (by rw [hres17, m_cover_L17, if_pos c3]) hP hS dX7_cover_101
        · refine lv_aload_n hx hb dX7_cover_92 rfl (lv_at hl 2 rfl) ?_
          refine lv_iconst (v := 3) hx hb dX7_cover_93 (by decide) ?_
          refine g_wrI0 hS (g_runV (As := [.int 3]) (rest := []) ky_yX7_finds lk_RX7_128 C hX (gS_b0 hI hS) hP 0 (c_yX7_finds l G ad hI σ 3 (by decide)) (by decide) (shM_0 G ad _) ⟨rfl, rfl, by decide, by decide⟩ rfl hl.1 rfl (Nat.le_of_ble_eq_true rfl) ⟨Nat.zero_le _, Nat.zero_le _⟩ dX7_cover_94) (fun H locs hP hS => ?_)
          refine lv_goto (tgt := 101) hx hb dX7_cover_97 (by decide) ?_
          exact g_iretM C hr hlk rfl (by rw [hres17, m_cover_L17, if_neg c3]) hP hS dX7_cover_101
      · exact absurd (show nI (P) ≤ nI i from nI_le (by omega) (by omega)) c2
    | succ n17 ih17 =>
      intro i best H locs ls hi17 hres17 hP hS hl
      refine lv_iload_n hx hb dX7_cover_17 rfl (lv_at hl 0 rfl) ?_
      refine lv_iconst (v := 1) hx hb dX7_cover_18 (by decide) ?_
      refine lv_aload_n hx hb dX7_cover_19 rfl (lv_at hl 2 rfl) ?_
      refine g_get fd_RX7_7 C hX hP 0 (by decide) (shM_0 G ad _) (v := .ref (ad 1)) rfl dX7_cover_20 ?_
      refine lv_iconst (v := 0) hx hb dX7_cover_23 (by decide) ?_
      refine lv_as (y := nI 0) rfl ?_
      refine g_iald C hX hP 1 (by decide) (shM_1 G ad _) 0 (by omega) (by decide) dX7_cover_24 ?_
      refine g_ishl hx hb dX7_cover_25 ?_
      refine lv_as (y := (nI P)) (by rw [hs, shl1 hN, hP2]) ?_
      refine lv_icmp_ge (tgt := 88) hx hb dX7_cover_26 (by decide) (fun c4 => ?_) (fun c4 => ?_)
      · exact absurd (show nI (P) ≤ nI i from c4) (nI_ge (by omega) (by omega))
      · refine lv_iload_n hx hb dX7_cover_29 rfl (lv_at hl 3 rfl) ?_
        refine lv_aload_n hx hb dX7_cover_30 rfl (lv_at hl 2 rfl) ?_
        refine lv_iload_n hx hb dX7_cover_31 rfl (lv_at hl 0 rfl) ?_
        refine lv_iconst (v := 3) hx hb dX7_cover_32 (by decide) ?_
        refine g_rd (g_runV (As := [.int (nI i), .int 3]) (rest := [.int topics]) ky_yX7_known lk_RX7_116 C hX (gS_b0 hI hS) hP 0 (c_yX7_known l G ad hI σ (nI i) 3 N hN hs (by decide)) (by decide) (shM_0 G ad _) ⟨rfl, rfl, by decide, by decide⟩ rfl hl.1 rfl (Nat.le_of_ble_eq_true rfl) ⟨Nat.zero_le _, Nat.zero_le _⟩ dX7_cover_33) ?_
        refine lv_aload_n hx hb dX7_cover_36 rfl (lv_at hl 2 rfl) ?_
        refine lv_iload_n hx hb dX7_cover_37 rfl (lv_at hl 0 rfl) ?_
        refine lv_iconst (v := 5) hx hb dX7_cover_38 (by decide) ?_
        refine g_rd (g_runV (As := [.int (nI i), .int 5]) (rest := [.int (m_known σ (nI i) 3), .int topics]) ky_yX7_known lk_RX7_116 C hX (gS_b0 hI hS) hP 0 (c_yX7_known l G ad hI σ (nI i) 5 N hN hs (by decide)) (by decide) (shM_0 G ad _) ⟨rfl, rfl, by decide, by decide⟩ rfl hl.1 rfl (Nat.le_of_ble_eq_true rfl) ⟨Nat.zero_le _, Nat.zero_le _⟩ dX7_cover_39) ?_
        refine lv_ior hx hb dX7_cover_42 ?_
        refine lv_iconst (v := (-1)) hx hb dX7_cover_43 (by decide) ?_
        refine lv_ixor hx hb dX7_cover_44 ?_
        refine lv_iand hx hb dX7_cover_45 ?_
        refine lv_if_ne (tgt := 53) hx hb dX7_cover_46 (by decide) (fun c5 => ?_) (fun c5 => ?_)
        · refine lv_iconst (v := 0) hx hb dX7_cover_53 (by decide) ?_
          refine lv_istore (lv' := [(4, .int 0), (3, .int (nI i)), (2, .int best), (0, .ref (ad 0)), (1, .int topics)]) hx hb dX7_cover_54 hl (by decide) rfl (fun ls hl => ?_)
          refine lv_iload hx hb dX7_cover_56 (lv_at hl 0 rfl) ?_
          refine lv_if_eq (tgt := 80) hx hb dX7_cover_58 (by decide) (fun c6 => ?_) (fun c6 => ?_)
          · refine lv_iload_n hx hb dX7_cover_80 rfl (lv_at hl 2 rfl) ?_
            refine lv_istore_n (lv' := [(2, .int best), (4, .int 0), (3, .int (nI i)), (0, .ref (ad 0)), (1, .int topics)]) hx hb dX7_cover_81 rfl hl (by decide) rfl (fun ls hl => ?_)
            refine lv_iinc (v := (nI (i + 1))) (lv' := [(3, .int (nI (i + 1))), (2, .int best), (4, .int 0), (0, .ref (ad 0)), (1, .int topics)]) hx hb dX7_cover_82 hl (k := 2) rfl (by exact nI_1 _) (by decide) rfl (fun ls hl => ?_)
            refine lv_goto (tgt := 17) hx hb dX7_cover_85 (by decide) ?_
            exact ih17 (i + 1) best _ _ _ (by omega) (by rw [hres17, m_cover_L17, if_neg c5]) hP hS (lv_sub hl [0, 1, 3, 4] rfl)
          · exact absurd (by decide) c6
        · refine lv_iconst (v := 1) hx hb dX7_cover_49 (by decide) ?_
          refine lv_goto (tgt := 54) hx hb dX7_cover_50 (by decide) ?_
          refine lv_istore (lv' := [(4, .int 1), (3, .int (nI i)), (2, .int best), (0, .ref (ad 0)), (1, .int topics)]) hx hb dX7_cover_54 hl (by decide) rfl (fun ls hl => ?_)
          refine lv_iload hx hb dX7_cover_56 (lv_at hl 0 rfl) ?_
          refine lv_if_eq (tgt := 80) hx hb dX7_cover_58 (by decide) (fun c7 => ?_) (fun c7 => ?_)
          · exact absurd c7 (by decide)
          · refine lv_iload_n hx hb dX7_cover_61 rfl (lv_at hl 2 rfl) ?_
            refine lv_if_lt (tgt := 76) hx hb dX7_cover_62 (by decide) (fun c8 => ?_) (fun c8 => ?_)
            · refine lv_iload_n hx hb dX7_cover_76 rfl (lv_at hl 1 rfl) ?_
              refine lv_goto (tgt := 81) hx hb dX7_cover_77 (by decide) ?_
              refine lv_istore_n (lv' := [(2, .int (nI i)), (4, .int 1), (3, .int (nI i)), (0, .ref (ad 0)), (1, .int topics)]) hx hb dX7_cover_81 rfl hl (by decide) rfl (fun ls hl => ?_)
              refine lv_iinc (v := (nI (i + 1))) (lv' := [(3, .int (nI (i + 1))), (2, .int (nI i)), (4, .int 1), (0, .ref (ad 0)), (1, .int topics)]) hx hb dX7_cover_82 hl (k := 2) rfl (by exact nI_1 _) (by decide) rfl (fun ls hl => ?_)
              refine lv_goto (tgt := 17) hx hb dX7_cover_85 (by decide) ?_
              exact ih17 (i + 1) (nI i) _ _ _ (by omega) (by rw [hres17, m_cover_L17, if_pos c5, if_pos c8]) hP hS (lv_sub hl [0, 1, 3, 4] rfl)
            · refine lv_iload_n hx hb dX7_cover_65 rfl (lv_at hl 1 rfl) ?_
              refine g_rd (g_runS (As := [.int (nI i)]) (rest := []) ky_yX7_ones lk_RX7_84 C (c_yX7_ones l (nI i)) ⟨rfl, rfl, by decide, by decide⟩ rfl hl.1 rfl (Nat.le_of_ble_eq_true rfl) ⟨Nat.zero_le _, Nat.zero_le _⟩ dX7_cover_66) ?_
              refine lv_iload_n hx hb dX7_cover_69 rfl (lv_at hl 2 rfl) ?_
              refine g_rd (g_runS (As := [.int best]) (rest := [.int (m_ones (nI i))]) ky_yX7_ones lk_RX7_84 C (c_yX7_ones l best) ⟨rfl, rfl, by decide, by decide⟩ rfl hl.1 rfl (Nat.le_of_ble_eq_true rfl) ⟨Nat.zero_le _, Nat.zero_le _⟩ dX7_cover_70) ?_
              refine lv_icmp_ge (tgt := 80) hx hb dX7_cover_73 (by decide) (fun c9 => ?_) (fun c9 => ?_)
              · refine lv_iload_n hx hb dX7_cover_80 rfl (lv_at hl 2 rfl) ?_
                refine lv_istore_n (lv' := [(2, .int best), (4, .int 1), (3, .int (nI i)), (0, .ref (ad 0)), (1, .int topics)]) hx hb dX7_cover_81 rfl hl (by decide) rfl (fun ls hl => ?_)
                refine lv_iinc (v := (nI (i + 1))) (lv' := [(3, .int (nI (i + 1))), (2, .int best), (4, .int 1), (0, .ref (ad 0)), (1, .int topics)]) hx hb dX7_cover_82 hl (k := 2) rfl (by exact nI_1 _) (by decide) rfl (fun ls hl => ?_)
                refine lv_goto (tgt := 17) hx hb dX7_cover_85 (by decide) ?_
                exact ih17 (i + 1) best _ _ _ (by omega) (by rw [hres17, m_cover_L17, if_pos c5, if_neg c8, if_pos c9]) hP hS (lv_sub hl [0, 1, 3, 4] rfl)
              · refine lv_iload_n hx hb dX7_cover_76 rfl (lv_at hl 1 rfl) ?_
                refine lv_goto (tgt := 81) hx hb dX7_cover_77 (by decide) ?_
                refine lv_istore_n (lv' := [(2, .int (nI i)), (4, .int 1), (3, .int (nI i)), (0, .ref (ad 0)), (1, .int topics)]) hx hb dX7_cover_81 rfl hl (by decide) rfl (fun ls hl => ?_)
                refine lv_iinc (v := (nI (i + 1))) (lv' := [(3, .int (nI (i + 1))), (2, .int (nI i)), (4, .int 1), (0, .ref (ad 0)), (1, .int topics)]) hx hb dX7_cover_82 hl (k := 2) rfl (by exact nI_1 _) (by decide) rfl (fun ls hl => ?_)
                refine lv_goto (tgt := 17) hx hb dX7_cover_85 (by decide) ?_
                exact ih17 (i + 1) (nI i) _ _ _ (by omega) (by rw [hres17, m_cover_L17, if_pos c5, if_neg c8, if_neg c9]) hP hS (lv_sub hl [0, 1, 3, 4] rfl)
  · refine lv_aload_n hx hb dX7_cover_7 rfl (lv_at hl 0 rfl) ?_
    refine lv_iconst (v := 0) hx hb dX7_cover_8 (by decide) ?_
    refine g_wrI0 hS (g_runV (As := [.int 0]) (rest := []) ky_yX7_finds lk_RX7_128 C hX (gS_b0 hI hS) hP 0 (c_yX7_finds l G ad hI σ 0 (by decide)) (by decide) (shM_0 G ad _) ⟨rfl, rfl, by decide, by decide⟩ rfl hl.1 rfl (Nat.le_of_ble_eq_true rfl) ⟨Nat.zero_le _, Nat.zero_le _⟩ dX7_cover_9) (fun H locs hP hS => ?_)
    exact g_iretM C hr hlk rfl (by rw [m_cover, if_pos c1]) hP hS dX7_cover_12

def m_away_L50 (σ : gM) (glove : Int32) (topic : Int32) (k : Int32) (σ1 : gM) : Nat → Nat → Int32 → gM → Int32 × gM
  | 0, i, best, τ => if 0 ≤ best then (best, (mset τ 0 2 0)) else ((m_finds (mset τ 0 2 0) 3).1, (m_finds (mset τ 0 2 0) 3).2)
  | n50 + 1, i, best, τ => if ((jshr (nI i) glove) &&& 1) = 1 then (m_away_L50 σ glove topic k σ1 n50 (i + 1) best τ) else (if best < 0 then (if ((jshr ((m_its (m_daysGo (mset τ 0 2 (nI i)) (nN k)) (nN glove) 3) ||| (m_its (m_daysGo (mset τ 0 2 (nI i)) (nN k)) (nN glove) 5)) topic) &&& 1) = 1 then (m_away_L50 σ glove topic k σ1 n50 (i + 1) (nI i) ((m_copies (m_daysGo (mset τ 0 2 (nI i)) (nN k)) 3 1))) else (m_away_L50 σ glove topic k σ1 n50 (i + 1) best ((m_copies (m_daysGo (mset τ 0 2 (nI i)) (nN k)) 3 1)))) else (if (m_ones (nI i)) < (m_ones best) then (if ((jshr ((m_its (m_daysGo (mset τ 0 2 (nI i)) (nN k)) (nN glove) 3) ||| (m_its (m_daysGo (mset τ 0 2 (nI i)) (nN k)) (nN glove) 5)) topic) &&& 1) = 1 then (m_away_L50 σ glove topic k σ1 n50 (i + 1) (nI i) ((m_copies (m_daysGo (mset τ 0 2 (nI i)) (nN k)) 3 1))) else (m_away_L50 σ glove topic k σ1 n50 (i + 1) best ((m_copies (m_daysGo (mset τ 0 2 (nI i)) (nN k)) 3 1)))) else (m_away_L50 σ glove topic k σ1 n50 (i + 1) best τ)))
def m_away_m1 (σ : gM) (glove : Int32) (topic : Int32) (k : Int32) (σ1 : gM) : Int32 × gM := (m_away_L50 σ glove topic k σ1 (2 ^ nN (σ 1 0)) 0 (-1) σ1)
def m_away (σ : gM) (glove : Int32) (topic : Int32) (k : Int32) : Int32 × gM := if (m_isGlove σ glove) = 0 then ((m_finds σ 0).1, (m_finds σ 0).2) else (if (m_isTopic topic) = 0 then ((m_finds σ 0).1, (m_finds σ 0).2) else (if (m_in ((k).toInt64) 0 20) = 0 then ((m_finds σ 0).1, (m_finds σ 0).2) else (m_away_m1 σ glove topic k (m_copies σ 1 3))))
def rm_yX7_away : Room := { frames := 7, cells := 0, slots := 0, locals := 158 }
set_option maxHeartbeats 4000000 in
set_option maxRecDepth 100000 in
theorem c_yX7_away (l : Launch) (G : gG) (ad : Nat → Nat) (hI : gI G.2.2.1 11 ad) (σ : gM) (glove : Int32) (topic : Int32) (k : Int32) (N : Nat) (hN : N ≤ 8) (hs : σ 1 0 = nI N) (hd : ¬ σ 1 1 < 0) : gMutI l yX7_away cX7_away 7 (some .int) rm_yX7_away G [.ref (ad 0), .int glove, .int topic, .int k] 11 ad (shM G ad) σ (m_away σ glove topic k) := by
  refine g_start [.ref (ad 0), .int glove, .int topic, .int k] (by decide +kernel) (Nat.le_of_ble_eq_true rfl) ?_
  intro p e s m below meth c ls B Z hl
  obtain ⟨C, hr, hlk⟩ := B
  have hx := C.1
  have hb := C.2.1
  obtain ⟨hX, hP⟩ := Z
  have hS : va_S (gA 11 ad) s.heap s.heap [] := va_S.rf
  revert hP hS
  intro hP hS
  have hl : lv_has ls 7 [(0, .ref (ad 0)), (1, .int glove), (2, .int topic), (3, .int k)] := hl
  obtain ⟨P, hP2⟩ : ∃ P, P = 2 ^ N := ⟨_, rfl⟩
  have hP3 : P ≤ 256 := by rw [hP2]; exact pow8 hN
  refine lv_aload_n hx hb dX7_away_0 rfl (lv_at hl 0 rfl) ?_
  refine lv_iload_n hx hb dX7_away_1 rfl (lv_at hl 1 rfl) ?_
  refine g_rd (g_runV (As := [.int glove]) (rest := []) ky_yX7_isGlove lk_RX7_138 C hX (gS_b0 hI hS) hP 0 (c_yX7_isGlove l G ad hI σ glove) (by decide) (shM_0 G ad _) ⟨rfl, rfl, by decide, by decide⟩ rfl hl.1 rfl (Nat.le_of_ble_eq_true rfl) ⟨Nat.zero_le _, Nat.zero_le _⟩ dX7_away_2) ?_
  refine lv_if_eq (tgt := 27) hx hb dX7_away_5 (by decide) (fun c1 => ?_) (fun c1 => ?_)
  · refine lv_aload_n hx hb dX7_away_27 rfl (lv_at hl 0 rfl) ?_
    refine lv_iconst (v := 0) hx hb dX7_away_28 (by decide) ?_
    refine g_wrI0 hS (g_runV (As := [.int 0]) (rest := []) ky_yX7_finds lk_RX7_128 C hX (gS_b0 hI hS) hP 0 (c_yX7_finds l G ad hI σ 0 (by decide)) (by decide) (shM_0 G ad _) ⟨rfl, rfl, by decide, by decide⟩ rfl hl.1 rfl (Nat.le_of_ble_eq_true rfl) ⟨Nat.zero_le _, Nat.zero_le _⟩ dX7_away_29) (fun H locs hP hS => ?_)
    exact g_iretM C hr hlk rfl (by rw [m_away, if_pos c1]) hP hS dX7_away_32
  · obtain ⟨hg1, hg2⟩ := glv_of hN hs c1
    refine lv_iload_n hx hb dX7_away_8 rfl (lv_at hl 2 rfl) ?_
    refine g_rd (g_runS (As := [.int topic]) (rest := []) ky_yX7_isTopic lk_RX7_147 C (c_yX7_isTopic l topic) ⟨rfl, rfl, by decide, by decide⟩ rfl hl.1 rfl (Nat.le_of_ble_eq_true rfl) ⟨Nat.zero_le _, Nat.zero_le _⟩ dX7_away_9) ?_
    refine lv_if_eq (tgt := 27) hx hb dX7_away_12 (by decide) (fun c2 => ?_) (fun c2 => ?_)
    · refine lv_aload_n hx hb dX7_away_27 rfl (lv_at hl 0 rfl) ?_
      refine lv_iconst (v := 0) hx hb dX7_away_28 (by decide) ?_
      refine g_wrI0 hS (g_runV (As := [.int 0]) (rest := []) ky_yX7_finds lk_RX7_128 C hX (gS_b0 hI hS) hP 0 (c_yX7_finds l G ad hI σ 0 (by decide)) (by decide) (shM_0 G ad _) ⟨rfl, rfl, by decide, by decide⟩ rfl hl.1 rfl (Nat.le_of_ble_eq_true rfl) ⟨Nat.zero_le _, Nat.zero_le _⟩ dX7_away_29) (fun H locs hP hS => ?_)
      exact g_iretM C hr hlk rfl (by rw [m_away, if_neg c1, if_pos c2]) hP hS dX7_away_32
    · refine lv_iload_n hx hb dX7_away_15 rfl (lv_at hl 3 rfl) ?_
      refine lv_i2l (v := (k).toInt64) hx hb dX7_away_16 rfl ?_
      refine lv_lconst (v := 0) hx hb dX7_away_17 (by decide) ?_
      refine lv_ldc2 hx hb C.2.2.2.1 (C.2.2.2.2 _ kc_RX7_188) dX7_away_18 ?_
      refine g_rd (g_runS (As := [.long ((k).toInt64), .long 0, .long 20]) (rest := []) ky_yX7_in lk_RX7_42 C (c_yX7_in l ((k).toInt64) 0 20) ⟨rfl, rfl, by decide, by decide⟩ rfl hl.1 rfl (Nat.le_of_ble_eq_true rfl) ⟨Nat.zero_le _, Nat.zero_le _⟩ dX7_away_21) ?_
      refine lv_if_ne (tgt := 33) hx hb dX7_away_24 (by decide) (fun c3 => ?_) (fun c3 => ?_)
      · obtain ⟨hk1, hk2⟩ := in_nat (M := 21) (by decide) (by decide) c3
        refine lv_aload_n hx hb dX7_away_33 rfl (lv_at hl 0 rfl) ?_
        refine g_get fd_RX7_7 C hX hP 0 (by decide) (shM_0 G ad _) (v := .ref (ad 1)) rfl dX7_away_34 ?_
        refine lv_aload_n hx hb dX7_away_37 rfl (lv_at hl 0 rfl) ?_
        refine g_get fd_RX7_16 C hX hP 0 (by decide) (shM_0 G ad _) (v := .ref (ad 3)) rfl dX7_away_38 ?_
        refine g_wrV0 hS (g_runSW (As := [.ref (ad 1), .ref (ad 3)]) (rest := []) ky_yX7_copies lk_RX7_167 C hX (gS_b0 hI hS) hP (c_yX7_copies l G ad hI σ 1 3 (by decide) (by decide) (fun _ => rfl) (fun _ => rfl)) ⟨rfl, rfl, by decide, by decide⟩ rfl hl.1 rfl (Nat.le_of_ble_eq_true rfl) ⟨Nat.zero_le _, Nat.zero_le _⟩ dX7_away_41) (fun H locs hP hS => ?_)
        obtain ⟨σ1, eσ1⟩ : ∃ τ_ : gM, τ_ = (m_copies σ 1 3) := ⟨_, rfl⟩
        rw [← eσ1] at hP
        have hs1 : σ1 1 0 = nI N := by rw [eσ1, cp_row (by decide) _ (by decide)]; exact hs
        have hd1 : ¬ σ1 1 1 < 0 := by rw [eσ1, cp_row (by decide) _ (by decide)]; exact hd
        have hA1 : ∀ j, j < 75 → σ1 3 j = σ 1 j := fun j hj => by rw [eσ1, cp_at (by decide) _ hj]
        have hB1 : ∀ j, j < 75 → σ1 1 j = σ 1 j := fun j hj => by rw [eσ1, cp_row (by decide) _ (by decide)]
        refine lv_iconst (v := (-1)) hx hb dX7_away_44 (by decide) ?_
        refine lv_istore (lv' := [(4, .int (-1)), (0, .ref (ad 0)), (1, .int glove), (2, .int topic), (3, .int k)]) hx hb dX7_away_45 hl (by decide) rfl (fun ls hl => ?_)
        refine lv_iconst (v := 0) hx hb dX7_away_47 (by decide) ?_
        refine lv_istore (lv' := [(5, .int 0), (4, .int (-1)), (0, .ref (ad 0)), (1, .int glove), (2, .int topic), (3, .int k)]) hx hb dX7_away_48 hl (by decide) rfl (fun ls hl => ?_)
        suffices loop50 : ∀ (n50 : Nat) (i : Nat) (best : Int32) (τ : gM) (H : Heap) (locs : List Loc) (ls : Array Slot), (i + n50 = P) → (∀ j, j < 75 → τ 3 j = σ 1 j) → (∀ j, j < 75 → τ 1 j = σ 1 j) → m_away σ glove topic k = (m_away_L50 σ glove topic k σ1 n50 i best τ) → gP G.1 11 ad (gE (shM G ad) τ) H → va_S (gA 11 ad) s.heap H locs → lv_has ls 7 [(5, .int (nI i)), (4, .int best), (0, .ref (ad 0)), (1, .int glove), (2, .int topic), (3, .int k)] → W p l e rm_yX7_away s m ([.ref (ad 0), .int glove, .int topic, .int k] : List Value).toArray below meth c H locs 0 0 (MQ below (va_Qi (fun (x : Int32) (τ : gM) => m_away σ glove topic k = (x, τ)) (fun τ t => gP G.1 11 ad (gE (shM G ad) τ) t.heap) (gA 11 ad)) ([.ref (ad 0), .int glove, .int topic, .int k] : List Value).toArray s 0 0 (gA 11 ad)) (F0 m 50 ls []) by
          exact loop50 P 0 (-1) σ1 _ _ _ (by omega) hA1 hB1 (by rw [m_away, if_neg c1, if_neg c2, if_neg c3, ← eσ1, m_away_m1, hs, nN_nI (by omega), ← hP2]) hP hS (lv_sub hl [0, 1, 2, 3, 4, 5] rfl)
        intro n50
        induction n50 with
        | zero =>
          intro i best τ H locs ls hi50 hA hB hres50 hP hS hl
          refine lv_iload hx hb dX7_away_50 (lv_at hl 0 rfl) ?_
          refine lv_iconst (v := 1) hx hb dX7_away_52 (by decide) ?_
          refine lv_aload_n hx hb dX7_away_53 rfl (lv_at hl 2 rfl) ?_
          refine g_get fd_RX7_7 C hX hP 0 (by decide) (shM_0 G ad _) (v := .ref (ad 1)) rfl dX7_away_54 ?_
          refine lv_iconst (v := 0) hx hb dX7_away_57 (by decide) ?_
          refine lv_as (y := nI 0) rfl ?_
          refine g_iald C hX hP 1 (by decide) (shM_1 G ad _) 0 (by omega) (by decide) dX7_away_58 ?_
          refine g_ishl hx hb dX7_away_59 ?_
          refine lv_as (y := (nI P)) (by rw [hB 0 (by decide), hs, shl1 hN, hP2]) ?_
          refine lv_icmp_ge (tgt := 156) hx hb dX7_away_60 (by decide) (fun c4 => ?_) (fun c4 => ?_)
          · refine lv_aload_n hx hb dX7_away_156 rfl (lv_at hl 2 rfl) ?_
            refine lv_iconst (v := 0) hx hb dX7_away_157 (by decide) ?_
            refine g_put fd_RX7_54 C hX hI hP hS 0 (by decide) (shM_0 G ad _) rfl rfl (Nat.le_of_ble_eq_true rfl) (upd (τ 0) 2 0) rfl dX7_away_158 (fun H locs hP hS => ?_)
            have hP : gP G.1 11 ad (gE (shM G ad) (mset τ 0 2 0)) H := hP
            refine lv_iload hx hb dX7_away_161 (lv_at hl 1 rfl) ?_
            refine lv_if_ge (tgt := 174) hx hb dX7_away_163 (by decide) (fun c5 => ?_) (fun c5 => ?_)
            · refine lv_iload hx hb dX7_away_174 (lv_at hl 1 rfl) ?_
              exact g_iretM C hr hlk rfl (by rw [hres50, m_away_L50, if_pos c5]) hP hS dX7_away_176
            · refine lv_aload_n hx hb dX7_away_166 rfl (lv_at hl 2 rfl) ?_
              refine lv_iconst (v := 3) hx hb dX7_away_167 (by decide) ?_
              refine g_wrI0 hS (g_runV (As := [.int 3]) (rest := []) ky_yX7_finds lk_RX7_128 C hX (gS_b0 hI hS) hP 0 (c_yX7_finds l G ad hI (mset τ 0 2 0) 3 (by decide)) (by decide) (shM_0 G ad _) ⟨rfl, rfl, by decide, by decide⟩ rfl hl.1 rfl (Nat.le_of_ble_eq_true rfl) ⟨Nat.zero_le _, Nat.zero_le _⟩ dX7_away_168) (fun H locs hP hS => ?_)
              refine lv_goto (tgt := 176) hx hb dX7_away_171 (by decide) ?_
              exact g_iretM C hr hlk rfl (by rw [hres50, m_away_L50, if_neg c5]) hP hS dX7_away_176
          · exact absurd (show nI (P) ≤ nI i from nI_le (by omega) (by omega)) c4
        | succ n50 ih50 =>
          intro i best τ H locs ls hi50 hA hB hres50 hP hS hl
          refine lv_iload hx hb dX7_away_50 (lv_at hl 0 rfl) ?_
          refine lv_iconst (v := 1) hx hb dX7_away_52 (by decide) ?_
          refine lv_aload_n hx hb dX7_away_53 rfl (lv_at hl 2 rfl) ?_
          refine g_get fd_RX7_7 C hX hP 0 (by decide) (shM_0 G ad _) (v := .ref (ad 1)) rfl dX7_away_54 ?_
          refine lv_iconst (v := 0) hx hb dX7_away_57 (by decide) ?_
          refine lv_as (y := nI 0) rfl ?_
          refine g_iald C hX hP 1 (by decide) (shM_1 G ad _) 0 (by omega) (by decide) dX7_away_58 ?_
          refine g_ishl hx hb dX7_away_59 ?_
          refine lv_as (y := (nI P)) (by rw [hB 0 (by decide), hs, shl1 hN, hP2]) ?_
          refine lv_icmp_ge (tgt := 156) hx hb dX7_away_60 (by decide) (fun c6 => ?_) (fun c6 => ?_)
          · exact absurd (show nI (P) ≤ nI i from c6) (nI_ge (by omega) (by omega))
          · refine lv_iload hx hb dX7_away_63 (lv_at hl 0 rfl) ?_
            refine lv_iload_n hx hb dX7_away_65 rfl (lv_at hl 3 rfl) ?_
            refine g_ishr hx hb dX7_away_66 ?_
            refine lv_iconst (v := 1) hx hb dX7_away_67 (by decide) ?_
            refine lv_iand hx hb dX7_away_68 ?_
            refine lv_iconst (v := 1) hx hb dX7_away_69 (by decide) ?_
            refine lv_icmp_eq (tgt := 150) hx hb dX7_away_70 (by decide) (fun c7 => ?_) (fun c7 => ?_)
            · refine lv_iinc (v := (nI (i + 1))) (lv' := [(5, .int (nI (i + 1))), (4, .int best), (0, .ref (ad 0)), (1, .int glove), (2, .int topic), (3, .int k)]) hx hb dX7_away_150 hl (k := 0) rfl (by exact nI_1 _) (by decide) rfl (fun ls hl => ?_)
              refine lv_goto (tgt := 50) hx hb dX7_away_153 (by decide) ?_
              exact ih50 (i + 1) best τ _ _ _ (by omega) (fun j hj => by first | exact hA j hj | (rw [cp_row (by decide) _ (by decide), dys_row _ _ (by decide)]; exact hA j hj)) (fun j hj => by first | exact hB j hj | (rw [cp_at (by decide) _ hj, dys_row _ _ (by decide)]; exact hA j hj)) (by rw [hres50, m_away_L50, if_pos c7]) hP hS (lv_sub hl [0, 1, 2, 3, 4, 5] rfl)
            · refine lv_iload hx hb dX7_away_73 (lv_at hl 1 rfl) ?_
              refine lv_if_lt (tgt := 94) hx hb dX7_away_75 (by decide) (fun c8 => ?_) (fun c8 => ?_)
              · refine lv_aload_n hx hb dX7_away_94 rfl (lv_at hl 2 rfl) ?_
                refine lv_iload hx hb dX7_away_95 (lv_at hl 0 rfl) ?_
                refine g_put fd_RX7_54 C hX hI hP hS 0 (by decide) (shM_0 G ad _) rfl rfl (Nat.le_of_ble_eq_true rfl) (upd (τ 0) 2 (nI i)) rfl dX7_away_97 (fun H locs hP hS => ?_)
                have hP : gP G.1 11 ad (gE (shM G ad) (mset τ 0 2 (nI i))) H := hP
                refine lv_aload_n hx hb dX7_away_100 rfl (lv_at hl 2 rfl) ?_
                refine lv_iload_n hx hb dX7_away_101 rfl (lv_at hl 5 rfl) ?_
                refine lv_as (y := (nI (nN k))) hk1 ?_
                refine g_wrV0 hS (g_runV (As := [.int (nI (nN k))]) (rest := []) ky_yX7_daysGo lk_RX7_152 C hX (gS_b0 hI hS) hP 0 (c_yX7_daysGo l G ad hI (mset τ 0 2 (nI i)) (nN k) N hN (by exact (hB 0 (by decide)).trans hs) (by exact fun q => hd (by rw [← hB 1 (by decide)]; exact q)) (by omega)) (by decide) (shM_0 G ad _) ⟨rfl, rfl, by decide, by decide⟩ rfl hl.1 rfl (Nat.le_of_ble_eq_true rfl) ⟨Nat.zero_le _, Nat.zero_le _⟩ dX7_away_102) (fun H locs hP hS => ?_)
                refine lv_aload_n hx hb dX7_away_105 rfl (lv_at hl 2 rfl) ?_
                refine lv_iload_n hx hb dX7_away_106 rfl (lv_at hl 3 rfl) ?_
                refine lv_as (y := (nI (nN glove))) hg1 ?_
                refine lv_iconst (v := 3) hx hb dX7_away_107 (by decide) ?_
                refine g_rd (g_runV (As := [.int (nI (nN glove)), .int 3]) (rest := []) ky_yX7_its lk_RX7_58 C hX (gS_b0 hI hS) hP 0 (c_yX7_its l G ad hI (m_daysGo (mset τ 0 2 (nI i)) (nN k)) (nN glove) 3 (by omega) (by decide)) (by decide) (shM_0 G ad _) ⟨rfl, rfl, by decide, by decide⟩ rfl hl.1 rfl (Nat.le_of_ble_eq_true rfl) ⟨Nat.zero_le _, Nat.zero_le _⟩ dX7_away_108) ?_
                refine lv_aload_n hx hb dX7_away_111 rfl (lv_at hl 2 rfl) ?_
                refine lv_iload_n hx hb dX7_away_112 rfl (lv_at hl 3 rfl) ?_
                refine lv_as (y := (nI (nN glove))) hg1 ?_
                refine lv_iconst (v := 5) hx hb dX7_away_113 (by decide) ?_
                refine g_rd (g_runV (As := [.int (nI (nN glove)), .int 5]) (rest := [.int (m_its (m_daysGo (mset τ 0 2 (nI i)) (nN k)) (nN glove) 3)]) ky_yX7_its lk_RX7_58 C hX (gS_b0 hI hS) hP 0 (c_yX7_its l G ad hI (m_daysGo (mset τ 0 2 (nI i)) (nN k)) (nN glove) 5 (by omega) (by decide)) (by decide) (shM_0 G ad _) ⟨rfl, rfl, by decide, by decide⟩ rfl hl.1 rfl (Nat.le_of_ble_eq_true rfl) ⟨Nat.zero_le _, Nat.zero_le _⟩ dX7_away_114) ?_
                refine lv_ior hx hb dX7_away_117 ?_
                refine lv_istore (lv' := [(6, .int ((m_its (m_daysGo (mset τ 0 2 (nI i)) (nN k)) (nN glove) 3) ||| (m_its (m_daysGo (mset τ 0 2 (nI i)) (nN k)) (nN glove) 5))), (5, .int (nI i)), (4, .int best), (0, .ref (ad 0)), (1, .int glove), (2, .int topic), (3, .int k)]) hx hb dX7_away_118 hl (by decide) rfl (fun ls hl => ?_)
                refine lv_aload_n hx hb dX7_away_120 rfl (lv_at hl 3 rfl) ?_
                refine g_get fd_RX7_16 C hX hP 0 (by decide) (shM_0 G ad _) (v := .ref (ad 3)) rfl dX7_away_121 ?_
                refine lv_aload_n hx hb dX7_away_124 rfl (lv_at hl 3 rfl) ?_
                refine g_get fd_RX7_7 C hX hP 0 (by decide) (shM_0 G ad _) (v := .ref (ad 1)) rfl dX7_away_125 ?_
                refine g_wrV0 hS (g_runSW (As := [.ref (ad 3), .ref (ad 1)]) (rest := []) ky_yX7_copies lk_RX7_167 C hX (gS_b0 hI hS) hP (c_yX7_copies l G ad hI (m_daysGo (mset τ 0 2 (nI i)) (nN k)) 3 1 (by decide) (by decide) (fun _ => rfl) (fun _ => rfl)) ⟨rfl, rfl, by decide, by decide⟩ rfl hl.1 rfl (Nat.le_of_ble_eq_true rfl) ⟨Nat.zero_le _, Nat.zero_le _⟩ dX7_away_128) (fun H locs hP hS => ?_)
                refine lv_iload hx hb dX7_away_131 (lv_at hl 0 rfl) ?_
                refine lv_iload_n hx hb dX7_away_133 rfl (lv_at hl 5 rfl) ?_
                refine g_ishr hx hb dX7_away_134 ?_
                refine lv_iconst (v := 1) hx hb dX7_away_135 (by decide) ?_
                refine lv_iand hx hb dX7_away_136 ?_
                refine lv_iconst (v := 1) hx hb dX7_away_137 (by decide) ?_
                refine lv_icmp_ne (tgt := 146) hx hb dX7_away_138 (by decide) (fun c9 => ?_) (fun c9 => ?_)
                · refine lv_iload hx hb dX7_away_146 (lv_at hl 2 rfl) ?_
                  refine lv_istore (lv' := [(4, .int best), (6, .int ((m_its (m_daysGo (mset τ 0 2 (nI i)) (nN k)) (nN glove) 3) ||| (m_its (m_daysGo (mset τ 0 2 (nI i)) (nN k)) (nN glove) 5))), (5, .int (nI i)), (0, .ref (ad 0)), (1, .int glove), (2, .int topic), (3, .int k)]) hx hb dX7_away_148 hl (by decide) rfl (fun ls hl => ?_)
                  refine lv_iinc (v := (nI (i + 1))) (lv' := [(5, .int (nI (i + 1))), (4, .int best), (6, .int ((m_its (m_daysGo (mset τ 0 2 (nI i)) (nN k)) (nN glove) 3) ||| (m_its (m_daysGo (mset τ 0 2 (nI i)) (nN k)) (nN glove) 5))), (0, .ref (ad 0)), (1, .int glove), (2, .int topic), (3, .int k)]) hx hb dX7_away_150 hl (k := 2) rfl (by exact nI_1 _) (by decide) rfl (fun ls hl => ?_)
                  refine lv_goto (tgt := 50) hx hb dX7_away_153 (by decide) ?_
                  exact ih50 (i + 1) best ((m_copies (m_daysGo (mset τ 0 2 (nI i)) (nN k)) 3 1)) _ _ _ (by omega) (fun j hj => by first | exact hA j hj | (rw [cp_row (by decide) _ (by decide), dys_row _ _ (by decide)]; exact hA j hj)) (fun j hj => by first | exact hB j hj | (rw [cp_at (by decide) _ hj, dys_row _ _ (by decide)]; exact hA j hj)) (by rw [hres50, m_away_L50, if_neg c7, if_pos c8, if_neg c9]) hP hS (lv_sub hl [0, 1, 3, 4, 5, 6] rfl)
                · refine lv_iload hx hb dX7_away_141 (lv_at hl 1 rfl) ?_
                  refine lv_goto (tgt := 148) hx hb dX7_away_143 (by decide) ?_
                  refine lv_istore (lv' := [(4, .int (nI i)), (6, .int ((m_its (m_daysGo (mset τ 0 2 (nI i)) (nN k)) (nN glove) 3) ||| (m_its (m_daysGo (mset τ 0 2 (nI i)) (nN k)) (nN glove) 5))), (5, .int (nI i)), (0, .ref (ad 0)), (1, .int glove), (2, .int topic), (3, .int k)]) hx hb dX7_away_148 hl (by decide) rfl (fun ls hl => ?_)
                  refine lv_iinc (v := (nI (i + 1))) (lv' := [(5, .int (nI (i + 1))), (4, .int (nI i)), (6, .int ((m_its (m_daysGo (mset τ 0 2 (nI i)) (nN k)) (nN glove) 3) ||| (m_its (m_daysGo (mset τ 0 2 (nI i)) (nN k)) (nN glove) 5))), (0, .ref (ad 0)), (1, .int glove), (2, .int topic), (3, .int k)]) hx hb dX7_away_150 hl (k := 2) rfl (by exact nI_1 _) (by decide) rfl (fun ls hl => ?_)
                  refine lv_goto (tgt := 50) hx hb dX7_away_153 (by decide) ?_
                  exact ih50 (i + 1) (nI i) ((m_copies (m_daysGo (mset τ 0 2 (nI i)) (nN k)) 3 1)) _ _ _ (by omega) (fun j hj => by first | exact hA j hj | (rw [cp_row (by decide) _ (by decide), dys_row _ _ (by decide)]; exact hA j hj)) (fun j hj => by first | exact hB j hj | (rw [cp_at (by decide) _ hj, dys_row _ _ (by decide)]; exact hA j hj)) (by rw [hres50, m_away_L50, if_neg c7, if_pos c8, if_pos c9]) hP hS (lv_sub hl [0, 1, 3, 4, 5, 6] rfl)
              · refine lv_iload hx hb dX7_away_78 (lv_at hl 0 rfl) ?_
                refine g_rd (g_runS (As := [.int (nI i)]) (rest := []) ky_yX7_ones lk_RX7_84 C (c_yX7_ones l (nI i)) ⟨rfl, rfl, by decide, by decide⟩ rfl hl.1 rfl (Nat.le_of_ble_eq_true rfl) ⟨Nat.zero_le _, Nat.zero_le _⟩ dX7_away_80) ?_
                refine lv_iload hx hb dX7_away_83 (lv_at hl 1 rfl) ?_
                refine g_rd (g_runS (As := [.int best]) (rest := [.int (m_ones (nI i))]) ky_yX7_ones lk_RX7_84 C (c_yX7_ones l best) ⟨rfl, rfl, by decide, by decide⟩ rfl hl.1 rfl (Nat.le_of_ble_eq_true rfl) ⟨Nat.zero_le _, Nat.zero_le _⟩ dX7_away_85) ?_
                refine lv_icmp_lt (tgt := 94) hx hb dX7_away_88 (by decide) (fun c10 => ?_) (fun c10 => ?_)
                · refine lv_aload_n hx hb dX7_away_94 rfl (lv_at hl 2 rfl) ?_
                  refine lv_iload hx hb dX7_away_95 (lv_at hl 0 rfl) ?_
                  refine g_put fd_RX7_54 C hX hI hP hS 0 (by decide) (shM_0 G ad _) rfl rfl (Nat.le_of_ble_eq_true rfl) (upd (τ 0) 2 (nI i)) rfl dX7_away_97 (fun H locs hP hS => ?_)
                  have hP : gP G.1 11 ad (gE (shM G ad) (mset τ 0 2 (nI i))) H := hP
                  refine lv_aload_n hx hb dX7_away_100 rfl (lv_at hl 2 rfl) ?_
                  refine lv_iload_n hx hb dX7_away_101 rfl (lv_at hl 5 rfl) ?_
                  refine lv_as (y := (nI (nN k))) hk1 ?_
                  refine g_wrV0 hS (g_runV (As := [.int (nI (nN k))]) (rest := []) ky_yX7_daysGo lk_RX7_152 C hX (gS_b0 hI hS) hP 0 (c_yX7_daysGo l G ad hI (mset τ 0 2 (nI i)) (nN k) N hN (by exact (hB 0 (by decide)).trans hs) (by exact fun q => hd (by rw [← hB 1 (by decide)]; exact q)) (by omega)) (by decide) (shM_0 G ad _) ⟨rfl, rfl, by decide, by decide⟩ rfl hl.1 rfl (Nat.le_of_ble_eq_true rfl) ⟨Nat.zero_le _, Nat.zero_le _⟩ dX7_away_102) (fun H locs hP hS => ?_)
                  refine lv_aload_n hx hb dX7_away_105 rfl (lv_at hl 2 rfl) ?_
                  refine lv_iload_n hx hb dX7_away_106 rfl (lv_at hl 3 rfl) ?_
                  refine lv_as (y := (nI (nN glove))) hg1 ?_
                  refine lv_iconst (v := 3) hx hb dX7_away_107 (by decide) ?_
                  refine g_rd (g_runV (As := [.int (nI (nN glove)), .int 3]) (rest := []) ky_yX7_its lk_RX7_58 C hX (gS_b0 hI hS) hP 0 (c_yX7_its l G ad hI (m_daysGo (mset τ 0 2 (nI i)) (nN k)) (nN glove) 3 (by omega) (by decide)) (by decide) (shM_0 G ad _) ⟨rfl, rfl, by decide, by decide⟩ rfl hl.1 rfl (Nat.le_of_ble_eq_true rfl) ⟨Nat.zero_le _, Nat.zero_le _⟩ dX7_away_108) ?_
                  refine lv_aload_n hx hb dX7_away_111 rfl (lv_at hl 2 rfl) ?_
                  refine lv_iload_n hx hb dX7_away_112 rfl (lv_at hl 3 rfl) ?_
                  refine lv_as (y := (nI (nN glove))) hg1 ?_
                  refine lv_iconst (v := 5) hx hb dX7_away_113 (by decide) ?_
                  refine g_rd (g_runV (As := [.int (nI (nN glove)), .int 5]) (rest := [.int (m_its (m_daysGo (mset τ 0 2 (nI i)) (nN k)) (nN glove) 3)]) ky_yX7_its lk_RX7_58 C hX (gS_b0 hI hS) hP 0 (c_yX7_its l G ad hI (m_daysGo (mset τ 0 2 (nI i)) (nN k)) (nN glove) 5 (by omega) (by decide)) (by decide) (shM_0 G ad _) ⟨rfl, rfl, by decide, by decide⟩ rfl hl.1 rfl (Nat.le_of_ble_eq_true rfl) ⟨Nat.zero_le _, Nat.zero_le _⟩ dX7_away_114) ?_
                  refine lv_ior hx hb dX7_away_117 ?_
                  refine lv_istore (lv' := [(6, .int ((m_its (m_daysGo (mset τ 0 2 (nI i)) (nN k)) (nN glove) 3) ||| (m_its (m_daysGo (mset τ 0 2 (nI i)) (nN k)) (nN glove) 5))), (5, .int (nI i)), (4, .int best), (0, .ref (ad 0)), (1, .int glove), (2, .int topic), (3, .int k)]) hx hb dX7_away_118 hl (by decide) rfl (fun ls hl => ?_)
                  refine lv_aload_n hx hb dX7_away_120 rfl (lv_at hl 3 rfl) ?_
                  refine g_get fd_RX7_16 C hX hP 0 (by decide) (shM_0 G ad _) (v := .ref (ad 3)) rfl dX7_away_121 ?_
                  refine lv_aload_n hx hb dX7_away_124 rfl (lv_at hl 3 rfl) ?_
                  refine g_get fd_RX7_7 C hX hP 0 (by decide) (shM_0 G ad _) (v := .ref (ad 1)) rfl dX7_away_125 ?_
                  refine g_wrV0 hS (g_runSW (As := [.ref (ad 3), .ref (ad 1)]) (rest := []) ky_yX7_copies lk_RX7_167 C hX (gS_b0 hI hS) hP (c_yX7_copies l G ad hI (m_daysGo (mset τ 0 2 (nI i)) (nN k)) 3 1 (by decide) (by decide) (fun _ => rfl) (fun _ => rfl)) ⟨rfl, rfl, by decide, by decide⟩ rfl hl.1 rfl (Nat.le_of_ble_eq_true rfl) ⟨Nat.zero_le _, Nat.zero_le _⟩ dX7_away_128) (fun H locs hP hS => ?_)
                  refine lv_iload hx hb dX7_away_131 (lv_at hl 0 rfl) ?_
                  refine lv_iload_n hx hb dX7_away_133 rfl (lv_at hl 5 rfl) ?_
                  refine g_ishr hx hb dX7_away_134 ?_
                  refine lv_iconst (v := 1) hx hb dX7_away_135 (by decide) ?_
                  refine lv_iand hx hb dX7_away_136 ?_
                  refine lv_iconst (v := 1) hx hb dX7_away_137 (by decide) ?_
                  refine lv_icmp_ne (tgt := 146) hx hb dX7_away_138 (by decide) (fun c11 => ?_) (fun c11 => ?_)
                  · refine lv_iload hx hb dX7_away_146 (lv_at hl 2 rfl) ?_
                    refine lv_istore (lv' := [(4, .int best), (6, .int ((m_its (m_daysGo (mset τ 0 2 (nI i)) (nN k)) (nN glove) 3) ||| (m_its (m_daysGo (mset τ 0 2 (nI i)) (nN k)) (nN glove) 5))), (5, .int (nI i)), (0, .ref (ad 0)), (1, .int glove), (2, .int topic), (3, .int k)]) hx hb dX7_away_148 hl (by decide) rfl (fun ls hl => ?_)
                    refine lv_iinc (v := (nI (i + 1))) (lv' := [(5, .int (nI (i + 1))), (4, .int best), (6, .int ((m_its (m_daysGo (mset τ 0 2 (nI i)) (nN k)) (nN glove) 3) ||| (m_its (m_daysGo (mset τ 0 2 (nI i)) (nN k)) (nN glove) 5))), (0, .ref (ad 0)), (1, .int glove), (2, .int topic), (3, .int k)]) hx hb dX7_away_150 hl (k := 2) rfl (by exact nI_1 _) (by decide) rfl (fun ls hl => ?_)
                    refine lv_goto (tgt := 50) hx hb dX7_away_153 (by decide) ?_
                    exact ih50 (i + 1) best ((m_copies (m_daysGo (mset τ 0 2 (nI i)) (nN k)) 3 1)) _ _ _ (by omega) (fun j hj => by first | exact hA j hj | (rw [cp_row (by decide) _ (by decide), dys_row _ _ (by decide)]; exact hA j hj)) (fun j hj => by first | exact hB j hj | (rw [cp_at (by decide) _ hj, dys_row _ _ (by decide)]; exact hA j hj)) (by rw [hres50, m_away_L50, if_neg c7, if_neg c8, if_pos c10, if_neg c11]) hP hS (lv_sub hl [0, 1, 3, 4, 5, 6] rfl)
                  · refine lv_iload hx hb dX7_away_141 (lv_at hl 1 rfl) ?_
                    refine lv_goto (tgt := 148) hx hb dX7_away_143 (by decide) ?_
                    refine lv_istore (lv' := [(4, .int (nI i)), (6, .int ((m_its (m_daysGo (mset τ 0 2 (nI i)) (nN k)) (nN glove) 3) ||| (m_its (m_daysGo (mset τ 0 2 (nI i)) (nN k)) (nN glove) 5))), (5, .int (nI i)), (0, .ref (ad 0)), (1, .int glove), (2, .int topic), (3, .int k)]) hx hb dX7_away_148 hl (by decide) rfl (fun ls hl => ?_)
                    refine lv_iinc (v := (nI (i + 1))) (lv' := [(5, .int (nI (i + 1))), (4, .int (nI i)), (6, .int ((m_its (m_daysGo (mset τ 0 2 (nI i)) (nN k)) (nN glove) 3) ||| (m_its (m_daysGo (mset τ 0 2 (nI i)) (nN k)) (nN glove) 5))), (0, .ref (ad 0)), (1, .int glove), (2, .int topic), (3, .int k)]) hx hb dX7_away_150 hl (k := 2) rfl (by exact nI_1 _) (by decide) rfl (fun ls hl => ?_)
                    refine lv_goto (tgt := 50) hx hb dX7_away_153 (by decide) ?_
                    exact ih50 (i + 1) (nI i) ((m_copies (m_daysGo (mset τ 0 2 (nI i)) (nN k)) 3 1)) _ _ _ (by omega) (fun j hj => by first | exact hA j hj | (rw [cp_row (by decide) _ (by decide), dys_row _ _ (by decide)]; exact hA j hj)) (fun j hj => by first | exact hB j hj | (rw [cp_at (by decide) _ hj, dys_row _ _ (by decide)]; exact hA j hj)) (by rw [hres50, m_away_L50, if_neg c7, if_neg c8, if_pos c10, if_pos c11]) hP hS (lv_sub hl [0, 1, 3, 4, 5, 6] rfl)
                · refine lv_goto (tgt := 150) hx hb dX7_away_91 (by decide) ?_
                  refine lv_iinc (v := (nI (i + 1))) (lv' := [(5, .int (nI (i + 1))), (4, .int best), (0, .ref (ad 0)), (1, .int glove), (2, .int topic), (3, .int k)]) hx hb dX7_away_150 hl (k := 0) rfl (by exact nI_1 _) (by decide) rfl (fun ls hl => ?_)
                  refine lv_goto (tgt := 50) hx hb dX7_away_153 (by decide) ?_
                  exact ih50 (i + 1) best τ _ _ _ (by omega) (fun j hj => by first | exact hA j hj | (rw [cp_row (by decide) _ (by decide), dys_row _ _ (by decide)]; exact hA j hj)) (fun j hj => by first | exact hB j hj | (rw [cp_at (by decide) _ hj, dys_row _ _ (by decide)]; exact hA j hj)) (by rw [hres50, m_away_L50, if_neg c7, if_neg c8, if_neg c10]) hP hS (lv_sub hl [0, 1, 2, 3, 4, 5] rfl)
      · refine lv_aload_n hx hb dX7_away_27 rfl (lv_at hl 0 rfl) ?_
        refine lv_iconst (v := 0) hx hb dX7_away_28 (by decide) ?_
        refine g_wrI0 hS (g_runV (As := [.int 0]) (rest := []) ky_yX7_finds lk_RX7_128 C hX (gS_b0 hI hS) hP 0 (c_yX7_finds l G ad hI σ 0 (by decide)) (by decide) (shM_0 G ad _) ⟨rfl, rfl, by decide, by decide⟩ rfl hl.1 rfl (Nat.le_of_ble_eq_true rfl) ⟨Nat.zero_le _, Nat.zero_le _⟩ dX7_away_29) (fun H locs hP hS => ?_)
        exact g_iretM C hr hlk rfl (by rw [m_away, if_neg c1, if_neg c2, if_pos c3]) hP hS dX7_away_32

def m_drawOne (σ : gM) : Int32 × gM := ((jushr (((σ 1 2) * 1103515245) + 12345) 8), (mset σ 1 2 (((σ 1 2) * 1103515245) + 12345)))
def rm_yX7_drawOne : Room := { frames := 0, cells := 0, slots := 0, locals := 0 }
set_option maxHeartbeats 4000000 in
set_option maxRecDepth 100000 in
theorem c_yX7_drawOne (l : Launch) (G : gG) (ad : Nat → Nat) (hI : gI G.2.2.1 11 ad) (σ : gM) : gMutI l yX7_drawOne cX7_drawOne 1 (some .int) rm_yX7_drawOne G [.ref (ad 0)] 11 ad (shM G ad) σ (m_drawOne σ) := by
  refine g_start [.ref (ad 0)] (by decide +kernel) (Nat.le_of_ble_eq_true rfl) ?_
  intro p e s m below meth c ls B Z hl
  obtain ⟨C, hr, hlk⟩ := B
  have hx := C.1
  have hb := C.2.1
  obtain ⟨hX, hP⟩ := Z
  have hS : va_S (gA 11 ad) s.heap s.heap [] := va_S.rf
  revert hP hS
  intro hP hS
  have hl : lv_has ls 1 [(0, .ref (ad 0))] := hl
  refine lv_aload_n hx hb dX7_drawOne_0 rfl (lv_at hl 0 rfl) ?_
  refine g_get fd_RX7_7 C hX hP 0 (by decide) (shM_0 G ad _) (v := .ref (ad 1)) rfl dX7_drawOne_1 ?_
  refine lv_iconst (v := 2) hx hb dX7_drawOne_4 (by decide) ?_
  refine lv_aload_n hx hb dX7_drawOne_5 rfl (lv_at hl 0 rfl) ?_
  refine g_get fd_RX7_7 C hX hP 0 (by decide) (shM_0 G ad _) (v := .ref (ad 1)) rfl dX7_drawOne_6 ?_
  refine lv_iconst (v := 2) hx hb dX7_drawOne_9 (by decide) ?_
  refine lv_as (y := nI 2) rfl ?_
  refine g_iald C hX hP 1 (by decide) (shM_1 G ad _) 2 (by omega) (by decide) dX7_drawOne_10 ?_
  refine lv_ldc hx hb C.2.2.2.1 (C.2.2.2.2 _ kc_RX7_199) dX7_drawOne_11 ?_
  refine lv_imul hx hb dX7_drawOne_13 ?_
  refine lv_sipush (v := 12345) hx hb dX7_drawOne_14 (by decide) ?_
  refine lv_iadd hx hb dX7_drawOne_17 ?_
  refine lv_as1 (y := nI 2) rfl ?_
  refine g_iast C hX hI hP hS 1 (by decide) (shM_1 G ad _) 2 (by omega) (by decide) (upd (σ 1) 2 (((σ 1 2) * 1103515245) + 12345)) rfl dX7_drawOne_18 (fun H locs hP hS => ?_)
  have hP : gP G.1 11 ad (gE (shM G ad) (mset σ 1 2 (((σ 1 2) * 1103515245) + 12345))) H := hP
  refine lv_aload_n hx hb dX7_drawOne_19 rfl (lv_at hl 0 rfl) ?_
  refine g_get fd_RX7_7 C hX hP 0 (by decide) (shM_0 G ad _) (v := .ref (ad 1)) rfl dX7_drawOne_20 ?_
  refine lv_iconst (v := 2) hx hb dX7_drawOne_23 (by decide) ?_
  refine lv_as (y := nI 2) rfl ?_
  refine g_iald C hX hP 1 (by decide) (shM_1 G ad _) 2 (by omega) (by decide) dX7_drawOne_24 ?_
  refine lv_as (y := (((σ 1 2) * 1103515245) + 12345)) rfl ?_
  refine lv_bipush (v := 8) hx hb dX7_drawOne_25 (by decide) ?_
  refine g_iushr hx hb dX7_drawOne_27 ?_
  exact g_iretM C hr hlk rfl (by rw [m_drawOne]) hP hS dX7_drawOne_28

def m_talk_L39 (σ : gM) (k : Int32) : Nat → Nat → gM → Int32 × gM
  | 0, i, τ => ((m_allKnow τ), τ)
  | n39 + 1, i, τ => (m_talk_L39 σ k n39 (i + 1) ((m_dayGoes (mset (m_drawOne (m_drawOne (m_drawOne τ).2).2).2 1 (3 + nN (τ 1 1) % 6) (((1000 * (jrem (m_drawOne τ).1 6)) + (10 * (jrem (m_drawOne (m_drawOne τ).2).1 16))) + (jrem (m_drawOne (m_drawOne (m_drawOne τ).2).2).1 10))))))
def m_talk (σ : gM) (k : Int32) : Int32 × gM := if (m_in ((k).toInt64) 1 20) = 0 then ((m_finds σ 0).1, (m_finds σ 0).2) else (if ((σ 1 1) + k) ≤ 99999 then (m_talk_L39 σ k (nN k) 0 σ) else ((m_finds σ 4).1, (m_finds σ 4).2))
def rm_yX7_talk : Room := { frames := 6, cells := 0, slots := 0, locals := 136 }
set_option maxHeartbeats 4000000 in
set_option maxRecDepth 100000 in
theorem c_yX7_talk (l : Launch) (G : gG) (ad : Nat → Nat) (hI : gI G.2.2.1 11 ad) (σ : gM) (k : Int32) (N : Nat) (hN : N ≤ 8) (hs : σ 1 0 = nI N) (hd : ¬ σ 1 1 < 0) : gMutI l yX7_talk cX7_talk 6 (some .int) rm_yX7_talk G [.ref (ad 0), .int k] 11 ad (shM G ad) σ (m_talk σ k) := by
  refine g_start [.ref (ad 0), .int k] (by decide +kernel) (Nat.le_of_ble_eq_true rfl) ?_
  intro p e s m below meth c ls B Z hl
  obtain ⟨C, hr, hlk⟩ := B
  have hx := C.1
  have hb := C.2.1
  obtain ⟨hX, hP⟩ := Z
  have hS : va_S (gA 11 ad) s.heap s.heap [] := va_S.rf
  revert hP hS
  intro hP hS
  have hl : lv_has ls 6 [(0, .ref (ad 0)), (1, .int k)] := hl
  refine lv_iload_n hx hb dX7_talk_0 rfl (lv_at hl 1 rfl) ?_
  refine lv_i2l (v := (k).toInt64) hx hb dX7_talk_1 rfl ?_
  refine lv_lconst (v := 1) hx hb dX7_talk_2 (by decide) ?_
  refine lv_ldc2 hx hb C.2.2.2.1 (C.2.2.2.2 _ kc_RX7_188) dX7_talk_3 ?_
  refine g_rd (g_runS (As := [.long ((k).toInt64), .long 1, .long 20]) (rest := []) ky_yX7_in lk_RX7_42 C (c_yX7_in l ((k).toInt64) 1 20) ⟨rfl, rfl, by decide, by decide⟩ rfl hl.1 rfl (Nat.le_of_ble_eq_true rfl) ⟨Nat.zero_le _, Nat.zero_le _⟩ dX7_talk_6) ?_
  refine lv_if_ne (tgt := 18) hx hb dX7_talk_9 (by decide) (fun c1 => ?_) (fun c1 => ?_)
  · obtain ⟨hk1, hk2⟩ := in_nat1 (M := 21) (by decide) (by decide) c1
    refine lv_aload_n hx hb dX7_talk_18 rfl (lv_at hl 0 rfl) ?_
    refine g_get fd_RX7_7 C hX hP 0 (by decide) (shM_0 G ad _) (v := .ref (ad 1)) rfl dX7_talk_19 ?_
    refine lv_iconst (v := 1) hx hb dX7_talk_22 (by decide) ?_
    refine lv_as (y := nI 1) rfl ?_
    refine g_iald C hX hP 1 (by decide) (shM_1 G ad _) 1 (by omega) (by decide) dX7_talk_23 ?_
    refine lv_iload_n hx hb dX7_talk_24 rfl (lv_at hl 1 rfl) ?_
    refine lv_iadd hx hb dX7_talk_25 ?_
    refine lv_ldc hx hb C.2.2.2.1 (C.2.2.2.2 _ kc_RX7_112) dX7_talk_26 ?_
    refine lv_icmp_le (tgt := 37) hx hb dX7_talk_28 (by decide) (fun c2 => ?_) (fun c2 => ?_)
    · refine lv_iconst (v := 0) hx hb dX7_talk_37 (by decide) ?_
      refine lv_istore_n (lv' := [(2, .int 0), (0, .ref (ad 0)), (1, .int k)]) hx hb dX7_talk_38 rfl hl (by decide) rfl (fun ls hl => ?_)
      suffices loop39 : ∀ (n39 : Nat) (i : Nat) (τ : gM) (H : Heap) (locs : List Loc) (ls : Array Slot), (i + n39 = (nN k)) → (τ 1 0 = nI N) → (¬ τ 1 1 < 0) → m_talk σ k = (m_talk_L39 σ k n39 i τ) → gP G.1 11 ad (gE (shM G ad) τ) H → va_S (gA 11 ad) s.heap H locs → lv_has ls 6 [(2, .int (nI i)), (0, .ref (ad 0)), (1, .int k)] → W p l e rm_yX7_talk s m ([.ref (ad 0), .int k] : List Value).toArray below meth c H locs 0 0 (MQ below (va_Qi (fun (x : Int32) (τ : gM) => m_talk σ k = (x, τ)) (fun τ t => gP G.1 11 ad (gE (shM G ad) τ) t.heap) (gA 11 ad)) ([.ref (ad 0), .int k] : List Value).toArray s 0 0 (gA 11 ad)) (F0 m 39 ls []) by
        exact loop39 (nN k) 0 σ _ _ _ (by omega) hs hd (by rw [m_talk, if_neg c1, if_pos c2]) hP hS (lv_sub hl [0, 1, 2] rfl)
      intro n39
      induction n39 with
      | zero =>
        intro i τ H locs ls hi39 hn hv hres39 hP hS hl
        refine lv_iload_n hx hb dX7_talk_39 rfl (lv_at hl 0 rfl) ?_
        refine lv_iload_n hx hb dX7_talk_40 rfl (lv_at hl 2 rfl) ?_
        refine lv_as (y := (nI (nN k))) hk1 ?_
        refine lv_icmp_ge (tgt := 110) hx hb dX7_talk_41 (by decide) (fun c3 => ?_) (fun c3 => ?_)
        · refine lv_aload_n hx hb dX7_talk_110 rfl (lv_at hl 1 rfl) ?_
          refine g_rd (g_runV (As := []) (rest := []) ky_yX7_allKnow lk_RX7_155 C hX (gS_b0 hI hS) hP 0 (c_yX7_allKnow l G ad hI τ  N hN hn) (by decide) (shM_0 G ad _) ⟨rfl, rfl, by decide, by decide⟩ rfl hl.1 rfl (Nat.le_of_ble_eq_true rfl) ⟨Nat.zero_le _, Nat.zero_le _⟩ dX7_talk_111) ?_
          exact g_iretM C hr hlk rfl (by rw [hres39, m_talk_L39]) hP hS dX7_talk_114
        · exact absurd (show nI ((nN k)) ≤ nI i from nI_le (by omega) (by omega)) c3
      | succ n39 ih39 =>
        intro i τ H locs ls hi39 hn hv hres39 hP hS hl
        refine lv_iload_n hx hb dX7_talk_39 rfl (lv_at hl 0 rfl) ?_
        refine lv_iload_n hx hb dX7_talk_40 rfl (lv_at hl 2 rfl) ?_
        refine lv_as (y := (nI (nN k))) hk1 ?_
        refine lv_icmp_ge (tgt := 110) hx hb dX7_talk_41 (by decide) (fun c4 => ?_) (fun c4 => ?_)
        · exact absurd (show nI ((nN k)) ≤ nI i from c4) (nI_ge (by omega) (by omega))
        · refine lv_aload_n hx hb dX7_talk_44 rfl (lv_at hl 1 rfl) ?_
          refine g_wrI0 hS (g_runV (As := []) (rest := []) ky_yX7_drawOne lk_RX7_200 C hX (gS_b0 hI hS) hP 0 (c_yX7_drawOne l G ad hI τ ) (by decide) (shM_0 G ad _) ⟨rfl, rfl, by decide, by decide⟩ rfl hl.1 rfl (Nat.le_of_ble_eq_true rfl) ⟨Nat.zero_le _, Nat.zero_le _⟩ dX7_talk_45) (fun H locs hP hS => ?_)
          refine lv_bipush (v := 6) hx hb dX7_talk_48 (by decide) ?_
          refine g_irem hx hb dX7_talk_50 (by decide) ?_
          refine lv_istore_n (lv' := [(3, .int (jrem (m_drawOne τ).1 6)), (2, .int (nI i)), (0, .ref (ad 0)), (1, .int k)]) hx hb dX7_talk_51 rfl hl (by decide) rfl (fun ls hl => ?_)
          refine lv_aload_n hx hb dX7_talk_52 rfl (lv_at hl 2 rfl) ?_
          refine g_wrI0 hS (g_runV (As := []) (rest := []) ky_yX7_drawOne lk_RX7_200 C hX (gS_b0 hI hS) hP 0 (c_yX7_drawOne l G ad hI (m_drawOne τ).2 ) (by decide) (shM_0 G ad _) ⟨rfl, rfl, by decide, by decide⟩ rfl hl.1 rfl (Nat.le_of_ble_eq_true rfl) ⟨Nat.zero_le _, Nat.zero_le _⟩ dX7_talk_53) (fun H locs hP hS => ?_)
          refine lv_bipush (v := 16) hx hb dX7_talk_56 (by decide) ?_
          refine g_irem hx hb dX7_talk_58 (by decide) ?_
          refine lv_istore (lv' := [(4, .int (jrem (m_drawOne (m_drawOne τ).2).1 16)), (3, .int (jrem (m_drawOne τ).1 6)), (2, .int (nI i)), (0, .ref (ad 0)), (1, .int k)]) hx hb dX7_talk_59 hl (by decide) rfl (fun ls hl => ?_)
          refine lv_aload_n hx hb dX7_talk_61 rfl (lv_at hl 3 rfl) ?_
          refine g_wrI0 hS (g_runV (As := []) (rest := []) ky_yX7_drawOne lk_RX7_200 C hX (gS_b0 hI hS) hP 0 (c_yX7_drawOne l G ad hI (m_drawOne (m_drawOne τ).2).2 ) (by decide) (shM_0 G ad _) ⟨rfl, rfl, by decide, by decide⟩ rfl hl.1 rfl (Nat.le_of_ble_eq_true rfl) ⟨Nat.zero_le _, Nat.zero_le _⟩ dX7_talk_62) (fun H locs hP hS => ?_)
          refine lv_bipush (v := 10) hx hb dX7_talk_65 (by decide) ?_
          refine g_irem hx hb dX7_talk_67 (by decide) ?_
          refine lv_istore (lv' := [(5, .int (jrem (m_drawOne (m_drawOne (m_drawOne τ).2).2).1 10)), (4, .int (jrem (m_drawOne (m_drawOne τ).2).1 16)), (3, .int (jrem (m_drawOne τ).1 6)), (2, .int (nI i)), (0, .ref (ad 0)), (1, .int k)]) hx hb dX7_talk_68 hl (by decide) rfl (fun ls hl => ?_)
          refine lv_aload_n hx hb dX7_talk_70 rfl (lv_at hl 4 rfl) ?_
          refine g_get fd_RX7_7 C hX hP 0 (by decide) (shM_0 G ad _) (v := .ref (ad 1)) rfl dX7_talk_71 ?_
          refine lv_iconst (v := 3) hx hb dX7_talk_74 (by decide) ?_
          refine lv_aload_n hx hb dX7_talk_75 rfl (lv_at hl 4 rfl) ?_
          refine g_get fd_RX7_7 C hX hP 0 (by decide) (shM_0 G ad _) (v := .ref (ad 1)) rfl dX7_talk_76 ?_
          refine lv_iconst (v := 1) hx hb dX7_talk_79 (by decide) ?_
          refine lv_as (y := nI 1) rfl ?_
          refine g_iald C hX hP 1 (by decide) (shM_1 G ad _) 1 (by omega) (by decide) dX7_talk_80 ?_
          refine lv_as (y := (τ 1 1)) rfl ?_
          refine lv_bipush (v := 6) hx hb dX7_talk_81 (by decide) ?_
          refine g_irem hx hb dX7_talk_83 (by decide) ?_
          refine lv_iadd hx hb dX7_talk_84 ?_
          refine lv_as (y := (nI (3 + nN (τ 1 1) % 6))) (ix_day hv) ?_
          refine lv_sipush (v := 1000) hx hb dX7_talk_85 (by decide) ?_
          refine lv_iload_n hx hb dX7_talk_88 rfl (lv_at hl 2 rfl) ?_
          refine lv_imul hx hb dX7_talk_89 ?_
          refine lv_bipush (v := 10) hx hb dX7_talk_90 (by decide) ?_
          refine lv_iload hx hb dX7_talk_92 (lv_at hl 1 rfl) ?_
          refine lv_imul hx hb dX7_talk_94 ?_
          refine lv_iadd hx hb dX7_talk_95 ?_
          refine lv_iload hx hb dX7_talk_96 (lv_at hl 0 rfl) ?_
          refine lv_iadd hx hb dX7_talk_98 ?_
          refine g_iast C hX hI hP hS 1 (by decide) (shM_1 G ad _) (3 + nN (τ 1 1) % 6) (by omega) (by decide) (upd ((m_drawOne (m_drawOne (m_drawOne τ).2).2).2 1) (3 + nN (τ 1 1) % 6) (((1000 * (jrem (m_drawOne τ).1 6)) + (10 * (jrem (m_drawOne (m_drawOne τ).2).1 16))) + (jrem (m_drawOne (m_drawOne (m_drawOne τ).2).2).1 10))) rfl dX7_talk_99 (fun H locs hP hS => ?_)
          have hP : gP G.1 11 ad (gE (shM G ad) (mset (m_drawOne (m_drawOne (m_drawOne τ).2).2).2 1 (3 + nN (τ 1 1) % 6) (((1000 * (jrem (m_drawOne τ).1 6)) + (10 * (jrem (m_drawOne (m_drawOne τ).2).1 16))) + (jrem (m_drawOne (m_drawOne (m_drawOne τ).2).2).1 10)))) H := hP
          refine lv_aload_n hx hb dX7_talk_100 rfl (lv_at hl 4 rfl) ?_
          refine g_wrV0 hS (g_runV (As := []) (rest := []) ky_yX7_dayGoes lk_RX7_113 C hX (gS_b0 hI hS) hP 0 (c_yX7_dayGoes l G ad hI (mset (m_drawOne (m_drawOne (m_drawOne τ).2).2).2 1 (3 + nN (τ 1 1) % 6) (((1000 * (jrem (m_drawOne τ).1 6)) + (10 * (jrem (m_drawOne (m_drawOne τ).2).1 16))) + (jrem (m_drawOne (m_drawOne (m_drawOne τ).2).2).1 10)))  N hN (by rw [mset_at]; exact Eq.trans (if_neg (by omega)) hn) (by rw [mset_at]; unfold upd; rw [if_neg (by omega)]; exact hv)) (by decide) (shM_0 G ad _) ⟨rfl, rfl, by decide, by decide⟩ rfl hl.1 rfl (Nat.le_of_ble_eq_true rfl) ⟨Nat.zero_le _, Nat.zero_le _⟩ dX7_talk_101) (fun H locs hP hS => ?_)
          refine lv_iinc (v := (nI (i + 1))) (lv' := [(2, .int (nI (i + 1))), (5, .int (jrem (m_drawOne (m_drawOne (m_drawOne τ).2).2).1 10)), (4, .int (jrem (m_drawOne (m_drawOne τ).2).1 16)), (3, .int (jrem (m_drawOne τ).1 6)), (0, .ref (ad 0)), (1, .int k)]) hx hb dX7_talk_104 hl (k := 3) rfl (by exact nI_1 _) (by decide) rfl (fun ls hl => ?_)
          refine lv_goto (tgt := 39) hx hb dX7_talk_107 (by decide) ?_
          exact ih39 (i + 1) ((m_dayGoes (mset (m_drawOne (m_drawOne (m_drawOne τ).2).2).2 1 (3 + nN (τ 1 1) % 6) (((1000 * (jrem (m_drawOne τ).1 6)) + (10 * (jrem (m_drawOne (m_drawOne τ).2).1 16))) + (jrem (m_drawOne (m_drawOne (m_drawOne τ).2).2).1 10))))) _ _ _ (by omega) ((dg_N _).trans (by rw [mset_at]; exact Eq.trans (if_neg (by omega)) hn)) (dg_D _) (by rw [hres39, m_talk_L39]) hP hS (lv_sub hl [0, 4, 5] rfl)
    · refine lv_aload_n hx hb dX7_talk_31 rfl (lv_at hl 0 rfl) ?_
      refine lv_iconst (v := 4) hx hb dX7_talk_32 (by decide) ?_
      refine g_wrI0 hS (g_runV (As := [.int 4]) (rest := []) ky_yX7_finds lk_RX7_128 C hX (gS_b0 hI hS) hP 0 (c_yX7_finds l G ad hI σ 4 (by decide)) (by decide) (shM_0 G ad _) ⟨rfl, rfl, by decide, by decide⟩ rfl hl.1 rfl (Nat.le_of_ble_eq_true rfl) ⟨Nat.zero_le _, Nat.zero_le _⟩ dX7_talk_33) (fun H locs hP hS => ?_)
      exact g_iretM C hr hlk rfl (by rw [m_talk, if_neg c1, if_neg c2]) hP hS dX7_talk_36
  · refine lv_aload_n hx hb dX7_talk_12 rfl (lv_at hl 0 rfl) ?_
    refine lv_iconst (v := 0) hx hb dX7_talk_13 (by decide) ?_
    refine g_wrI0 hS (g_runV (As := [.int 0]) (rest := []) ky_yX7_finds lk_RX7_128 C hX (gS_b0 hI hS) hP 0 (c_yX7_finds l G ad hI σ 0 (by decide)) (by decide) (shM_0 G ad _) ⟨rfl, rfl, by decide, by decide⟩ rfl hl.1 rfl (Nat.le_of_ble_eq_true rfl) ⟨Nat.zero_le _, Nat.zero_le _⟩ dX7_talk_14) (fun H locs hP hS => ?_)
    exact g_iretM C hr hlk rfl (by rw [m_talk, if_pos c1]) hP hS dX7_talk_17

def m_odds_L86 (σ : gM) (glove : Int32) (k : Int32) (what : Int32) (n52 : Nat) (above : Int32) (blw : Int32) : Nat → Nat → Int64 → Int64 × gM
  | 0, i2, v => (v, σ)
  | n86 + 1, i2, v => if what = 0 then (m_odds_L86 σ glove k what n52 above blw n86 (i2 + 1) (v * ((above).toInt64))) else (m_odds_L86 σ glove k what n52 above blw n86 (i2 + 1) (v * ((blw).toInt64)))
def m_odds_L52 (σ : gM) (glove : Int32) (k : Int32) (what : Int32) : Nat → Int32 → Int32 → Int64 × gM
  | 0, above, blw => (0, σ)
  | n52 + 1, above, blw => if (jrem above 2) = 0 then (if blw ≤ 1 then (m_odds_L86 σ glove k what n52 above blw (nN k) 0 1) else (m_odds_L52 σ glove k what n52 (above / 2) (blw / 2))) else (m_odds_L86 σ glove k what n52 above blw (nN k) 0 1)
def m_odds (σ : gM) (glove : Int32) (k : Int32) (what : Int32) : Int64 × gM := if (m_isGlove σ glove) = 0 then ((((m_finds σ 0).1).toInt64), (m_finds σ 0).2) else (if (m_in ((k).toInt64) 0 15) = 0 then ((((m_finds σ 0).1).toInt64), (m_finds σ 0).2) else (if (m_in ((what).toInt64) 0 1) = 0 then ((((m_finds σ 0).1).toInt64), (m_finds σ 0).2) else (m_odds_L52 σ glove k what 5 (m_ones (m_its σ (nN glove) 5)) 16)))
def rm_yX7_odds : Room := { frames := 2, cells := 0, slots := 0, locals := 46 }
set_option maxHeartbeats 4000000 in
set_option maxRecDepth 100000 in
theorem c_yX7_odds (l : Launch) (G : gG) (ad : Nat → Nat) (hI : gI G.2.2.1 11 ad) (σ : gM) (glove : Int32) (k : Int32) (what : Int32) (N : Nat) (hN : N ≤ 8) (hs : σ 1 0 = nI N) : gMutL l yX7_odds cX7_odds 9 (some .long) rm_yX7_odds G [.ref (ad 0), .int glove, .int k, .int what] 11 ad (shM G ad) σ (m_odds σ glove k what) := by
  refine g_start [.ref (ad 0), .int glove, .int k, .int what] (by decide +kernel) (Nat.le_of_ble_eq_true rfl) ?_
  intro p e s m below meth c ls B Z hl
  obtain ⟨C, hr, hlk⟩ := B
  have hx := C.1
  have hb := C.2.1
  obtain ⟨hX, hP⟩ := Z
  have hS : va_S (gA 11 ad) s.heap s.heap [] := va_S.rf
  revert hP hS
  intro hP hS
  have hl : lv_has ls 9 [(0, .ref (ad 0)), (1, .int glove), (2, .int k), (3, .int what)] := hl
  refine lv_aload_n hx hb dX7_odds_0 rfl (lv_at hl 0 rfl) ?_
  refine lv_iload_n hx hb dX7_odds_1 rfl (lv_at hl 1 rfl) ?_
  refine g_rd (g_runV (As := [.int glove]) (rest := []) ky_yX7_isGlove lk_RX7_138 C hX (gS_b0 hI hS) hP 0 (c_yX7_isGlove l G ad hI σ glove) (by decide) (shM_0 G ad _) ⟨rfl, rfl, by decide, by decide⟩ rfl hl.1 rfl (Nat.le_of_ble_eq_true rfl) ⟨Nat.zero_le _, Nat.zero_le _⟩ dX7_odds_2) ?_
  refine lv_if_eq (tgt := 30) hx hb dX7_odds_5 (by decide) (fun c1 => ?_) (fun c1 => ?_)
  · refine lv_aload_n hx hb dX7_odds_30 rfl (lv_at hl 0 rfl) ?_
    refine lv_iconst (v := 0) hx hb dX7_odds_31 (by decide) ?_
    refine g_wrI0 hS (g_runV (As := [.int 0]) (rest := []) ky_yX7_finds lk_RX7_128 C hX (gS_b0 hI hS) hP 0 (c_yX7_finds l G ad hI σ 0 (by decide)) (by decide) (shM_0 G ad _) ⟨rfl, rfl, by decide, by decide⟩ rfl hl.1 rfl (Nat.le_of_ble_eq_true rfl) ⟨Nat.zero_le _, Nat.zero_le _⟩ dX7_odds_32) (fun H locs hP hS => ?_)
    refine lv_i2l (v := ((m_finds σ 0).1).toInt64) hx hb dX7_odds_35 rfl ?_
    exact g_lretM C hr hlk (by rw [m_odds, if_pos c1]) hP hS dX7_odds_36
  · obtain ⟨hg1, hg2⟩ := glv_of hN hs c1
    refine lv_iload_n hx hb dX7_odds_8 rfl (lv_at hl 2 rfl) ?_
    refine lv_i2l (v := (k).toInt64) hx hb dX7_odds_9 rfl ?_
    refine lv_lconst (v := 0) hx hb dX7_odds_10 (by decide) ?_
    refine lv_ldc2 hx hb C.2.2.2.1 (C.2.2.2.2 _ kc_RX7_46) dX7_odds_11 ?_
    refine g_rd (g_runS (As := [.long ((k).toInt64), .long 0, .long 15]) (rest := []) ky_yX7_in lk_RX7_42 C (c_yX7_in l ((k).toInt64) 0 15) ⟨rfl, rfl, by decide, by decide⟩ rfl hl.1 rfl (Nat.le_of_ble_eq_true rfl) ⟨Nat.zero_le _, Nat.zero_le _⟩ dX7_odds_14) ?_
    refine lv_if_eq (tgt := 30) hx hb dX7_odds_17 (by decide) (fun c2 => ?_) (fun c2 => ?_)
    · refine lv_aload_n hx hb dX7_odds_30 rfl (lv_at hl 0 rfl) ?_
      refine lv_iconst (v := 0) hx hb dX7_odds_31 (by decide) ?_
      refine g_wrI0 hS (g_runV (As := [.int 0]) (rest := []) ky_yX7_finds lk_RX7_128 C hX (gS_b0 hI hS) hP 0 (c_yX7_finds l G ad hI σ 0 (by decide)) (by decide) (shM_0 G ad _) ⟨rfl, rfl, by decide, by decide⟩ rfl hl.1 rfl (Nat.le_of_ble_eq_true rfl) ⟨Nat.zero_le _, Nat.zero_le _⟩ dX7_odds_32) (fun H locs hP hS => ?_)
      refine lv_i2l (v := ((m_finds σ 0).1).toInt64) hx hb dX7_odds_35 rfl ?_
      exact g_lretM C hr hlk (by rw [m_odds, if_neg c1, if_pos c2]) hP hS dX7_odds_36
    · obtain ⟨hk1, hk2⟩ := in_nat (M := 16) (by decide) (by decide) c2
      refine lv_iload_n hx hb dX7_odds_20 rfl (lv_at hl 3 rfl) ?_
      refine lv_i2l (v := (what).toInt64) hx hb dX7_odds_21 rfl ?_
      refine lv_lconst (v := 0) hx hb dX7_odds_22 (by decide) ?_
      refine lv_lconst (v := 1) hx hb dX7_odds_23 (by decide) ?_
      refine g_rd (g_runS (As := [.long ((what).toInt64), .long 0, .long 1]) (rest := []) ky_yX7_in lk_RX7_42 C (c_yX7_in l ((what).toInt64) 0 1) ⟨rfl, rfl, by decide, by decide⟩ rfl hl.1 rfl (Nat.le_of_ble_eq_true rfl) ⟨Nat.zero_le _, Nat.zero_le _⟩ dX7_odds_24) ?_
      refine lv_if_ne (tgt := 37) hx hb dX7_odds_27 (by decide) (fun c3 => ?_) (fun c3 => ?_)
      · refine lv_aload_n hx hb dX7_odds_37 rfl (lv_at hl 0 rfl) ?_
        refine lv_iload_n hx hb dX7_odds_38 rfl (lv_at hl 1 rfl) ?_
        refine lv_as (y := (nI (nN glove))) hg1 ?_
        refine lv_iconst (v := 5) hx hb dX7_odds_39 (by decide) ?_
        refine g_rd (g_runV (As := [.int (nI (nN glove)), .int 5]) (rest := []) ky_yX7_its lk_RX7_58 C hX (gS_b0 hI hS) hP 0 (c_yX7_its l G ad hI σ (nN glove) 5 (by omega) (by decide)) (by decide) (shM_0 G ad _) ⟨rfl, rfl, by decide, by decide⟩ rfl hl.1 rfl (Nat.le_of_ble_eq_true rfl) ⟨Nat.zero_le _, Nat.zero_le _⟩ dX7_odds_40) ?_
        refine g_rd (g_runS (As := [.int (m_its σ (nN glove) 5)]) (rest := []) ky_yX7_ones lk_RX7_84 C (c_yX7_ones l (m_its σ (nN glove) 5)) ⟨rfl, rfl, by decide, by decide⟩ rfl hl.1 rfl (Nat.le_of_ble_eq_true rfl) ⟨Nat.zero_le _, Nat.zero_le _⟩ dX7_odds_43) ?_
        refine lv_istore (lv' := [(4, .int (m_ones (m_its σ (nN glove) 5))), (0, .ref (ad 0)), (1, .int glove), (2, .int k), (3, .int what)]) hx hb dX7_odds_46 hl (by decide) rfl (fun ls hl => ?_)
        refine lv_bipush (v := 16) hx hb dX7_odds_48 (by decide) ?_
        refine lv_istore (lv' := [(5, .int 16), (4, .int (m_ones (m_its σ (nN glove) 5))), (0, .ref (ad 0)), (1, .int glove), (2, .int k), (3, .int what)]) hx hb dX7_odds_50 hl (by decide) rfl (fun ls hl => ?_)
        suffices loop52 : ∀ (n52 : Nat) (above : Int32) (blw : Int32) (H : Heap) (locs : List Loc) (ls : Array Slot), (∃ q, q + 1 = n52 ∧ q ≤ 4 ∧ blw = nI (2 ^ q)) → m_odds σ glove k what = (m_odds_L52 σ glove k what n52 above blw) → gP G.1 11 ad (gE (shM G ad) σ) H → va_S (gA 11 ad) s.heap H locs → lv_has ls 9 [(5, .int blw), (4, .int above), (0, .ref (ad 0)), (1, .int glove), (2, .int k), (3, .int what)] → W p l e rm_yX7_odds s m ([.ref (ad 0), .int glove, .int k, .int what] : List Value).toArray below meth c H locs 0 0 (MQ below (va_Ql (fun (x : Int64) (τ : gM) => m_odds σ glove k what = (x, τ)) (fun τ t => gP G.1 11 ad (gE (shM G ad) τ) t.heap) (gA 11 ad)) ([.ref (ad 0), .int glove, .int k, .int what] : List Value).toArray s 0 0 (gA 11 ad)) (F0 m 52 ls []) by
          exact loop52 5 (m_ones (m_its σ (nN glove) 5)) 16 _ _ _ ⟨4, rfl, by decide, by decide⟩ (by rw [m_odds, if_neg c1, if_neg c2, if_neg c3]) hP hS (lv_sub hl [0, 1, 2, 3, 4, 5] rfl)
        intro n52
        induction n52 with
        | zero =>
          intro above blw H locs ls hq hres52 hP hS hl
          obtain ⟨q, h1, -⟩ := hq
          exact absurd h1 (by omega)
        | succ n52 ih52 =>
          intro above blw H locs ls hq hres52 hP hS hl
          refine lv_iload hx hb dX7_odds_52 (lv_at hl 1 rfl) ?_
          refine lv_iconst (v := 2) hx hb dX7_odds_54 (by decide) ?_
          refine g_irem hx hb dX7_odds_55 (by decide) ?_
          refine lv_if_ne (tgt := 80) hx hb dX7_odds_56 (by decide) (fun c4 => ?_) (fun c4 => ?_)
          · refine lv_lconst (v := 1) hx hb dX7_odds_80 (by decide) ?_
            refine lv_lstore (lv' := [(6, .long 1), (5, .int blw), (4, .int above), (0, .ref (ad 0)), (1, .int glove), (2, .int k), (3, .int what)]) hx hb dX7_odds_81 hl (by decide) rfl (fun ls hl => ?_)
            refine lv_iconst (v := 0) hx hb dX7_odds_83 (by decide) ?_
            refine lv_istore (lv' := [(8, .int 0), (6, .long 1), (5, .int blw), (4, .int above), (0, .ref (ad 0)), (1, .int glove), (2, .int k), (3, .int what)]) hx hb dX7_odds_84 hl (by decide) rfl (fun ls hl => ?_)
            suffices loop86 : ∀ (n86 : Nat) (i2 : Nat) (v : Int64) (H : Heap) (locs : List Loc) (ls : Array Slot), (i2 + n86 = (nN k)) → m_odds σ glove k what = (m_odds_L86 σ glove k what n52 above blw n86 i2 v) → gP G.1 11 ad (gE (shM G ad) σ) H → va_S (gA 11 ad) s.heap H locs → lv_has ls 9 [(8, .int (nI i2)), (6, .long v), (5, .int blw), (4, .int above), (0, .ref (ad 0)), (1, .int glove), (2, .int k), (3, .int what)] → W p l e rm_yX7_odds s m ([.ref (ad 0), .int glove, .int k, .int what] : List Value).toArray below meth c H locs 0 0 (MQ below (va_Ql (fun (x : Int64) (τ : gM) => m_odds σ glove k what = (x, τ)) (fun τ t => gP G.1 11 ad (gE (shM G ad) τ) t.heap) (gA 11 ad)) ([.ref (ad 0), .int glove, .int k, .int what] : List Value).toArray s 0 0 (gA 11 ad)) (F0 m 86 ls []) by
              exact loop86 (nN k) 0 1 _ _ _ (by omega) (by rw [hres52, m_odds_L52, if_neg c4]) hP hS (lv_sub hl [0, 1, 2, 3, 4, 5, 6, 7] rfl)
            intro n86
            induction n86 with
            | zero =>
              intro i2 v H locs ls hi86 hres86 hP hS hl
              refine lv_iload hx hb dX7_odds_86 (lv_at hl 0 rfl) ?_
              refine lv_iload_n hx hb dX7_odds_88 rfl (lv_at hl 6 rfl) ?_
              refine lv_as (y := (nI (nN k))) hk1 ?_
              refine lv_icmp_ge (tgt := 116) hx hb dX7_odds_89 (by decide) (fun c5 => ?_) (fun c5 => ?_)
              · refine lv_lload hx hb dX7_odds_116 (lv_at hl 1 rfl) ?_
                exact g_lretM C hr hlk (by rw [hres86, m_odds_L86]) hP hS dX7_odds_118
              · exact absurd (show nI ((nN k)) ≤ nI i2 from nI_le (by omega) (by omega)) c5
            | succ n86 ih86 =>
              intro i2 v H locs ls hi86 hres86 hP hS hl
              refine lv_iload hx hb dX7_odds_86 (lv_at hl 0 rfl) ?_
              refine lv_iload_n hx hb dX7_odds_88 rfl (lv_at hl 6 rfl) ?_
              refine lv_as (y := (nI (nN k))) hk1 ?_
              refine lv_icmp_ge (tgt := 116) hx hb dX7_odds_89 (by decide) (fun c6 => ?_) (fun c6 => ?_)
              · exact absurd (show nI ((nN k)) ≤ nI i2 from c6) (nI_ge (by omega) (by omega))
              · refine lv_lload hx hb dX7_odds_92 (lv_at hl 1 rfl) ?_
                refine lv_iload_n hx hb dX7_odds_94 rfl (lv_at hl 7 rfl) ?_
                refine lv_if_ne (tgt := 104) hx hb dX7_odds_95 (by decide) (fun c7 => ?_) (fun c7 => ?_)
                · refine lv_iload hx hb dX7_odds_104 (lv_at hl 2 rfl) ?_
                  refine lv_i2l (v := (blw).toInt64) hx hb dX7_odds_106 rfl ?_
                  refine lv_lmul hx hb dX7_odds_107 ?_
                  refine lv_lstore (lv' := [(6, .long (v * ((blw).toInt64))), (8, .int (nI i2)), (5, .int blw), (4, .int above), (0, .ref (ad 0)), (1, .int glove), (2, .int k), (3, .int what)]) hx hb dX7_odds_108 hl (by decide) rfl (fun ls hl => ?_)
                  refine lv_iinc (v := (nI (i2 + 1))) (lv' := [(8, .int (nI (i2 + 1))), (6, .long (v * ((blw).toInt64))), (5, .int blw), (4, .int above), (0, .ref (ad 0)), (1, .int glove), (2, .int k), (3, .int what)]) hx hb dX7_odds_110 hl (k := 1) rfl (by exact nI_1 _) (by decide) rfl (fun ls hl => ?_)
                  refine lv_goto (tgt := 86) hx hb dX7_odds_113 (by decide) ?_
                  exact ih86 (i2 + 1) (v * ((blw).toInt64)) _ _ _ (by omega) (by rw [hres86, m_odds_L86, if_neg c7]) hP hS (lv_sub hl [0, 1, 2, 3, 4, 5, 6, 7] rfl)
                · refine lv_iload hx hb dX7_odds_98 (lv_at hl 3 rfl) ?_
                  refine lv_i2l (v := (above).toInt64) hx hb dX7_odds_100 rfl ?_
                  refine lv_goto (tgt := 107) hx hb dX7_odds_101 (by decide) ?_
                  refine lv_lmul hx hb dX7_odds_107 ?_
                  refine lv_lstore (lv' := [(6, .long (v * ((above).toInt64))), (8, .int (nI i2)), (5, .int blw), (4, .int above), (0, .ref (ad 0)), (1, .int glove), (2, .int k), (3, .int what)]) hx hb dX7_odds_108 hl (by decide) rfl (fun ls hl => ?_)
                  refine lv_iinc (v := (nI (i2 + 1))) (lv' := [(8, .int (nI (i2 + 1))), (6, .long (v * ((above).toInt64))), (5, .int blw), (4, .int above), (0, .ref (ad 0)), (1, .int glove), (2, .int k), (3, .int what)]) hx hb dX7_odds_110 hl (k := 1) rfl (by exact nI_1 _) (by decide) rfl (fun ls hl => ?_)
                  refine lv_goto (tgt := 86) hx hb dX7_odds_113 (by decide) ?_
                  exact ih86 (i2 + 1) (v * ((above).toInt64)) _ _ _ (by omega) (by rw [hres86, m_odds_L86, if_pos c7]) hP hS (lv_sub hl [0, 1, 2, 3, 4, 5, 6, 7] rfl)
          · refine lv_iload hx hb dX7_odds_59 (lv_at hl 0 rfl) ?_
            refine lv_iconst (v := 1) hx hb dX7_odds_61 (by decide) ?_
            refine lv_icmp_le (tgt := 80) hx hb dX7_odds_62 (by decide) (fun c8 => ?_) (fun c8 => ?_)
            · refine lv_lconst (v := 1) hx hb dX7_odds_80 (by decide) ?_
              refine lv_lstore (lv' := [(6, .long 1), (5, .int blw), (4, .int above), (0, .ref (ad 0)), (1, .int glove), (2, .int k), (3, .int what)]) hx hb dX7_odds_81 hl (by decide) rfl (fun ls hl => ?_)
              refine lv_iconst (v := 0) hx hb dX7_odds_83 (by decide) ?_
              refine lv_istore (lv' := [(8, .int 0), (6, .long 1), (5, .int blw), (4, .int above), (0, .ref (ad 0)), (1, .int glove), (2, .int k), (3, .int what)]) hx hb dX7_odds_84 hl (by decide) rfl (fun ls hl => ?_)
              suffices loop86 : ∀ (n86 : Nat) (i2 : Nat) (v : Int64) (H : Heap) (locs : List Loc) (ls : Array Slot), (i2 + n86 = (nN k)) → m_odds σ glove k what = (m_odds_L86 σ glove k what n52 above blw n86 i2 v) → gP G.1 11 ad (gE (shM G ad) σ) H → va_S (gA 11 ad) s.heap H locs → lv_has ls 9 [(8, .int (nI i2)), (6, .long v), (5, .int blw), (4, .int above), (0, .ref (ad 0)), (1, .int glove), (2, .int k), (3, .int what)] → W p l e rm_yX7_odds s m ([.ref (ad 0), .int glove, .int k, .int what] : List Value).toArray below meth c H locs 0 0 (MQ below (va_Ql (fun (x : Int64) (τ : gM) => m_odds σ glove k what = (x, τ)) (fun τ t => gP G.1 11 ad (gE (shM G ad) τ) t.heap) (gA 11 ad)) ([.ref (ad 0), .int glove, .int k, .int what] : List Value).toArray s 0 0 (gA 11 ad)) (F0 m 86 ls []) by
                exact loop86 (nN k) 0 1 _ _ _ (by omega) (by rw [hres52, m_odds_L52, if_pos c4, if_pos c8]) hP hS (lv_sub hl [0, 1, 2, 3, 4, 5, 6, 7] rfl)
              intro n86
              induction n86 with
              | zero =>
                intro i2 v H locs ls hi86 hres86 hP hS hl
                refine lv_iload hx hb dX7_odds_86 (lv_at hl 0 rfl) ?_
                refine lv_iload_n hx hb dX7_odds_88 rfl (lv_at hl 6 rfl) ?_
                refine lv_as (y := (nI (nN k))) hk1 ?_
                refine lv_icmp_ge (tgt := 116) hx hb dX7_odds_89 (by decide) (fun c9 => ?_) (fun c9 => ?_)
                · refine lv_lload hx hb dX7_odds_116 (lv_at hl 1 rfl) ?_
                  exact g_lretM C hr hlk (by rw [hres86, m_odds_L86]) hP hS dX7_odds_118
                · exact absurd (show nI ((nN k)) ≤ nI i2 from nI_le (by omega) (by omega)) c9
              | succ n86 ih86 =>
                intro i2 v H locs ls hi86 hres86 hP hS hl
                refine lv_iload hx hb dX7_odds_86 (lv_at hl 0 rfl) ?_
                refine lv_iload_n hx hb dX7_odds_88 rfl (lv_at hl 6 rfl) ?_
                refine lv_as (y := (nI (nN k))) hk1 ?_
                refine lv_icmp_ge (tgt := 116) hx hb dX7_odds_89 (by decide) (fun c10 => ?_) (fun c10 => ?_)
                · exact absurd (show nI ((nN k)) ≤ nI i2 from c10) (nI_ge (by omega) (by omega))
                · refine lv_lload hx hb dX7_odds_92 (lv_at hl 1 rfl) ?_
                  refine lv_iload_n hx hb dX7_odds_94 rfl (lv_at hl 7 rfl) ?_
                  refine lv_if_ne (tgt := 104) hx hb dX7_odds_95 (by decide) (fun c11 => ?_) (fun c11 => ?_)
                  · refine lv_iload hx hb dX7_odds_104 (lv_at hl 2 rfl) ?_
                    refine lv_i2l (v := (blw).toInt64) hx hb dX7_odds_106 rfl ?_
                    refine lv_lmul hx hb dX7_odds_107 ?_
                    refine lv_lstore (lv' := [(6, .long (v * ((blw).toInt64))), (8, .int (nI i2)), (5, .int blw), (4, .int above), (0, .ref (ad 0)), (1, .int glove), (2, .int k), (3, .int what)]) hx hb dX7_odds_108 hl (by decide) rfl (fun ls hl => ?_)
                    refine lv_iinc (v := (nI (i2 + 1))) (lv' := [(8, .int (nI (i2 + 1))), (6, .long (v * ((blw).toInt64))), (5, .int blw), (4, .int above), (0, .ref (ad 0)), (1, .int glove), (2, .int k), (3, .int what)]) hx hb dX7_odds_110 hl (k := 1) rfl (by exact nI_1 _) (by decide) rfl (fun ls hl => ?_)
                    refine lv_goto (tgt := 86) hx hb dX7_odds_113 (by decide) ?_
                    exact ih86 (i2 + 1) (v * ((blw).toInt64)) _ _ _ (by omega) (by rw [hres86, m_odds_L86, if_neg c11]) hP hS (lv_sub hl [0, 1, 2, 3, 4, 5, 6, 7] rfl)
                  · refine lv_iload hx hb dX7_odds_98 (lv_at hl 3 rfl) ?_
                    refine lv_i2l (v := (above).toInt64) hx hb dX7_odds_100 rfl ?_
                    refine lv_goto (tgt := 107) hx hb dX7_odds_101 (by decide) ?_
                    refine lv_lmul hx hb dX7_odds_107 ?_
                    refine lv_lstore (lv' := [(6, .long (v * ((above).toInt64))), (8, .int (nI i2)), (5, .int blw), (4, .int above), (0, .ref (ad 0)), (1, .int glove), (2, .int k), (3, .int what)]) hx hb dX7_odds_108 hl (by decide) rfl (fun ls hl => ?_)
                    refine lv_iinc (v := (nI (i2 + 1))) (lv' := [(8, .int (nI (i2 + 1))), (6, .long (v * ((above).toInt64))), (5, .int blw), (4, .int above), (0, .ref (ad 0)), (1, .int glove), (2, .int k), (3, .int what)]) hx hb dX7_odds_110 hl (k := 1) rfl (by exact nI_1 _) (by decide) rfl (fun ls hl => ?_)
                    refine lv_goto (tgt := 86) hx hb dX7_odds_113 (by decide) ?_
                    exact ih86 (i2 + 1) (v * ((above).toInt64)) _ _ _ (by omega) (by rw [hres86, m_odds_L86, if_pos c11]) hP hS (lv_sub hl [0, 1, 2, 3, 4, 5, 6, 7] rfl)
            · refine lv_iload hx hb dX7_odds_65 (lv_at hl 1 rfl) ?_
              refine lv_iconst (v := 2) hx hb dX7_odds_67 (by decide) ?_
              refine lv_idiv hx hb dX7_odds_68 (by decide) ?_
              refine lv_istore (lv' := [(4, .int (above / 2)), (5, .int blw), (0, .ref (ad 0)), (1, .int glove), (2, .int k), (3, .int what)]) hx hb dX7_odds_69 hl (by decide) rfl (fun ls hl => ?_)
              refine lv_iload hx hb dX7_odds_71 (lv_at hl 1 rfl) ?_
              refine lv_iconst (v := 2) hx hb dX7_odds_73 (by decide) ?_
              refine lv_idiv hx hb dX7_odds_74 (by decide) ?_
              refine lv_istore (lv' := [(5, .int (blw / 2)), (4, .int (above / 2)), (0, .ref (ad 0)), (1, .int glove), (2, .int k), (3, .int what)]) hx hb dX7_odds_75 hl (by decide) rfl (fun ls hl => ?_)
              refine lv_goto (tgt := 52) hx hb dX7_odds_77 (by decide) ?_
              exact ih52 (above / 2) (blw / 2) _ _ _ (odds_q hq (by assumption)) (by rw [hres52, m_odds_L52, if_pos c4, if_neg c8]) hP hS (lv_sub hl [0, 1, 2, 3, 4, 5] rfl)
      · refine lv_aload_n hx hb dX7_odds_30 rfl (lv_at hl 0 rfl) ?_
        refine lv_iconst (v := 0) hx hb dX7_odds_31 (by decide) ?_
        refine g_wrI0 hS (g_runV (As := [.int 0]) (rest := []) ky_yX7_finds lk_RX7_128 C hX (gS_b0 hI hS) hP 0 (c_yX7_finds l G ad hI σ 0 (by decide)) (by decide) (shM_0 G ad _) ⟨rfl, rfl, by decide, by decide⟩ rfl hl.1 rfl (Nat.le_of_ble_eq_true rfl) ⟨Nat.zero_le _, Nat.zero_le _⟩ dX7_odds_32) (fun H locs hP hS => ?_)
        refine lv_i2l (v := ((m_finds σ 0).1).toInt64) hx hb dX7_odds_35 rfl ?_
        exact g_lretM C hr hlk (by rw [m_odds, if_neg c1, if_neg c2, if_pos c3]) hP hS dX7_odds_36

def m_seed (σ : gM) (v : Int32) : Int32 × gM := ((m_becomes σ 2 v).1, (m_becomes σ 2 v).2)
def rm_yX7_seed : Room := { frames := 1, cells := 0, slots := 0, locals := 23 }
set_option maxHeartbeats 4000000 in
set_option maxRecDepth 100000 in
theorem c_yX7_seed (l : Launch) (G : gG) (ad : Nat → Nat) (hI : gI G.2.2.1 11 ad) (σ : gM) (v : Int32) : gMutI l yX7_seed cX7_seed 2 (some .int) rm_yX7_seed G [.ref (ad 0), .int v] 11 ad (shM G ad) σ (m_seed σ v) := by
  refine g_start [.ref (ad 0), .int v] (by decide +kernel) (Nat.le_of_ble_eq_true rfl) ?_
  intro p e s m below meth c ls B Z hl
  obtain ⟨C, hr, hlk⟩ := B
  have hx := C.1
  have hb := C.2.1
  obtain ⟨hX, hP⟩ := Z
  have hS : va_S (gA 11 ad) s.heap s.heap [] := va_S.rf
  revert hP hS
  intro hP hS
  have hl : lv_has ls 2 [(0, .ref (ad 0)), (1, .int v)] := hl
  refine lv_aload_n hx hb dX7_seed_0 rfl (lv_at hl 0 rfl) ?_
  refine lv_iconst (v := 2) hx hb dX7_seed_1 (by decide) ?_
  refine lv_iload_n hx hb dX7_seed_2 rfl (lv_at hl 1 rfl) ?_
  refine g_wrI0 hS (g_runV (As := [.int 2, .int v]) (rest := []) ky_yX7_becomes lk_RX7_125 C hX (gS_b0 hI hS) hP 0 (c_yX7_becomes l G ad hI σ 2 v (by decide)) (by decide) (shM_0 G ad _) ⟨rfl, rfl, by decide, by decide⟩ rfl hl.1 rfl (Nat.le_of_ble_eq_true rfl) ⟨Nat.zero_le _, Nat.zero_le _⟩ dX7_seed_3) (fun H locs hP hS => ?_)
  exact g_iretM C hr hlk rfl (by rw [m_seed]) hP hS dX7_seed_6
