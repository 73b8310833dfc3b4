theorem in_sz {x y : Int32} {Z : Nat} (hy : y = nI Z) (hZ : Z ≤ 40) (h : ¬ m_in x.toInt64 0 (y - 1).toInt64 = 0) : x = nI (nN x) ∧ nN x < Z := by
  refine in_nat ?_ (by omega) h
  rw [Int32.toInt_toInt64, hy, show (1 : Int32) = nI 1 from rfl, pk_sub_toInt (by omega) (by decide)]
  omega
theorem ix_40' {sn k : Int32} (hh : sn = nI (nN sn)) (hk : k = nI (nN k)) : ((40 : Int32) * sn) + k = nI (40 * nN sn + nN k) := by
  have := ix_40 (nN sn) (nN k)
  rw [← hh, ← hk] at this
  exact this
theorem ix_403 {sn k : Int32} (i : Nat) (hh : sn = nI (nN sn)) (hk : k = nI (nN k)) : (((40 : Int32) * sn) + k) + nI i = nI (40 * nN sn + nN k + i) := by
  rw [ix_40' hh hk, nI_add]
theorem cp_fact {x n y : Int32} {Z : Nat} (hx : ¬ x < 0) (hn : ¬ n < 0) (hy : y = nI Z) (hZ : Z ≤ 40) (h : ¬ 0 < lg_cmp (x.toInt64 + n.toInt64) y.toInt64) : x = nI (nN x) ∧ n = nI (nN n) ∧ nN x + nN n ≤ Z := by
  obtain ⟨a, ha, rfl⟩ := nI_of hx
  obtain ⟨b, hb, rfl⟩ := nI_of hn
  rw [nN_nI ha, nN_nI hb]
  refine ⟨rfl, rfl, Nat.not_lt.mp (fun q => h ((lg_cmp_gt _ _).mpr ?_))⟩
  rw [hy, nI_l ha, nI_l hb, nI_l (by omega), lN_add]
  exact (pk_lLT (by omega) (by omega)).mpr q
theorem in_m1 {x : Int32} (h : ¬ m_in x.toInt64 (-1) 6 = 0) (h0 : 0 ≤ x) : x = nI (nN x) ∧ nN x < 7 := by
  obtain ⟨h1, h2⟩ := (in_int _ _ _).mp h
  refine in_nat (high := 6) (by decide) (by decide) ((in_int _ _ _).mpr ⟨?_, h2⟩)
  have := Int32.le_iff_toInt_le.mp h0
  have a : (0 : Int32).toInt = 0 := rfl
  have b : (0 : Int64).toInt = 0 := rfl
  omega

def m_write (σ : gM) (sn : Int32) (i : Int32) (v : Int32) : Int32 × gM := if 0 ≤ (m_whyNone σ sn) then ((m_finds σ (nN (m_whyNone σ sn))).1, (m_finds σ (nN (m_whyNone σ sn))).2) else (if (m_in ((i).toInt64) 0 ((((σ 8 (nN sn)) - 1)).toInt64)) = 0 then ((m_finds σ 0).1, (m_finds σ 0).2) else (if (σ 7 (nN sn)) = 8 then (1, (mset σ 9 (40 * nN sn + nN i) ((v).toInt8.toInt32))) else (if (σ 7 (nN sn)) = 16 then (1, (mset σ 9 (40 * nN sn + nN i) ((v).toInt16.toInt32))) else (1, (mset σ 9 (40 * nN sn + nN i) v)))))
def rm_yX7_write : Room := { frames := 3, cells := 0, slots := 0, locals := 66 }
set_option maxHeartbeats 4000000 in
set_option maxRecDepth 100000 in
theorem c_yX7_write (l : Launch) (G : gG) (ad : Nat → Nat) (hI : gI G.2.2.1 11 ad) (σ : gM) (sn : Int32) (i : Int32) (v : Int32) (hsz : ∀ j, j < 4 → ∃ Z, Z ≤ 40 ∧ σ 8 j = nI Z) : gMutI l yX7_write cX7_write 5 (some .int) rm_yX7_write G [.ref (ad 0), .int sn, .int i, .int v] 11 ad (shM G ad) σ (m_write σ sn i v) := by
  refine g_start [.ref (ad 0), .int sn, .int i, .int v] (by decide +kernel) (Nat.le_of_ble_eq_true rfl) ?_
  intro p e s m below meth c ls B Z hl
  obtain ⟨C, hr, hlk⟩ := B
  have hx := C.1
  have hb := C.2.1
  obtain ⟨hX, hP⟩ := Z
  have hS : va_S (gA 11 ad) s.heap s.heap [] := va_S.rf
  revert hP hS
  intro hP hS
  have hl : lv_has ls 5 [(0, .ref (ad 0)), (1, .int sn), (2, .int i), (3, .int v)] := hl
  refine lv_aload_n hx hb dX7_write_0 rfl (lv_at hl 0 rfl) ?_
  refine lv_iload_n hx hb dX7_write_1 rfl (lv_at hl 1 rfl) ?_
  refine g_rd (g_runV (As := [.int sn]) (rest := []) ky_yX7_whyNone lk_RX7_190 C hX (gS_b0 hI hS) hP 0 (c_yX7_whyNone l G ad hI σ sn) (by decide) (shM_0 G ad _) ⟨rfl, rfl, by decide, by decide⟩ rfl hl.1 rfl (Nat.le_of_ble_eq_true rfl) ⟨Nat.zero_le _, Nat.zero_le _⟩ dX7_write_2) ?_
  refine lv_istore (lv' := [(4, .int (m_whyNone σ sn)), (0, .ref (ad 0)), (1, .int sn), (2, .int i), (3, .int v)]) hx hb dX7_write_5 hl (by decide) rfl (fun ls hl => ?_)
  refine lv_iload hx hb dX7_write_7 (lv_at hl 0 rfl) ?_
  refine lv_if_ge (tgt := 34) hx hb dX7_write_9 (by decide) (fun c1 => ?_) (fun c1 => ?_)
  · have hge := c1
    refine lv_iload hx hb dX7_write_34 (lv_at hl 0 rfl) ?_
    refine lv_istore (lv' := [(4, .int (m_whyNone σ sn)), (0, .ref (ad 0)), (1, .int sn), (2, .int i), (3, .int v)]) hx hb dX7_write_36 hl (by decide) rfl (fun ls hl => ?_)
    refine lv_iload hx hb dX7_write_38 (lv_at hl 0 rfl) ?_
    refine lv_if_lt (tgt := 50) hx hb dX7_write_40 (by decide) (fun c2 => ?_) (fun c2 => ?_)
    · exact absurd c2 (Int32.not_lt.mpr hge)
    · obtain ⟨hy1, hy2⟩ := why_nat c2
      refine lv_aload_n hx hb dX7_write_43 rfl (lv_at hl 1 rfl) ?_
      refine lv_iload hx hb dX7_write_44 (lv_at hl 0 rfl) ?_
      refine lv_as (y := (nI (nN (m_whyNone σ sn)))) hy1 ?_
      refine g_wrI0 hS (g_runV (As := [.int (nI (nN (m_whyNone σ sn)))]) (rest := []) ky_yX7_finds lk_RX7_128 C hX (gS_b0 hI hS) hP 0 (c_yX7_finds l G ad hI σ (nN (m_whyNone σ sn)) hy2) (by decide) (shM_0 G ad _) ⟨rfl, rfl, by decide, by decide⟩ rfl hl.1 rfl (Nat.le_of_ble_eq_true rfl) ⟨Nat.zero_le _, Nat.zero_le _⟩ dX7_write_46) (fun H locs hP hS => ?_)
      exact g_iretM C hr hlk rfl (by rw [m_write, if_pos c1]) hP hS dX7_write_49
  · have hneg := Int32.not_le.mp c1
    obtain ⟨hh1, hh2, hh3⟩ := why_ok hneg
    obtain ⟨Z, hZ, hz⟩ := hsz _ hh2
    refine lv_iload_n hx hb dX7_write_12 rfl (lv_at hl 3 rfl) ?_
    refine lv_i2l (v := (i).toInt64) hx hb dX7_write_13 rfl ?_
    refine lv_lconst (v := 0) hx hb dX7_write_14 (by decide) ?_
    refine lv_aload_n hx hb dX7_write_15 rfl (lv_at hl 1 rfl) ?_
    refine g_get fd_RX7_32 C hX hP 0 (by decide) (shM_0 G ad _) (v := .ref (ad 8)) rfl dX7_write_16 ?_
    refine lv_iload_n hx hb dX7_write_19 rfl (lv_at hl 2 rfl) ?_
    refine lv_as (y := (nI (nN sn))) hh1 ?_
    refine g_iald C hX hP 8 (by decide) (shM_8 G ad _) (nN sn) (by omega) (by decide) dX7_write_20 ?_
    refine lv_iconst (v := 1) hx hb dX7_write_21 (by decide) ?_
    refine lv_isub hx hb dX7_write_22 ?_
    refine lv_i2l (v := (((σ 8 (nN sn)) - 1)).toInt64) hx hb dX7_write_23 rfl ?_
    refine g_rd (g_runS (As := [.long ((i).toInt64), .long 0, .long ((((σ 8 (nN sn)) - 1)).toInt64)]) (rest := []) ky_yX7_in lk_RX7_42 C (c_yX7_in l ((i).toInt64) 0 ((((σ 8 (nN sn)) - 1)).toInt64)) ⟨rfl, rfl, by decide, by decide⟩ rfl hl.1 rfl (Nat.le_of_ble_eq_true rfl) ⟨Nat.zero_le _, Nat.zero_le _⟩ dX7_write_24) ?_
    refine lv_if_ne (tgt := 34) hx hb dX7_write_27 (by decide) (fun c3 => ?_) (fun c3 => ?_)
    · obtain ⟨hi1, hi2⟩ := in_sz hz hZ c3
      refine lv_iload hx hb dX7_write_34 (lv_at hl 0 rfl) ?_
      refine lv_istore (lv' := [(4, .int (m_whyNone σ sn)), (0, .ref (ad 0)), (1, .int sn), (2, .int i), (3, .int v)]) hx hb dX7_write_36 hl (by decide) rfl (fun ls hl => ?_)
      refine lv_iload hx hb dX7_write_38 (lv_at hl 0 rfl) ?_
      refine lv_if_lt (tgt := 50) hx hb dX7_write_40 (by decide) (fun c4 => ?_) (fun c4 => ?_)
      · refine lv_aload_n hx hb dX7_write_50 rfl (lv_at hl 1 rfl) ?_
        refine g_get fd_RX7_35 C hX hP 0 (by decide) (shM_0 G ad _) (v := .ref (ad 9)) rfl dX7_write_51 ?_
        refine lv_bipush (v := 40) hx hb dX7_write_54 (by decide) ?_
        refine lv_iload_n hx hb dX7_write_56 rfl (lv_at hl 2 rfl) ?_
        refine lv_imul hx hb dX7_write_57 ?_
        refine lv_iload_n hx hb dX7_write_58 rfl (lv_at hl 3 rfl) ?_
        refine lv_iadd hx hb dX7_write_59 ?_
        refine lv_as (y := (nI (40 * nN sn + nN i))) (ix_40' hh1 hi1) ?_
        refine lv_aload_n hx hb dX7_write_60 rfl (lv_at hl 1 rfl) ?_
        refine g_get fd_RX7_29 C hX hP 0 (by decide) (shM_0 G ad _) (v := .ref (ad 7)) rfl dX7_write_61 ?_
        refine lv_iload_n hx hb dX7_write_64 rfl (lv_at hl 2 rfl) ?_
        refine lv_as (y := (nI (nN sn))) hh1 ?_
        refine g_iald C hX hP 7 (by decide) (shM_7 G ad _) (nN sn) (by omega) (by decide) dX7_write_65 ?_
        refine lv_bipush (v := 8) hx hb dX7_write_66 (by decide) ?_
        refine lv_icmp_ne (tgt := 76) hx hb dX7_write_68 (by decide) (fun c5 => ?_) (fun c5 => ?_)
        · refine lv_aload_n hx hb dX7_write_76 rfl (lv_at hl 1 rfl) ?_
          refine g_get fd_RX7_29 C hX hP 0 (by decide) (shM_0 G ad _) (v := .ref (ad 7)) rfl dX7_write_77 ?_
          refine lv_iload_n hx hb dX7_write_80 rfl (lv_at hl 2 rfl) ?_
          refine lv_as (y := (nI (nN sn))) hh1 ?_
          refine g_iald C hX hP 7 (by decide) (shM_7 G ad _) (nN sn) (by omega) (by decide) dX7_write_81 ?_
          refine lv_bipush (v := 16) hx hb dX7_write_82 (by decide) ?_
          refine lv_icmp_ne (tgt := 92) hx hb dX7_write_84 (by decide) (fun c6 => ?_) (fun c6 => ?_)
          · refine lv_iload_n hx hb dX7_write_92 rfl (lv_at hl 4 rfl) ?_
            refine g_iast C hX hI hP hS 9 (by decide) (shM_9 G ad _) (40 * nN sn + nN i) (by omega) (by decide) (upd (σ 9) (40 * nN sn + nN i) v) rfl dX7_write_93 (fun H locs hP hS => ?_)
            have hP : gP G.1 11 ad (gE (shM G ad) (mset σ 9 (40 * nN sn + nN i) v)) H := hP
            refine lv_iconst (v := 1) hx hb dX7_write_94 (by decide) ?_
            exact g_iretM C hr hlk rfl (by rw [m_write, if_neg c1, if_neg c3, if_neg c5, if_neg c6]) hP hS dX7_write_95
          · refine lv_iload_n hx hb dX7_write_87 rfl (lv_at hl 4 rfl) ?_
            refine lv_i2s (v := (v).toInt16.toInt32) hx hb dX7_write_88 rfl ?_
            refine lv_goto (tgt := 93) hx hb dX7_write_89 (by decide) ?_
            refine g_iast C hX hI hP hS 9 (by decide) (shM_9 G ad _) (40 * nN sn + nN i) (by omega) (by decide) (upd (σ 9) (40 * nN sn + nN i) ((v).toInt16.toInt32)) rfl dX7_write_93 (fun H locs hP hS => ?_)
            have hP : gP G.1 11 ad (gE (shM G ad) (mset σ 9 (40 * nN sn + nN i) ((v).toInt16.toInt32))) H := hP
            refine lv_iconst (v := 1) hx hb dX7_write_94 (by decide) ?_
            exact g_iretM C hr hlk rfl (by rw [m_write, if_neg c1, if_neg c3, if_neg c5, if_pos c6]) hP hS dX7_write_95
        · refine lv_iload_n hx hb dX7_write_71 rfl (lv_at hl 4 rfl) ?_
          refine lv_i2b (v := (v).toInt8.toInt32) hx hb dX7_write_72 rfl ?_
          refine lv_goto (tgt := 93) hx hb dX7_write_73 (by decide) ?_
          refine g_iast C hX hI hP hS 9 (by decide) (shM_9 G ad _) (40 * nN sn + nN i) (by omega) (by decide) (upd (σ 9) (40 * nN sn + nN i) ((v).toInt8.toInt32)) rfl dX7_write_93 (fun H locs hP hS => ?_)
          have hP : gP G.1 11 ad (gE (shM G ad) (mset σ 9 (40 * nN sn + nN i) ((v).toInt8.toInt32))) H := hP
          refine lv_iconst (v := 1) hx hb dX7_write_94 (by decide) ?_
          exact g_iretM C hr hlk rfl (by rw [m_write, if_neg c1, if_neg c3, if_pos c5]) hP hS dX7_write_95
      · exact absurd hneg c4
    · refine lv_iconst (v := 0) hx hb dX7_write_30 (by decide) ?_
      refine lv_goto (tgt := 36) hx hb dX7_write_31 (by decide) ?_
      refine lv_istore (lv' := [(4, .int 0), (0, .ref (ad 0)), (1, .int sn), (2, .int i), (3, .int v)]) hx hb dX7_write_36 hl (by decide) rfl (fun ls hl => ?_)
      refine lv_iload hx hb dX7_write_38 (lv_at hl 0 rfl) ?_
      refine lv_if_lt (tgt := 50) hx hb dX7_write_40 (by decide) (fun c7 => ?_) (fun c7 => ?_)
      · exact absurd c7 (by decide)
      · refine lv_aload_n hx hb dX7_write_43 rfl (lv_at hl 1 rfl) ?_
        refine lv_iload hx hb dX7_write_44 (lv_at hl 0 rfl) ?_
        refine g_wrI0 hS (g_runV (As := [.int 0]) (rest := []) ky_yX7_finds lk_RX7_128 C hX (gS_b0 hI hS) hP 0 (c_yX7_finds l G ad hI σ 0 (by decide)) (by decide) (shM_0 G ad _) ⟨rfl, rfl, by decide, by decide⟩ rfl hl.1 rfl (Nat.le_of_ble_eq_true rfl) ⟨Nat.zero_le _, Nat.zero_le _⟩ dX7_write_46) (fun H locs hP hS => ?_)
        exact g_iretM C hr hlk rfl (by rw [m_write, if_neg c1, if_pos c3]) hP hS dX7_write_49

def m_copy_L160 (σ : gM) (sn : Int32) (frm : Int32) (tn : Int32) (to : Int32) (cnt : Int32) (i : Nat) (τ : gM) : Nat → Nat → gM → Int32 × gM
  | 0, i2, τ2 => (cnt, τ2)
  | n160 + 1, i2, τ2 => (m_copy_L160 σ sn frm tn to cnt i τ n160 (i2 + 1) ((mset τ2 9 (40 * nN tn + nN to + i2) (τ2 10 i2))))
def m_copy_L123 (σ : gM) (sn : Int32) (frm : Int32) (tn : Int32) (to : Int32) (cnt : Int32) : Nat → Nat → gM → Int32 × gM
  | 0, i, τ => (m_copy_L160 σ sn frm tn to cnt i τ (nN cnt) 0 τ)
  | n123 + 1, i, τ => (m_copy_L123 σ sn frm tn to cnt n123 (i + 1) (mset τ 10 i (τ 9 (40 * nN sn + nN frm + i))))
def m_copy (σ : gM) (sn : Int32) (frm : Int32) (tn : Int32) (to : Int32) (cnt : Int32) : Int32 × gM := if (m_isSheet sn) = 0 then ((m_finds σ 0).1, (m_finds σ 0).2) else (if (m_isSheet tn) = 0 then ((m_finds σ 0).1, (m_finds σ 0).2) else (if (σ 7 (nN sn)) = 0 then ((m_finds σ 5).1, (m_finds σ 5).2) else (if (σ 7 (nN tn)) = 0 then ((m_finds σ 5).1, (m_finds σ 5).2) else (if (σ 7 (nN sn)) = (σ 7 (nN tn)) then (if frm < 0 then ((m_finds σ 0).1, (m_finds σ 0).2) else (if to < 0 then ((m_finds σ 0).1, (m_finds σ 0).2) else (if cnt < 0 then ((m_finds σ 0).1, (m_finds σ 0).2) else (if 0 < (lg_cmp (((frm).toInt64) + ((cnt).toInt64)) (((σ 8 (nN sn))).toInt64)) then ((m_finds σ 0).1, (m_finds σ 0).2) else (if (lg_cmp (((to).toInt64) + ((cnt).toInt64)) (((σ 8 (nN tn))).toInt64)) ≤ 0 then (m_copy_L123 σ sn frm tn to cnt (nN cnt) 0 σ) else ((m_finds σ 0).1, (m_finds σ 0).2)))))) else ((m_finds σ 2).1, (m_finds σ 2).2)))))
def rm_yX7_copy : Room := { frames := 2, cells := 0, slots := 0, locals := 45 }
set_option maxHeartbeats 4000000 in
set_option maxRecDepth 100000 in
theorem c_yX7_copy (l : Launch) (G : gG) (ad : Nat → Nat) (hI : gI G.2.2.1 11 ad) (σ : gM) (sn : Int32) (frm : Int32) (tn : Int32) (to : Int32) (cnt : Int32) (hsz : ∀ j, j < 4 → ∃ Z, Z ≤ 40 ∧ σ 8 j = nI Z) : gMutI l yX7_copy cX7_copy 7 (some .int) rm_yX7_copy G [.ref (ad 0), .int sn, .int frm, .int tn, .int to, .int cnt] 11 ad (shM G ad) σ (m_copy σ sn frm tn to cnt) := by
  refine g_start [.ref (ad 0), .int sn, .int frm, .int tn, .int to, .int cnt] (by decide +kernel) (Nat.le_of_ble_eq_true rfl) ?_
  intro p e s m below meth c ls B Z hl
  obtain ⟨C, hr, hlk⟩ := B
  have hx := C.1
  have hb := C.2.1
  obtain ⟨hX, hP⟩ := Z
  have hS : va_S (gA 11 ad) s.heap s.heap [] := va_S.rf
  revert hP hS
  intro hP hS
  have hl : lv_has ls 7 [(0, .ref (ad 0)), (1, .int sn), (2, .int frm), (3, .int tn), (4, .int to), (5, .int cnt)] := hl
  refine lv_iload_n hx hb dX7_copy_0 rfl (lv_at hl 1 rfl) ?_
  refine g_rd (g_runS (As := [.int sn]) (rest := []) ky_yX7_isSheet lk_RX7_309 C (c_yX7_isSheet l sn) ⟨rfl, rfl, by decide, by decide⟩ rfl hl.1 rfl (Nat.le_of_ble_eq_true rfl) ⟨Nat.zero_le _, Nat.zero_le _⟩ dX7_copy_1) ?_
  refine lv_if_eq (tgt := 14) hx hb dX7_copy_4 (by decide) (fun c1 => ?_) (fun c1 => ?_)
  · refine lv_aload_n hx hb dX7_copy_14 rfl (lv_at hl 0 rfl) ?_
    refine lv_iconst (v := 0) hx hb dX7_copy_15 (by decide) ?_
    refine g_wrI0 hS (g_runV (As := [.int 0]) (rest := []) ky_yX7_finds lk_RX7_128 C hX (gS_b0 hI hS) hP 0 (c_yX7_finds l G ad hI σ 0 (by decide)) (by decide) (shM_0 G ad _) ⟨rfl, rfl, by decide, by decide⟩ rfl hl.1 rfl (Nat.le_of_ble_eq_true rfl) ⟨Nat.zero_le _, Nat.zero_le _⟩ dX7_copy_16) (fun H locs hP hS => ?_)
    exact g_iretM C hr hlk rfl (by rw [m_copy, if_pos c1]) hP hS dX7_copy_19
  · obtain ⟨hh1, hh2⟩ := in_nat (M := 4) (by decide) (by decide) c1
    refine lv_iload_n hx hb dX7_copy_7 rfl (lv_at hl 3 rfl) ?_
    refine g_rd (g_runS (As := [.int tn]) (rest := []) ky_yX7_isSheet lk_RX7_309 C (c_yX7_isSheet l tn) ⟨rfl, rfl, by decide, by decide⟩ rfl hl.1 rfl (Nat.le_of_ble_eq_true rfl) ⟨Nat.zero_le _, Nat.zero_le _⟩ dX7_copy_8) ?_
    refine lv_if_ne (tgt := 20) hx hb dX7_copy_11 (by decide) (fun c2 => ?_) (fun c2 => ?_)
    · obtain ⟨hj1, hj2⟩ := in_nat (M := 4) (by decide) (by decide) c2
      refine lv_aload_n hx hb dX7_copy_20 rfl (lv_at hl 0 rfl) ?_
      refine g_get fd_RX7_29 C hX hP 0 (by decide) (shM_0 G ad _) (v := .ref (ad 7)) rfl dX7_copy_21 ?_
      refine lv_iload_n hx hb dX7_copy_24 rfl (lv_at hl 1 rfl) ?_
      refine lv_as (y := (nI (nN sn))) hh1 ?_
      refine g_iald C hX hP 7 (by decide) (shM_7 G ad _) (nN sn) (by omega) (by decide) dX7_copy_25 ?_
      refine lv_if_eq (tgt := 38) hx hb dX7_copy_26 (by decide) (fun c3 => ?_) (fun c3 => ?_)
      · refine lv_aload_n hx hb dX7_copy_38 rfl (lv_at hl 0 rfl) ?_
        refine lv_iconst (v := 5) hx hb dX7_copy_39 (by decide) ?_
        refine g_wrI0 hS (g_runV (As := [.int 5]) (rest := []) ky_yX7_finds lk_RX7_128 C hX (gS_b0 hI hS) hP 0 (c_yX7_finds l G ad hI σ 5 (by decide)) (by decide) (shM_0 G ad _) ⟨rfl, rfl, by decide, by decide⟩ rfl hl.1 rfl (Nat.le_of_ble_eq_true rfl) ⟨Nat.zero_le _, Nat.zero_le _⟩ dX7_copy_40) (fun H locs hP hS => ?_)
        exact g_iretM C hr hlk rfl (by rw [m_copy, if_neg c1, if_neg c2, if_pos c3]) hP hS dX7_copy_43
      · refine lv_aload_n hx hb dX7_copy_29 rfl (lv_at hl 0 rfl) ?_
        refine g_get fd_RX7_29 C hX hP 0 (by decide) (shM_0 G ad _) (v := .ref (ad 7)) rfl dX7_copy_30 ?_
        refine lv_iload_n hx hb dX7_copy_33 rfl (lv_at hl 3 rfl) ?_
        refine lv_as (y := (nI (nN tn))) hj1 ?_
        refine g_iald C hX hP 7 (by decide) (shM_7 G ad _) (nN tn) (by omega) (by decide) dX7_copy_34 ?_
        refine lv_if_ne (tgt := 44) hx hb dX7_copy_35 (by decide) (fun c4 => ?_) (fun c4 => ?_)
        · refine lv_aload_n hx hb dX7_copy_44 rfl (lv_at hl 0 rfl) ?_
          refine g_get fd_RX7_29 C hX hP 0 (by decide) (shM_0 G ad _) (v := .ref (ad 7)) rfl dX7_copy_45 ?_
          refine lv_iload_n hx hb dX7_copy_48 rfl (lv_at hl 1 rfl) ?_
          refine lv_as (y := (nI (nN sn))) hh1 ?_
          refine g_iald C hX hP 7 (by decide) (shM_7 G ad _) (nN sn) (by omega) (by decide) dX7_copy_49 ?_
          refine lv_aload_n hx hb dX7_copy_50 rfl (lv_at hl 0 rfl) ?_
          refine g_get fd_RX7_29 C hX hP 0 (by decide) (shM_0 G ad _) (v := .ref (ad 7)) rfl dX7_copy_51 ?_
          refine lv_iload_n hx hb dX7_copy_54 rfl (lv_at hl 3 rfl) ?_
          refine lv_as (y := (nI (nN tn))) hj1 ?_
          refine g_iald C hX hP 7 (by decide) (shM_7 G ad _) (nN tn) (by omega) (by decide) dX7_copy_55 ?_
          refine lv_icmp_eq (tgt := 65) hx hb dX7_copy_56 (by decide) (fun c5 => ?_) (fun c5 => ?_)
          · refine lv_iload_n hx hb dX7_copy_65 rfl (lv_at hl 2 rfl) ?_
            refine lv_if_lt (tgt := 114) hx hb dX7_copy_66 (by decide) (fun c6 => ?_) (fun c6 => ?_)
            · refine lv_aload_n hx hb dX7_copy_114 rfl (lv_at hl 0 rfl) ?_
              refine lv_iconst (v := 0) hx hb dX7_copy_115 (by decide) ?_
              refine g_wrI0 hS (g_runV (As := [.int 0]) (rest := []) ky_yX7_finds lk_RX7_128 C hX (gS_b0 hI hS) hP 0 (c_yX7_finds l G ad hI σ 0 (by decide)) (by decide) (shM_0 G ad _) ⟨rfl, rfl, by decide, by decide⟩ rfl hl.1 rfl (Nat.le_of_ble_eq_true rfl) ⟨Nat.zero_le _, Nat.zero_le _⟩ dX7_copy_116) (fun H locs hP hS => ?_)
              exact g_iretM C hr hlk rfl (by rw [m_copy, if_neg c1, if_neg c2, if_neg c3, if_neg c4, if_pos c5, if_pos c6]) hP hS dX7_copy_119
            · refine lv_iload hx hb dX7_copy_69 (lv_at hl 4 rfl) ?_
              refine lv_if_lt (tgt := 114) hx hb dX7_copy_71 (by decide) (fun c7 => ?_) (fun c7 => ?_)
              · refine lv_aload_n hx hb dX7_copy_114 rfl (lv_at hl 0 rfl) ?_
                refine lv_iconst (v := 0) hx hb dX7_copy_115 (by decide) ?_
                refine g_wrI0 hS (g_runV (As := [.int 0]) (rest := []) ky_yX7_finds lk_RX7_128 C hX (gS_b0 hI hS) hP 0 (c_yX7_finds l G ad hI σ 0 (by decide)) (by decide) (shM_0 G ad _) ⟨rfl, rfl, by decide, by decide⟩ rfl hl.1 rfl (Nat.le_of_ble_eq_true rfl) ⟨Nat.zero_le _, Nat.zero_le _⟩ dX7_copy_116) (fun H locs hP hS => ?_)
                exact g_iretM C hr hlk rfl (by rw [m_copy, if_neg c1, if_neg c2, if_neg c3, if_neg c4, if_pos c5, if_neg c6, if_pos c7]) hP hS dX7_copy_119
              · refine lv_iload hx hb dX7_copy_74 (lv_at hl 5 rfl) ?_
                refine lv_if_lt (tgt := 114) hx hb dX7_copy_76 (by decide) (fun c8 => ?_) (fun c8 => ?_)
                · refine lv_aload_n hx hb dX7_copy_114 rfl (lv_at hl 0 rfl) ?_
                  refine lv_iconst (v := 0) hx hb dX7_copy_115 (by decide) ?_
                  refine g_wrI0 hS (g_runV (As := [.int 0]) (rest := []) ky_yX7_finds lk_RX7_128 C hX (gS_b0 hI hS) hP 0 (c_yX7_finds l G ad hI σ 0 (by decide)) (by decide) (shM_0 G ad _) ⟨rfl, rfl, by decide, by decide⟩ rfl hl.1 rfl (Nat.le_of_ble_eq_true rfl) ⟨Nat.zero_le _, Nat.zero_le _⟩ dX7_copy_116) (fun H locs hP hS => ?_)
                  exact g_iretM C hr hlk rfl (by rw [m_copy, if_neg c1, if_neg c2, if_neg c3, if_neg c4, if_pos c5, if_neg c6, if_neg c7, if_pos c8]) hP hS dX7_copy_119
                · refine lv_iload_n hx hb dX7_copy_79 rfl (lv_at hl 2 rfl) ?_
                  refine lv_i2l (v := (frm).toInt64) hx hb dX7_copy_80 rfl ?_
                  refine lv_iload hx hb dX7_copy_81 (lv_at hl 5 rfl) ?_
                  refine lv_i2l (v := (cnt).toInt64) hx hb dX7_copy_83 rfl ?_
                  refine lv_ladd hx hb dX7_copy_84 ?_
                  refine lv_aload_n hx hb dX7_copy_85 rfl (lv_at hl 0 rfl) ?_
                  refine g_get fd_RX7_32 C hX hP 0 (by decide) (shM_0 G ad _) (v := .ref (ad 8)) rfl dX7_copy_86 ?_
                  refine lv_iload_n hx hb dX7_copy_89 rfl (lv_at hl 1 rfl) ?_
                  refine lv_as (y := (nI (nN sn))) hh1 ?_
                  refine g_iald C hX hP 8 (by decide) (shM_8 G ad _) (nN sn) (by omega) (by decide) dX7_copy_90 ?_
                  refine lv_i2l (v := ((σ 8 (nN sn))).toInt64) hx hb dX7_copy_91 rfl ?_
                  refine W.lcmp hx hb dX7_copy_92 ?_
                  refine lv_if_gt (tgt := 114) hx hb dX7_copy_93 (by decide) (fun c9 => ?_) (fun c9 => ?_)
                  · refine lv_aload_n hx hb dX7_copy_114 rfl (lv_at hl 0 rfl) ?_
                    refine lv_iconst (v := 0) hx hb dX7_copy_115 (by decide) ?_
                    refine g_wrI0 hS (g_runV (As := [.int 0]) (rest := []) ky_yX7_finds lk_RX7_128 C hX (gS_b0 hI hS) hP 0 (c_yX7_finds l G ad hI σ 0 (by decide)) (by decide) (shM_0 G ad _) ⟨rfl, rfl, by decide, by decide⟩ rfl hl.1 rfl (Nat.le_of_ble_eq_true rfl) ⟨Nat.zero_le _, Nat.zero_le _⟩ dX7_copy_116) (fun H locs hP hS => ?_)
                    exact g_iretM C hr hlk rfl (by rw [m_copy, if_neg c1, if_neg c2, if_neg c3, if_neg c4, if_pos c5, if_neg c6, if_neg c7, if_neg c8, if_pos c9]) hP hS dX7_copy_119
                  · refine lv_iload hx hb dX7_copy_96 (lv_at hl 4 rfl) ?_
                    refine lv_i2l (v := (to).toInt64) hx hb dX7_copy_98 rfl ?_
                    refine lv_iload hx hb dX7_copy_99 (lv_at hl 5 rfl) ?_
                    refine lv_i2l (v := (cnt).toInt64) hx hb dX7_copy_101 rfl ?_
                    refine lv_ladd hx hb dX7_copy_102 ?_
                    refine lv_aload_n hx hb dX7_copy_103 rfl (lv_at hl 0 rfl) ?_
                    refine g_get fd_RX7_32 C hX hP 0 (by decide) (shM_0 G ad _) (v := .ref (ad 8)) rfl dX7_copy_104 ?_
                    refine lv_iload_n hx hb dX7_copy_107 rfl (lv_at hl 3 rfl) ?_
                    refine lv_as (y := (nI (nN tn))) hj1 ?_
                    refine g_iald C hX hP 8 (by decide) (shM_8 G ad _) (nN tn) (by omega) (by decide) dX7_copy_108 ?_
                    refine lv_i2l (v := ((σ 8 (nN tn))).toInt64) hx hb dX7_copy_109 rfl ?_
                    refine W.lcmp hx hb dX7_copy_110 ?_
                    refine lv_if_le (tgt := 120) hx hb dX7_copy_111 (by decide) (fun c10 => ?_) (fun c10 => ?_)
                    · obtain ⟨Z, hZ, hz⟩ := hsz _ hh2
                      obtain ⟨Z', hZ', hz'⟩ := hsz _ hj2
                      obtain ⟨hf1, hn1, hf2⟩ := cp_fact (x := frm) (n := cnt) (by assumption) (by assumption) hz hZ (by assumption)
                      obtain ⟨ho1, -, ho2⟩ := cp_fact (x := to) (n := cnt) (by assumption) (by assumption) hz' hZ' (Int32.not_lt.mpr c10)
                      refine lv_iconst (v := 0) hx hb dX7_copy_120 (by decide) ?_
                      refine lv_istore (lv' := [(6, .int 0), (0, .ref (ad 0)), (1, .int sn), (2, .int frm), (3, .int tn), (4, .int to), (5, .int cnt)]) hx hb dX7_copy_121 hl (by decide) rfl (fun ls hl => ?_)
                      suffices loop123 : ∀ (n123 : Nat) (i : Nat) (τ : gM) (H : Heap) (locs : List Loc) (ls : Array Slot), (i + n123 = (nN cnt)) → m_copy σ sn frm tn to cnt = (m_copy_L123 σ sn frm tn to cnt n123 i τ) → gP G.1 11 ad (gE (shM G ad) τ) H → va_S (gA 11 ad) s.heap H locs → lv_has ls 7 [(6, .int (nI i)), (0, .ref (ad 0)), (1, .int sn), (2, .int frm), (3, .int tn), (4, .int to), (5, .int cnt)] → W p l e rm_yX7_copy s m ([.ref (ad 0), .int sn, .int frm, .int tn, .int to, .int cnt] : List Value).toArray below meth c H locs 0 0 (MQ below (va_Qi (fun (x : Int32) (τ : gM) => m_copy σ sn frm tn to cnt = (x, τ)) (fun τ t => gP G.1 11 ad (gE (shM G ad) τ) t.heap) (gA 11 ad)) ([.ref (ad 0), .int sn, .int frm, .int tn, .int to, .int cnt] : List Value).toArray s 0 0 (gA 11 ad)) (F0 m 123 ls []) by
                        exact loop123 (nN cnt) 0 σ _ _ _ (by omega) (by rw [m_copy, if_neg c1, if_neg c2, if_neg c3, if_neg c4, if_pos c5, if_neg c6, if_neg c7, if_neg c8, if_neg c9, if_pos c10]) hP hS (lv_sub hl [0, 1, 2, 3, 4, 5, 6] rfl)
                      intro n123
                      induction n123 with
                      | zero =>
                        intro i τ H locs ls hi123 hres123 hP hS hl
                        refine lv_iload hx hb dX7_copy_123 (lv_at hl 0 rfl) ?_
                        refine lv_iload hx hb dX7_copy_125 (lv_at hl 6 rfl) ?_
                        refine lv_as (y := (nI (nN cnt))) hn1 ?_
                        refine lv_icmp_ge (tgt := 157) hx hb dX7_copy_127 (by decide) (fun c11 => ?_) (fun c11 => ?_)
                        · refine lv_iconst (v := 0) hx hb dX7_copy_157 (by decide) ?_
                          refine lv_istore (lv' := [(6, .int 0), (0, .ref (ad 0)), (1, .int sn), (2, .int frm), (3, .int tn), (4, .int to), (5, .int cnt)]) hx hb dX7_copy_158 hl (by decide) rfl (fun ls hl => ?_)
                          suffices loop160 : ∀ (n160 : Nat) (i2 : Nat) (τ2 : gM) (H : Heap) (locs : List Loc) (ls : Array Slot), (i2 + n160 = (nN cnt)) → m_copy σ sn frm tn to cnt = (m_copy_L160 σ sn frm tn to cnt i τ n160 i2 τ2) → gP G.1 11 ad (gE (shM G ad) τ2) H → va_S (gA 11 ad) s.heap H locs → lv_has ls 7 [(6, .int (nI i2)), (0, .ref (ad 0)), (1, .int sn), (2, .int frm), (3, .int tn), (4, .int to), (5, .int cnt)] → W p l e rm_yX7_copy s m ([.ref (ad 0), .int sn, .int frm, .int tn, .int to, .int cnt] : List Value).toArray below meth c H locs 0 0 (MQ below (va_Qi (fun (x : Int32) (τ : gM) => m_copy σ sn frm tn to cnt = (x, τ)) (fun τ t => gP G.1 11 ad (gE (shM G ad) τ) t.heap) (gA 11 ad)) ([.ref (ad 0), .int sn, .int frm, .int tn, .int to, .int cnt] : List Value).toArray s 0 0 (gA 11 ad)) (F0 m 160 ls []) by
                            exact loop160 (nN cnt) 0 τ _ _ _ (by omega) (by rw [hres123, m_copy_L123]) hP hS (lv_sub hl [0, 1, 2, 3, 4, 5, 6] rfl)
                          intro n160
                          induction n160 with
                          | zero =>
                            intro i2 τ2 H locs ls hi160 hres160 hP hS hl
                            refine lv_iload hx hb dX7_copy_160 (lv_at hl 0 rfl) ?_
                            refine lv_iload hx hb dX7_copy_162 (lv_at hl 6 rfl) ?_
                            refine lv_as (y := (nI (nN cnt))) hn1 ?_
                            refine lv_icmp_ge (tgt := 195) hx hb dX7_copy_164 (by decide) (fun c12 => ?_) (fun c12 => ?_)
                            · refine lv_iload hx hb dX7_copy_195 (lv_at hl 6 rfl) ?_
                              exact g_iretM C hr hlk rfl (by rw [hres160, m_copy_L160]) hP hS dX7_copy_197
                            · exact absurd (show nI ((nN cnt)) ≤ nI i2 from nI_le (by omega) (by omega)) c12
                          | succ n160 ih160 =>
                            intro i2 τ2 H locs ls hi160 hres160 hP hS hl
                            refine lv_iload hx hb dX7_copy_160 (lv_at hl 0 rfl) ?_
                            refine lv_iload hx hb dX7_copy_162 (lv_at hl 6 rfl) ?_
                            refine lv_as (y := (nI (nN cnt))) hn1 ?_
                            refine lv_icmp_ge (tgt := 195) hx hb dX7_copy_164 (by decide) (fun c13 => ?_) (fun c13 => ?_)
                            · exact absurd (show nI ((nN cnt)) ≤ nI i2 from c13) (nI_ge (by omega) (by omega))
                            · refine lv_aload_n hx hb dX7_copy_167 rfl (lv_at hl 1 rfl) ?_
                              refine g_get fd_RX7_35 C hX hP 0 (by decide) (shM_0 G ad _) (v := .ref (ad 9)) rfl dX7_copy_168 ?_
                              refine lv_bipush (v := 40) hx hb dX7_copy_171 (by decide) ?_
                              refine lv_iload_n hx hb dX7_copy_173 rfl (lv_at hl 4 rfl) ?_
                              refine lv_imul hx hb dX7_copy_174 ?_
                              refine lv_iload hx hb dX7_copy_175 (lv_at hl 5 rfl) ?_
                              refine lv_iadd hx hb dX7_copy_177 ?_
                              refine lv_iload hx hb dX7_copy_178 (lv_at hl 0 rfl) ?_
                              refine lv_iadd hx hb dX7_copy_180 ?_
                              refine lv_as (y := (nI (40 * nN tn + nN to + i2))) (ix_403 i2 hj1 ho1) ?_
                              refine lv_aload_n hx hb dX7_copy_181 rfl (lv_at hl 1 rfl) ?_
                              refine g_get fd_RX7_38 C hX hP 0 (by decide) (shM_0 G ad _) (v := .ref (ad 10)) rfl dX7_copy_182 ?_
                              refine lv_iload hx hb dX7_copy_185 (lv_at hl 0 rfl) ?_
                              refine g_iald C hX hP 10 (by decide) (shM_10 G ad _) i2 (by omega) (by decide) dX7_copy_187 ?_
                              refine g_iast C hX hI hP hS 9 (by decide) (shM_9 G ad _) (40 * nN tn + nN to + i2) (by omega) (by decide) (upd (τ2 9) (40 * nN tn + nN to + i2) (τ2 10 i2)) rfl dX7_copy_188 (fun H locs hP hS => ?_)
                              have hP : gP G.1 11 ad (gE (shM G ad) (mset τ2 9 (40 * nN tn + nN to + i2) (τ2 10 i2))) H := hP
                              refine lv_iinc (v := (nI (i2 + 1))) (lv' := [(6, .int (nI (i2 + 1))), (0, .ref (ad 0)), (1, .int sn), (2, .int frm), (3, .int tn), (4, .int to), (5, .int cnt)]) hx hb dX7_copy_189 hl (k := 0) rfl (by exact nI_1 _) (by decide) rfl (fun ls hl => ?_)
                              refine lv_goto (tgt := 160) hx hb dX7_copy_192 (by decide) ?_
                              exact ih160 (i2 + 1) ((mset τ2 9 (40 * nN tn + nN to + i2) (τ2 10 i2))) _ _ _ (by omega) (by rw [hres160, m_copy_L160]) hP hS (lv_sub hl [0, 1, 2, 3, 4, 5, 6] rfl)
                        · exact absurd (show nI ((nN cnt)) ≤ nI i from nI_le (by omega) (by omega)) c11
                      | succ n123 ih123 =>
                        intro i τ H locs ls hi123 hres123 hP hS hl
                        refine lv_iload hx hb dX7_copy_123 (lv_at hl 0 rfl) ?_
                        refine lv_iload hx hb dX7_copy_125 (lv_at hl 6 rfl) ?_
                        refine lv_as (y := (nI (nN cnt))) hn1 ?_
                        refine lv_icmp_ge (tgt := 157) hx hb dX7_copy_127 (by decide) (fun c14 => ?_) (fun c14 => ?_)
                        · exact absurd (show nI ((nN cnt)) ≤ nI i from c14) (nI_ge (by omega) (by omega))
                        · refine lv_aload_n hx hb dX7_copy_130 rfl (lv_at hl 1 rfl) ?_
                          refine g_get fd_RX7_38 C hX hP 0 (by decide) (shM_0 G ad _) (v := .ref (ad 10)) rfl dX7_copy_131 ?_
                          refine lv_iload hx hb dX7_copy_134 (lv_at hl 0 rfl) ?_
                          refine lv_aload_n hx hb dX7_copy_136 rfl (lv_at hl 1 rfl) ?_
                          refine g_get fd_RX7_35 C hX hP 0 (by decide) (shM_0 G ad _) (v := .ref (ad 9)) rfl dX7_copy_137 ?_
                          refine lv_bipush (v := 40) hx hb dX7_copy_140 (by decide) ?_
                          refine lv_iload_n hx hb dX7_copy_142 rfl (lv_at hl 2 rfl) ?_
                          refine lv_imul hx hb dX7_copy_143 ?_
                          refine lv_iload_n hx hb dX7_copy_144 rfl (lv_at hl 3 rfl) ?_
                          refine lv_iadd hx hb dX7_copy_145 ?_
                          refine lv_iload hx hb dX7_copy_146 (lv_at hl 0 rfl) ?_
                          refine lv_iadd hx hb dX7_copy_148 ?_
                          refine lv_as (y := (nI (40 * nN sn + nN frm + i))) (ix_403 i hh1 hf1) ?_
                          refine g_iald C hX hP 9 (by decide) (shM_9 G ad _) (40 * nN sn + nN frm + i) (by omega) (by decide) dX7_copy_149 ?_
                          refine g_iast C hX hI hP hS 10 (by decide) (shM_10 G ad _) i (by omega) (by decide) (upd (τ 10) i (τ 9 (40 * nN sn + nN frm + i))) rfl dX7_copy_150 (fun H locs hP hS => ?_)
                          have hP : gP G.1 11 ad (gE (shM G ad) (mset τ 10 i (τ 9 (40 * nN sn + nN frm + i)))) H := hP
                          refine lv_iinc (v := (nI (i + 1))) (lv' := [(6, .int (nI (i + 1))), (0, .ref (ad 0)), (1, .int sn), (2, .int frm), (3, .int tn), (4, .int to), (5, .int cnt)]) hx hb dX7_copy_151 hl (k := 0) rfl (by exact nI_1 _) (by decide) rfl (fun ls hl => ?_)
                          refine lv_goto (tgt := 123) hx hb dX7_copy_154 (by decide) ?_
                          exact ih123 (i + 1) (mset τ 10 i (τ 9 (40 * nN sn + nN frm + i))) _ _ _ (by omega) (by rw [hres123, m_copy_L123]) hP hS (lv_sub hl [0, 1, 2, 3, 4, 5, 6] rfl)
                    · refine lv_aload_n hx hb dX7_copy_114 rfl (lv_at hl 0 rfl) ?_
                      refine lv_iconst (v := 0) hx hb dX7_copy_115 (by decide) ?_
                      refine g_wrI0 hS (g_runV (As := [.int 0]) (rest := []) ky_yX7_finds lk_RX7_128 C hX (gS_b0 hI hS) hP 0 (c_yX7_finds l G ad hI σ 0 (by decide)) (by decide) (shM_0 G ad _) ⟨rfl, rfl, by decide, by decide⟩ rfl hl.1 rfl (Nat.le_of_ble_eq_true rfl) ⟨Nat.zero_le _, Nat.zero_le _⟩ dX7_copy_116) (fun H locs hP hS => ?_)
                      exact g_iretM C hr hlk rfl (by rw [m_copy, if_neg c1, if_neg c2, if_neg c3, if_neg c4, if_pos c5, if_neg c6, if_neg c7, if_neg c8, if_neg c9, if_neg c10]) hP hS dX7_copy_119
          · refine lv_aload_n hx hb dX7_copy_59 rfl (lv_at hl 0 rfl) ?_
            refine lv_iconst (v := 2) hx hb dX7_copy_60 (by decide) ?_
            refine g_wrI0 hS (g_runV (As := [.int 2]) (rest := []) ky_yX7_finds lk_RX7_128 C hX (gS_b0 hI hS) hP 0 (c_yX7_finds l G ad hI σ 2 (by decide)) (by decide) (shM_0 G ad _) ⟨rfl, rfl, by decide, by decide⟩ rfl hl.1 rfl (Nat.le_of_ble_eq_true rfl) ⟨Nat.zero_le _, Nat.zero_le _⟩ dX7_copy_61) (fun H locs hP hS => ?_)
            exact g_iretM C hr hlk rfl (by rw [m_copy, if_neg c1, if_neg c2, if_neg c3, if_neg c4, if_neg c5]) hP hS dX7_copy_64
        · refine lv_aload_n hx hb dX7_copy_38 rfl (lv_at hl 0 rfl) ?_
          refine lv_iconst (v := 5) hx hb dX7_copy_39 (by decide) ?_
          refine g_wrI0 hS (g_runV (As := [.int 5]) (rest := []) ky_yX7_finds lk_RX7_128 C hX (gS_b0 hI hS) hP 0 (c_yX7_finds l G ad hI σ 5 (by decide)) (by decide) (shM_0 G ad _) ⟨rfl, rfl, by decide, by decide⟩ rfl hl.1 rfl (Nat.le_of_ble_eq_true rfl) ⟨Nat.zero_le _, Nat.zero_le _⟩ dX7_copy_40) (fun H locs hP hS => ?_)
          exact g_iretM C hr hlk rfl (by rw [m_copy, if_neg c1, if_neg c2, if_neg c3, if_pos c4]) hP hS dX7_copy_43
    · refine lv_aload_n hx hb dX7_copy_14 rfl (lv_at hl 0 rfl) ?_
      refine lv_iconst (v := 0) hx hb dX7_copy_15 (by decide) ?_
      refine g_wrI0 hS (g_runV (As := [.int 0]) (rest := []) ky_yX7_finds lk_RX7_128 C hX (gS_b0 hI hS) hP 0 (c_yX7_finds l G ad hI σ 0 (by decide)) (by decide) (shM_0 G ad _) ⟨rfl, rfl, by decide, by decide⟩ rfl hl.1 rfl (Nat.le_of_ble_eq_true rfl) ⟨Nat.zero_le _, Nat.zero_le _⟩ dX7_copy_16) (fun H locs hP hS => ?_)
      exact g_iretM C hr hlk rfl (by rw [m_copy, if_neg c1, if_pos c2]) hP hS dX7_copy_19

def m_load_L18 (σ : gM) (sn : Int32) : Nat → Nat → gM → Int32 × gM
  | 0, i, τ => if (τ 8 (nN sn)) ≤ (nI i) then ((nI i), τ) else ((nI i), τ)
  | n18 + 1, i, τ => if (τ 8 (nN sn)) ≤ (nI i) then ((nI i), τ) else (if (m_isSaying (τ 9 (40 * nN sn + i))) = 0 then ((nI i), τ) else (m_load_L18 σ sn n18 (i + 1) ((mset τ 1 (3 + i) (τ 9 (40 * nN sn + i))))))
def m_load (σ : gM) (sn : Int32) : Int32 × gM := if (m_whyNone σ sn) < 0 then (m_load_L18 σ sn 6 0 σ) else ((m_finds σ (nN (m_whyNone σ sn))).1, (m_finds σ (nN (m_whyNone σ sn))).2)
def rm_yX7_load : Room := { frames := 3, cells := 0, slots := 0, locals := 66 }
set_option maxHeartbeats 4000000 in
set_option maxRecDepth 100000 in
theorem c_yX7_load (l : Launch) (G : gG) (ad : Nat → Nat) (hI : gI G.2.2.1 11 ad) (σ : gM) (sn : Int32) : gMutI l yX7_load cX7_load 4 (some .int) rm_yX7_load G [.ref (ad 0), .int sn] 11 ad (shM G ad) σ (m_load σ sn) := by
  refine g_start [.ref (ad 0), .int sn] (by decide +kernel) (Nat.le_of_ble_eq_true rfl) ?_
  intro p e s m below meth c ls B Z hl
  obtain ⟨C, hr, hlk⟩ := B
  have hx := C.1
  have hb := C.2.1
  obtain ⟨hX, hP⟩ := Z
  have hS : va_S (gA 11 ad) s.heap s.heap [] := va_S.rf
  revert hP hS
  intro hP hS
  have hl : lv_has ls 4 [(0, .ref (ad 0)), (1, .int sn)] := hl
  refine lv_aload_n hx hb dX7_load_0 rfl (lv_at hl 0 rfl) ?_
  refine lv_iload_n hx hb dX7_load_1 rfl (lv_at hl 1 rfl) ?_
  refine g_rd (g_runV (As := [.int sn]) (rest := []) ky_yX7_whyNone lk_RX7_190 C hX (gS_b0 hI hS) hP 0 (c_yX7_whyNone l G ad hI σ sn) (by decide) (shM_0 G ad _) ⟨rfl, rfl, by decide, by decide⟩ rfl hl.1 rfl (Nat.le_of_ble_eq_true rfl) ⟨Nat.zero_le _, Nat.zero_le _⟩ dX7_load_2) ?_
  refine lv_istore_n (lv' := [(2, .int (m_whyNone σ sn)), (0, .ref (ad 0)), (1, .int sn)]) hx hb dX7_load_5 rfl hl (by decide) rfl (fun ls hl => ?_)
  refine lv_iload_n hx hb dX7_load_6 rfl (lv_at hl 0 rfl) ?_
  refine lv_if_lt (tgt := 16) hx hb dX7_load_7 (by decide) (fun c1 => ?_) (fun c1 => ?_)
  · obtain ⟨hh1, hh2, hh3⟩ := why_ok c1
    refine lv_iconst (v := 0) hx hb dX7_load_16 (by decide) ?_
    refine lv_istore_n (lv' := [(3, .int 0), (2, .int (m_whyNone σ sn)), (0, .ref (ad 0)), (1, .int sn)]) hx hb dX7_load_17 rfl hl (by decide) rfl (fun ls hl => ?_)
    suffices loop18 : ∀ (n18 : Nat) (i : Nat) (τ : gM) (H : Heap) (locs : List Loc) (ls : Array Slot), (i + n18 = 6) → m_load σ sn = (m_load_L18 σ sn n18 i τ) → gP G.1 11 ad (gE (shM G ad) τ) H → va_S (gA 11 ad) s.heap H locs → lv_has ls 4 [(3, .int (nI i)), (2, .int (m_whyNone σ sn)), (0, .ref (ad 0)), (1, .int sn)] → W p l e rm_yX7_load s m ([.ref (ad 0), .int sn] : List Value).toArray below meth c H locs 0 0 (MQ below (va_Qi (fun (x : Int32) (τ : gM) => m_load σ sn = (x, τ)) (fun τ t => gP G.1 11 ad (gE (shM G ad) τ) t.heap) (gA 11 ad)) ([.ref (ad 0), .int sn] : List Value).toArray s 0 0 (gA 11 ad)) (F0 m 18 ls []) by
      exact loop18 6 0 σ _ _ _ (by omega) (by rw [m_load, if_pos c1]) hP hS (lv_sub hl [0, 1, 2, 3] rfl)
    intro n18
    induction n18 with
    | zero =>
      intro i τ H locs ls hi18 hres18 hP hS hl
      refine lv_iload_n hx hb dX7_load_18 rfl (lv_at hl 0 rfl) ?_
      refine lv_aload_n hx hb dX7_load_19 rfl (lv_at hl 2 rfl) ?_
      refine g_get fd_RX7_32 C hX hP 0 (by decide) (shM_0 G ad _) (v := .ref (ad 8)) rfl dX7_load_20 ?_
      refine lv_iload_n hx hb dX7_load_23 rfl (lv_at hl 3 rfl) ?_
      refine lv_as (y := (nI (nN sn))) hh1 ?_
      refine g_iald C hX hP 8 (by decide) (shM_8 G ad _) (nN sn) (by omega) (by decide) dX7_load_24 ?_
      refine lv_icmp_ge (tgt := 76) hx hb dX7_load_25 (by decide) (fun c2 => ?_) (fun c2 => ?_)
      · refine lv_iload_n hx hb dX7_load_76 rfl (lv_at hl 0 rfl) ?_
        exact g_iretM C hr hlk rfl (by rw [hres18, m_load_L18, if_pos c2]) hP hS dX7_load_77
      · refine lv_iload_n hx hb dX7_load_28 rfl (lv_at hl 0 rfl) ?_
        refine lv_bipush (v := 6) hx hb dX7_load_29 (by decide) ?_
        refine lv_icmp_ge (tgt := 76) hx hb dX7_load_31 (by decide) (fun c3 => ?_) (fun c3 => ?_)
        · refine lv_iload_n hx hb dX7_load_76 rfl (lv_at hl 0 rfl) ?_
          exact g_iretM C hr hlk rfl (by rw [hres18, m_load_L18, if_neg c2]) hP hS dX7_load_77
        · exact absurd (show nI (6) ≤ nI i from nI_le (by omega) (by omega)) c3
    | succ n18 ih18 =>
      intro i τ H locs ls hi18 hres18 hP hS hl
      refine lv_iload_n hx hb dX7_load_18 rfl (lv_at hl 0 rfl) ?_
      refine lv_aload_n hx hb dX7_load_19 rfl (lv_at hl 2 rfl) ?_
      refine g_get fd_RX7_32 C hX hP 0 (by decide) (shM_0 G ad _) (v := .ref (ad 8)) rfl dX7_load_20 ?_
      refine lv_iload_n hx hb dX7_load_23 rfl (lv_at hl 3 rfl) ?_
      refine lv_as (y := (nI (nN sn))) hh1 ?_
      refine g_iald C hX hP 8 (by decide) (shM_8 G ad _) (nN sn) (by omega) (by decide) dX7_load_24 ?_
      refine lv_icmp_ge (tgt := 76) hx hb dX7_load_25 (by decide) (fun c4 => ?_) (fun c4 => ?_)
      · refine lv_iload_n hx hb dX7_load_76 rfl (lv_at hl 0 rfl) ?_
        exact g_iretM C hr hlk rfl (by rw [hres18, m_load_L18, if_pos c4]) hP hS dX7_load_77
      · refine lv_iload_n hx hb dX7_load_28 rfl (lv_at hl 0 rfl) ?_
        refine lv_bipush (v := 6) hx hb dX7_load_29 (by decide) ?_
        refine lv_icmp_ge (tgt := 76) hx hb dX7_load_31 (by decide) (fun c5 => ?_) (fun c5 => ?_)
        · exact absurd (show nI (6) ≤ nI i from c5) (nI_ge (by omega) (by omega))
        · refine lv_aload_n hx hb dX7_load_34 rfl (lv_at hl 2 rfl) ?_
          refine g_get fd_RX7_35 C hX hP 0 (by decide) (shM_0 G ad _) (v := .ref (ad 9)) rfl dX7_load_35 ?_
          refine lv_bipush (v := 40) hx hb dX7_load_38 (by decide) ?_
          refine lv_iload_n hx hb dX7_load_40 rfl (lv_at hl 3 rfl) ?_
          refine lv_imul hx hb dX7_load_41 ?_
          refine lv_iload_n hx hb dX7_load_42 rfl (lv_at hl 0 rfl) ?_
          refine lv_iadd hx hb dX7_load_43 ?_
          refine lv_as (y := (nI (40 * nN sn + i))) ((congrArg (fun z => 40 * z + nI i) hh1).trans (ix_40 _ _)) ?_
          refine g_iald C hX hP 9 (by decide) (shM_9 G ad _) (40 * nN sn + i) (by omega) (by decide) dX7_load_44 ?_
          refine g_rd (g_runS (As := [.int (τ 9 (40 * nN sn + i))]) (rest := []) ky_yX7_isSaying lk_RX7_122 C (c_yX7_isSaying l (τ 9 (40 * nN sn + i))) ⟨rfl, rfl, by decide, by decide⟩ rfl hl.1 rfl (Nat.le_of_ble_eq_true rfl) ⟨Nat.zero_le _, Nat.zero_le _⟩ dX7_load_45) ?_
          refine lv_if_eq (tgt := 76) hx hb dX7_load_48 (by decide) (fun c6 => ?_) (fun c6 => ?_)
          · refine lv_iload_n hx hb dX7_load_76 rfl (lv_at hl 0 rfl) ?_
            exact g_iretM C hr hlk rfl (by rw [hres18, m_load_L18, if_neg c4, if_pos c6]) hP hS dX7_load_77
          · refine lv_aload_n hx hb dX7_load_51 rfl (lv_at hl 2 rfl) ?_
            refine g_get fd_RX7_7 C hX hP 0 (by decide) (shM_0 G ad _) (v := .ref (ad 1)) rfl dX7_load_52 ?_
            refine lv_iconst (v := 3) hx hb dX7_load_55 (by decide) ?_
            refine lv_iload_n hx hb dX7_load_56 rfl (lv_at hl 0 rfl) ?_
            refine lv_iadd hx hb dX7_load_57 ?_
            refine lv_as (y := (nI (3 + i))) (ix_3 _) ?_
            refine lv_aload_n hx hb dX7_load_58 rfl (lv_at hl 2 rfl) ?_
            refine g_get fd_RX7_35 C hX hP 0 (by decide) (shM_0 G ad _) (v := .ref (ad 9)) rfl dX7_load_59 ?_
            refine lv_bipush (v := 40) hx hb dX7_load_62 (by decide) ?_
            refine lv_iload_n hx hb dX7_load_64 rfl (lv_at hl 3 rfl) ?_
            refine lv_imul hx hb dX7_load_65 ?_
            refine lv_iload_n hx hb dX7_load_66 rfl (lv_at hl 0 rfl) ?_
            refine lv_iadd hx hb dX7_load_67 ?_
            refine lv_as (y := (nI (40 * nN sn + i))) ((congrArg (fun z => 40 * z + nI i) hh1).trans (ix_40 _ _)) ?_
            refine g_iald C hX hP 9 (by decide) (shM_9 G ad _) (40 * nN sn + i) (by omega) (by decide) dX7_load_68 ?_
            refine g_iast C hX hI hP hS 1 (by decide) (shM_1 G ad _) (3 + i) (by omega) (by decide) (upd (τ 1) (3 + i) (τ 9 (40 * nN sn + i))) rfl dX7_load_69 (fun H locs hP hS => ?_)
            have hP : gP G.1 11 ad (gE (shM G ad) (mset τ 1 (3 + i) (τ 9 (40 * nN sn + i)))) H := hP
            refine lv_iinc (v := (nI (i + 1))) (lv' := [(3, .int (nI (i + 1))), (2, .int (m_whyNone σ sn)), (0, .ref (ad 0)), (1, .int sn)]) hx hb dX7_load_70 hl (k := 0) rfl (by exact nI_1 _) (by decide) rfl (fun ls hl => ?_)
            refine lv_goto (tgt := 18) hx hb dX7_load_73 (by decide) ?_
            exact ih18 (i + 1) ((mset τ 1 (3 + i) (τ 9 (40 * nN sn + i)))) _ _ _ (by omega) (by rw [hres18, m_load_L18, if_neg c4, if_neg c6]) hP hS (lv_sub hl [0, 1, 2, 3] rfl)
  · obtain ⟨hy1, hy2⟩ := why_nat c1
    refine lv_aload_n hx hb dX7_load_10 rfl (lv_at hl 1 rfl) ?_
    refine lv_iload_n hx hb dX7_load_11 rfl (lv_at hl 0 rfl) ?_
    refine lv_as (y := (nI (nN (m_whyNone σ sn)))) hy1 ?_
    refine g_wrI0 hS (g_runV (As := [.int (nI (nN (m_whyNone σ sn)))]) (rest := []) ky_yX7_finds lk_RX7_128 C hX (gS_b0 hI hS) hP 0 (c_yX7_finds l G ad hI σ (nN (m_whyNone σ sn)) hy2) (by decide) (shM_0 G ad _) ⟨rfl, rfl, by decide, by decide⟩ rfl hl.1 rfl (Nat.le_of_ble_eq_true rfl) ⟨Nat.zero_le _, Nat.zero_le _⟩ dX7_load_12) (fun H locs hP hS => ?_)
    exact g_iretM C hr hlk rfl (by rw [m_load, if_neg c1]) hP hS dX7_load_15

def m_judge_L18 (σ : gM) (sn : Int32) : Nat → Nat → Int32 × gM
  | 0, i => (0, σ)
  | n18 + 1, i => if (m_isGlove σ (nI i)) = 0 then ((1 + (nI i)), σ) else (if (σ 9 (40 * nN sn + i)) = (m_its σ i 5) then (m_judge_L18 σ sn n18 (i + 1)) else ((1 + (nI i)), σ))
def m_judge (σ : gM) (sn : Int32) : Int32 × gM := if (m_whyNone σ sn) < 0 then (m_judge_L18 σ sn (nN (σ 8 (nN sn))) 0) else ((m_finds σ (nN (m_whyNone σ sn))).1, (m_finds σ (nN (m_whyNone σ sn))).2)
def rm_yX7_judge : Room := { frames := 3, cells := 0, slots := 0, locals := 66 }
set_option maxHeartbeats 4000000 in
set_option maxRecDepth 100000 in
theorem c_yX7_judge (l : Launch) (G : gG) (ad : Nat → Nat) (hI : gI G.2.2.1 11 ad) (σ : gM) (sn : Int32) (N : Nat) (hN : N ≤ 8) (hs : σ 1 0 = nI N) (hsz : ∀ j, j < 4 → ∃ Z, Z ≤ 40 ∧ σ 8 j = nI Z) : gMutI l yX7_judge cX7_judge 4 (some .int) rm_yX7_judge G [.ref (ad 0), .int sn] 11 ad (shM G ad) σ (m_judge σ sn) := by
  refine g_start [.ref (ad 0), .int sn] (by decide +kernel) (Nat.le_of_ble_eq_true rfl) ?_
  intro p e s m below meth c ls B Z hl
  obtain ⟨C, hr, hlk⟩ := B
  have hx := C.1
  have hb := C.2.1
  obtain ⟨hX, hP⟩ := Z
  have hS : va_S (gA 11 ad) s.heap s.heap [] := va_S.rf
  revert hP hS
  intro hP hS
  have hl : lv_has ls 4 [(0, .ref (ad 0)), (1, .int sn)] := hl
  refine lv_aload_n hx hb dX7_judge_0 rfl (lv_at hl 0 rfl) ?_
  refine lv_iload_n hx hb dX7_judge_1 rfl (lv_at hl 1 rfl) ?_
  refine g_rd (g_runV (As := [.int sn]) (rest := []) ky_yX7_whyNone lk_RX7_190 C hX (gS_b0 hI hS) hP 0 (c_yX7_whyNone l G ad hI σ sn) (by decide) (shM_0 G ad _) ⟨rfl, rfl, by decide, by decide⟩ rfl hl.1 rfl (Nat.le_of_ble_eq_true rfl) ⟨Nat.zero_le _, Nat.zero_le _⟩ dX7_judge_2) ?_
  refine lv_istore_n (lv' := [(2, .int (m_whyNone σ sn)), (0, .ref (ad 0)), (1, .int sn)]) hx hb dX7_judge_5 rfl hl (by decide) rfl (fun ls hl => ?_)
  refine lv_iload_n hx hb dX7_judge_6 rfl (lv_at hl 0 rfl) ?_
  refine lv_if_lt (tgt := 16) hx hb dX7_judge_7 (by decide) (fun c1 => ?_) (fun c1 => ?_)
  · obtain ⟨hh1, hh2, hh3⟩ := why_ok c1
    obtain ⟨Z, hZ, hz⟩ := hsz _ hh2
    refine lv_iconst (v := 0) hx hb dX7_judge_16 (by decide) ?_
    refine lv_istore_n (lv' := [(3, .int 0), (2, .int (m_whyNone σ sn)), (0, .ref (ad 0)), (1, .int sn)]) hx hb dX7_judge_17 rfl hl (by decide) rfl (fun ls hl => ?_)
    suffices loop18 : ∀ (n18 : Nat) (i : Nat) (H : Heap) (locs : List Loc) (ls : Array Slot), (i + n18 = Z) → m_judge σ sn = (m_judge_L18 σ sn n18 i) → gP G.1 11 ad (gE (shM G ad) σ) H → va_S (gA 11 ad) s.heap H locs → lv_has ls 4 [(3, .int (nI i)), (2, .int (m_whyNone σ sn)), (0, .ref (ad 0)), (1, .int sn)] → W p l e rm_yX7_judge s m ([.ref (ad 0), .int sn] : List Value).toArray below meth c H locs 0 0 (MQ below (va_Qi (fun (x : Int32) (τ : gM) => m_judge σ sn = (x, τ)) (fun τ t => gP G.1 11 ad (gE (shM G ad) τ) t.heap) (gA 11 ad)) ([.ref (ad 0), .int sn] : List Value).toArray s 0 0 (gA 11 ad)) (F0 m 18 ls []) by
      exact loop18 Z 0 _ _ _ (by omega) (by rw [m_judge, if_pos c1, hz, nN_nI (by omega)]) hP hS (lv_sub hl [0, 1, 2, 3] rfl)
    intro n18
    induction n18 with
    | zero =>
      intro i H locs ls hi18 hres18 hP hS hl
      refine lv_iload_n hx hb dX7_judge_18 rfl (lv_at hl 0 rfl) ?_
      refine lv_aload_n hx hb dX7_judge_19 rfl (lv_at hl 2 rfl) ?_
      refine g_get fd_RX7_32 C hX hP 0 (by decide) (shM_0 G ad _) (v := .ref (ad 8)) rfl dX7_judge_20 ?_
      refine lv_iload_n hx hb dX7_judge_23 rfl (lv_at hl 3 rfl) ?_
      refine lv_as (y := (nI (nN sn))) hh1 ?_
      refine g_iald C hX hP 8 (by decide) (shM_8 G ad _) (nN sn) (by omega) (by decide) dX7_judge_24 ?_
      refine lv_as (y := (nI Z)) hz ?_
      refine lv_icmp_ge (tgt := 66) hx hb dX7_judge_25 (by decide) (fun c2 => ?_) (fun c2 => ?_)
      · refine lv_iconst (v := 0) hx hb dX7_judge_66 (by decide) ?_
        exact g_iretM C hr hlk rfl (by rw [hres18, m_judge_L18]) hP hS dX7_judge_67
      · exact absurd (show nI (Z) ≤ nI i from nI_le (by omega) (by omega)) c2
    | succ n18 ih18 =>
      intro i H locs ls hi18 hres18 hP hS hl
      refine lv_iload_n hx hb dX7_judge_18 rfl (lv_at hl 0 rfl) ?_
      refine lv_aload_n hx hb dX7_judge_19 rfl (lv_at hl 2 rfl) ?_
      refine g_get fd_RX7_32 C hX hP 0 (by decide) (shM_0 G ad _) (v := .ref (ad 8)) rfl dX7_judge_20 ?_
      refine lv_iload_n hx hb dX7_judge_23 rfl (lv_at hl 3 rfl) ?_
      refine lv_as (y := (nI (nN sn))) hh1 ?_
      refine g_iald C hX hP 8 (by decide) (shM_8 G ad _) (nN sn) (by omega) (by decide) dX7_judge_24 ?_
      refine lv_as (y := (nI Z)) hz ?_
      refine lv_icmp_ge (tgt := 66) hx hb dX7_judge_25 (by decide) (fun c3 => ?_) (fun c3 => ?_)
      · exact absurd (show nI (Z) ≤ nI i from c3) (nI_ge (by omega) (by omega))
      · refine lv_aload_n hx hb dX7_judge_28 rfl (lv_at hl 2 rfl) ?_
        refine lv_iload_n hx hb dX7_judge_29 rfl (lv_at hl 0 rfl) ?_
        refine g_rd (g_runV (As := [.int (nI i)]) (rest := []) ky_yX7_isGlove lk_RX7_138 C hX (gS_b0 hI hS) hP 0 (c_yX7_isGlove l G ad hI σ (nI i)) (by decide) (shM_0 G ad _) ⟨rfl, rfl, by decide, by decide⟩ rfl hl.1 rfl (Nat.le_of_ble_eq_true rfl) ⟨Nat.zero_le _, Nat.zero_le _⟩ dX7_judge_30) ?_
        refine lv_if_eq (tgt := 56) hx hb dX7_judge_33 (by decide) (fun c4 => ?_) (fun c4 => ?_)
        · refine lv_iconst (v := 1) hx hb dX7_judge_56 (by decide) ?_
          refine lv_iload_n hx hb dX7_judge_57 rfl (lv_at hl 0 rfl) ?_
          refine lv_iadd hx hb dX7_judge_58 ?_
          exact g_iretM C hr hlk rfl (by rw [hres18, m_judge_L18, if_pos c4]) hP hS dX7_judge_59
        · have hi8 : i < 8 := by
            have q := (glv_of hN hs c4).2
            rw [nN_nI (by omega)] at q
            omega
          refine lv_aload_n hx hb dX7_judge_36 rfl (lv_at hl 2 rfl) ?_
          refine g_get fd_RX7_35 C hX hP 0 (by decide) (shM_0 G ad _) (v := .ref (ad 9)) rfl dX7_judge_37 ?_
          refine lv_bipush (v := 40) hx hb dX7_judge_40 (by decide) ?_
          refine lv_iload_n hx hb dX7_judge_42 rfl (lv_at hl 3 rfl) ?_
          refine lv_imul hx hb dX7_judge_43 ?_
          refine lv_iload_n hx hb dX7_judge_44 rfl (lv_at hl 0 rfl) ?_
          refine lv_iadd hx hb dX7_judge_45 ?_
          refine lv_as (y := (nI (40 * nN sn + i))) ((congrArg (fun z => 40 * z + nI i) hh1).trans (ix_40 _ _)) ?_
          refine g_iald C hX hP 9 (by decide) (shM_9 G ad _) (40 * nN sn + i) (by omega) (by decide) dX7_judge_46 ?_
          refine lv_aload_n hx hb dX7_judge_47 rfl (lv_at hl 2 rfl) ?_
          refine lv_iload_n hx hb dX7_judge_48 rfl (lv_at hl 0 rfl) ?_
          refine lv_iconst (v := 5) hx hb dX7_judge_49 (by decide) ?_
          refine g_rd (g_runV (As := [.int (nI i), .int 5]) (rest := [.int (σ 9 (40 * nN sn + i))]) ky_yX7_its lk_RX7_58 C hX (gS_b0 hI hS) hP 0 (c_yX7_its l G ad hI σ i 5 (by omega) (by decide)) (by decide) (shM_0 G ad _) ⟨rfl, rfl, by decide, by decide⟩ rfl hl.1 rfl (Nat.le_of_ble_eq_true rfl) ⟨Nat.zero_le _, Nat.zero_le _⟩ dX7_judge_50) ?_
          refine lv_icmp_eq (tgt := 60) hx hb dX7_judge_53 (by decide) (fun c5 => ?_) (fun c5 => ?_)
          · refine lv_iinc (v := (nI (i + 1))) (lv' := [(3, .int (nI (i + 1))), (2, .int (m_whyNone σ sn)), (0, .ref (ad 0)), (1, .int sn)]) hx hb dX7_judge_60 hl (k := 0) rfl (by exact nI_1 _) (by decide) rfl (fun ls hl => ?_)
            refine lv_goto (tgt := 18) hx hb dX7_judge_63 (by decide) ?_
            exact ih18 (i + 1) _ _ _ (by omega) (by rw [hres18, m_judge_L18, if_neg c4, if_pos c5]) hP hS (lv_sub hl [0, 1, 2, 3] rfl)
          · refine lv_iconst (v := 1) hx hb dX7_judge_56 (by decide) ?_
            refine lv_iload_n hx hb dX7_judge_57 rfl (lv_at hl 0 rfl) ?_
            refine lv_iadd hx hb dX7_judge_58 ?_
            exact g_iretM C hr hlk rfl (by rw [hres18, m_judge_L18, if_neg c4, if_neg c5]) hP hS dX7_judge_59
  · obtain ⟨hy1, hy2⟩ := why_nat c1
    refine lv_aload_n hx hb dX7_judge_10 rfl (lv_at hl 1 rfl) ?_
    refine lv_iload_n hx hb dX7_judge_11 rfl (lv_at hl 0 rfl) ?_
    refine lv_as (y := (nI (nN (m_whyNone σ sn)))) hy1 ?_
    refine g_wrI0 hS (g_runV (As := [.int (nI (nN (m_whyNone σ sn)))]) (rest := []) ky_yX7_finds lk_RX7_128 C hX (gS_b0 hI hS) hP 0 (c_yX7_finds l G ad hI σ (nN (m_whyNone σ sn)) hy2) (by decide) (shM_0 G ad _) ⟨rfl, rfl, by decide, by decide⟩ rfl hl.1 rfl (Nat.le_of_ble_eq_true rfl) ⟨Nat.zero_le _, Nat.zero_le _⟩ dX7_judge_12) (fun H locs hP hS => ?_)
    exact g_iretM C hr hlk rfl (by rw [m_judge, if_neg c1]) hP hS dX7_judge_15

def m_image_m1 (σ : gM) (σ1 : gM) : Int32 × gM := (1, (mset σ1 0 0 1))
def m_image (σ : gM) : Int32 × gM := (m_image_m1 σ (m_copies σ 1 4))
def rm_yX7_image : Room := { frames := 1, cells := 0, slots := 0, locals := 22 }
set_option maxHeartbeats 4000000 in
set_option maxRecDepth 100000 in
theorem c_yX7_image (l : Launch) (G : gG) (ad : Nat → Nat) (hI : gI G.2.2.1 11 ad) (σ : gM) : gMutI l yX7_image cX7_image 1 (some .int) rm_yX7_image G [.ref (ad 0)] 11 ad (shM G ad) σ (m_image σ) := by
  refine g_start [.ref (ad 0)] (by decide +kernel) (Nat.le_of_ble_eq_true rfl) ?_
  intro p e s m below meth c ls B Z hl
  obtain ⟨C, hr, hlk⟩ := B
  have hx := C.1
  have hb := C.2.1
  obtain ⟨hX, hP⟩ := Z
  have hS : va_S (gA 11 ad) s.heap s.heap [] := va_S.rf
  revert hP hS
  intro hP hS
  have hl : lv_has ls 1 [(0, .ref (ad 0))] := hl
  refine lv_aload_n hx hb dX7_image_0 rfl (lv_at hl 0 rfl) ?_
  refine g_get fd_RX7_7 C hX hP 0 (by decide) (shM_0 G ad _) (v := .ref (ad 1)) rfl dX7_image_1 ?_
  refine lv_aload_n hx hb dX7_image_4 rfl (lv_at hl 0 rfl) ?_
  refine g_get fd_RX7_19 C hX hP 0 (by decide) (shM_0 G ad _) (v := .ref (ad 4)) rfl dX7_image_5 ?_
  refine g_wrV0 hS (g_runSW (As := [.ref (ad 1), .ref (ad 4)]) (rest := []) ky_yX7_copies lk_RX7_167 C hX (gS_b0 hI hS) hP (c_yX7_copies l G ad hI σ 1 4 (by decide) (by decide) (fun _ => rfl) (fun _ => rfl)) ⟨rfl, rfl, by decide, by decide⟩ rfl hl.1 rfl (Nat.le_of_ble_eq_true rfl) ⟨Nat.zero_le _, Nat.zero_le _⟩ dX7_image_8) (fun H locs hP hS => ?_)
  obtain ⟨σ1, eσ1⟩ : ∃ τ_ : gM, τ_ = (m_copies σ 1 4) := ⟨_, rfl⟩
  rw [← eσ1] at hP
  refine lv_aload_n hx hb dX7_image_11 rfl (lv_at hl 0 rfl) ?_
  refine lv_iconst (v := 1) hx hb dX7_image_12 (by decide) ?_
  refine g_put fd_RX7_312 C hX hI hP hS 0 (by decide) (shM_0 G ad _) rfl rfl (Nat.le_of_ble_eq_true rfl) (upd (σ1 0) 0 1) rfl dX7_image_13 (fun H locs hP hS => ?_)
  have hP : gP G.1 11 ad (gE (shM G ad) (mset σ1 0 0 1)) H := hP
  refine lv_iconst (v := 1) hx hb dX7_image_16 (by decide) ?_
  exact g_iretM C hr hlk rfl (by rw [m_image, ← eσ1, m_image_m1]) hP hS dX7_image_17

def m_undo (σ : gM) : Int32 × gM := if (σ 0 0) = 0 then ((m_finds σ 3).1, (m_finds σ 3).2) else (((m_copies σ 4 1) 1 1), (m_copies σ 4 1))
def rm_yX7_undo : Room := { frames := 1, cells := 0, slots := 0, locals := 22 }
set_option maxHeartbeats 4000000 in
set_option maxRecDepth 100000 in
theorem c_yX7_undo (l : Launch) (G : gG) (ad : Nat → Nat) (hI : gI G.2.2.1 11 ad) (σ : gM) : gMutI l yX7_undo cX7_undo 1 (some .int) rm_yX7_undo G [.ref (ad 0)] 11 ad (shM G ad) σ (m_undo σ) := by
  refine g_start [.ref (ad 0)] (by decide +kernel) (Nat.le_of_ble_eq_true rfl) ?_
  intro p e s m below meth c ls B Z hl
  obtain ⟨C, hr, hlk⟩ := B
  have hx := C.1
  have hb := C.2.1
  obtain ⟨hX, hP⟩ := Z
  have hS : va_S (gA 11 ad) s.heap s.heap [] := va_S.rf
  revert hP hS
  intro hP hS
  have hl : lv_has ls 1 [(0, .ref (ad 0))] := hl
  refine lv_aload_n hx hb dX7_undo_0 rfl (lv_at hl 0 rfl) ?_
  refine g_get fd_RX7_312 C hX hP 0 (by decide) (shM_0 G ad _) (v := .int (σ 0 0)) rfl dX7_undo_1 ?_
  refine lv_if_ne (tgt := 13) hx hb dX7_undo_4 (by decide) (fun c1 => ?_) (fun c1 => ?_)
  · refine lv_aload_n hx hb dX7_undo_13 rfl (lv_at hl 0 rfl) ?_
    refine g_get fd_RX7_19 C hX hP 0 (by decide) (shM_0 G ad _) (v := .ref (ad 4)) rfl dX7_undo_14 ?_
    refine lv_aload_n hx hb dX7_undo_17 rfl (lv_at hl 0 rfl) ?_
    refine g_get fd_RX7_7 C hX hP 0 (by decide) (shM_0 G ad _) (v := .ref (ad 1)) rfl dX7_undo_18 ?_
    refine g_wrV0 hS (g_runSW (As := [.ref (ad 4), .ref (ad 1)]) (rest := []) ky_yX7_copies lk_RX7_167 C hX (gS_b0 hI hS) hP (c_yX7_copies l G ad hI σ 4 1 (by decide) (by decide) (fun _ => rfl) (fun _ => rfl)) ⟨rfl, rfl, by decide, by decide⟩ rfl hl.1 rfl (Nat.le_of_ble_eq_true rfl) ⟨Nat.zero_le _, Nat.zero_le _⟩ dX7_undo_21) (fun H locs hP hS => ?_)
    refine lv_aload_n hx hb dX7_undo_24 rfl (lv_at hl 0 rfl) ?_
    refine g_get fd_RX7_7 C hX hP 0 (by decide) (shM_0 G ad _) (v := .ref (ad 1)) rfl dX7_undo_25 ?_
    refine lv_iconst (v := 1) hx hb dX7_undo_28 (by decide) ?_
    refine lv_as (y := nI 1) rfl ?_
    refine g_iald C hX hP 1 (by decide) (shM_1 G ad _) 1 (by omega) (by decide) dX7_undo_29 ?_
    exact g_iretM C hr hlk rfl (by rw [m_undo, if_neg c1]) hP hS dX7_undo_30
  · refine lv_aload_n hx hb dX7_undo_7 rfl (lv_at hl 0 rfl) ?_
    refine lv_iconst (v := 3) hx hb dX7_undo_8 (by decide) ?_
    refine g_wrI0 hS (g_runV (As := [.int 3]) (rest := []) ky_yX7_finds lk_RX7_128 C hX (gS_b0 hI hS) hP 0 (c_yX7_finds l G ad hI σ 3 (by decide)) (by decide) (shM_0 G ad _) ⟨rfl, rfl, by decide, by decide⟩ rfl hl.1 rfl (Nat.le_of_ble_eq_true rfl) ⟨Nat.zero_le _, Nat.zero_le _⟩ dX7_undo_9) (fun H locs hP hS => ?_)
    exact g_iretM C hr hlk rfl (by rw [m_undo, if_pos c1]) hP hS dX7_undo_12

def m_tear (σ : gM) : Int32 × gM := if (σ 0 0) = 0 then (0, (mset σ 0 0 0)) else (1, (mset σ 0 0 0))
def rm_yX7_tear : Room := { frames := 0, cells := 0, slots := 0, locals := 0 }
set_option maxHeartbeats 4000000 in
set_option maxRecDepth 100000 in
theorem c_yX7_tear (l : Launch) (G : gG) (ad : Nat → Nat) (hI : gI G.2.2.1 11 ad) (σ : gM) : gMutI l yX7_tear cX7_tear 2 (some .int) rm_yX7_tear G [.ref (ad 0)] 11 ad (shM G ad) σ (m_tear σ) := by
  refine g_start [.ref (ad 0)] (by decide +kernel) (Nat.le_of_ble_eq_true rfl) ?_
  intro p e s m below meth c ls B Z hl
  obtain ⟨C, hr, hlk⟩ := B
  have hx := C.1
  have hb := C.2.1
  obtain ⟨hX, hP⟩ := Z
  have hS : va_S (gA 11 ad) s.heap s.heap [] := va_S.rf
  revert hP hS
  intro hP hS
  have hl : lv_has ls 2 [(0, .ref (ad 0))] := hl
  refine lv_aload_n hx hb dX7_tear_0 rfl (lv_at hl 0 rfl) ?_
  refine g_get fd_RX7_312 C hX hP 0 (by decide) (shM_0 G ad _) (v := .int (σ 0 0)) rfl dX7_tear_1 ?_
  refine lv_if_eq (tgt := 11) hx hb dX7_tear_4 (by decide) (fun c1 => ?_) (fun c1 => ?_)
  · refine lv_iconst (v := 0) hx hb dX7_tear_11 (by decide) ?_
    refine lv_istore_n (lv' := [(1, .int 0), (0, .ref (ad 0))]) hx hb dX7_tear_12 rfl hl (by decide) rfl (fun ls hl => ?_)
    refine lv_aload_n hx hb dX7_tear_13 rfl (lv_at hl 1 rfl) ?_
    refine lv_iconst (v := 0) hx hb dX7_tear_14 (by decide) ?_
    refine g_put fd_RX7_312 C hX hI hP hS 0 (by decide) (shM_0 G ad _) rfl rfl (Nat.le_of_ble_eq_true rfl) (upd (σ 0) 0 0) rfl dX7_tear_15 (fun H locs hP hS => ?_)
    have hP : gP G.1 11 ad (gE (shM G ad) (mset σ 0 0 0)) H := hP
    refine lv_iload_n hx hb dX7_tear_18 rfl (lv_at hl 0 rfl) ?_
    exact g_iretM C hr hlk rfl (by rw [m_tear, if_pos c1]) hP hS dX7_tear_19
  · refine lv_iconst (v := 1) hx hb dX7_tear_7 (by decide) ?_
    refine lv_goto (tgt := 12) hx hb dX7_tear_8 (by decide) ?_
    refine lv_istore_n (lv' := [(1, .int 1), (0, .ref (ad 0))]) hx hb dX7_tear_12 rfl hl (by decide) rfl (fun ls hl => ?_)
    refine lv_aload_n hx hb dX7_tear_13 rfl (lv_at hl 1 rfl) ?_
    refine lv_iconst (v := 0) hx hb dX7_tear_14 (by decide) ?_
    refine g_put fd_RX7_312 C hX hI hP hS 0 (by decide) (shM_0 G ad _) rfl rfl (Nat.le_of_ble_eq_true rfl) (upd (σ 0) 0 0) rfl dX7_tear_15 (fun H locs hP hS => ?_)
    have hP : gP G.1 11 ad (gE (shM G ad) (mset σ 0 0 0)) H := hP
    refine lv_iload_n hx hb dX7_tear_18 rfl (lv_at hl 0 rfl) ?_
    exact g_iretM C hr hlk rfl (by rw [m_tear, if_neg c1]) hP hS dX7_tear_19

def m_holding_L4 (σ : gM) : Nat → Nat → Int32 → Int32
  | 0, i, acc => acc
  | n4 + 1, i, acc => if (σ 1 (65 + i)) ≤ 0 then (m_holding_L4 σ n4 (i + 1) (acc + 0)) else (m_holding_L4 σ n4 (i + 1) (acc + 1))
def m_holding (σ : gM) : Int32 := (m_holding_L4 σ 10 0 0)
def rm_yX7_holding : Room := { frames := 0, cells := 0, slots := 0, locals := 0 }
set_option maxHeartbeats 4000000 in
set_option maxRecDepth 100000 in
theorem c_yX7_holding (l : Launch) (G : gG) (ad : Nat → Nat) (hI : gI G.2.2.1 11 ad) (σ : gM) : gRead l yX7_holding cX7_holding 3 (some .int) rm_yX7_holding G [.ref (ad 0)] 11 ad (gE (shM G ad) σ) (m_holding σ) := by
  refine g_start [.ref (ad 0)] (by decide +kernel) (Nat.le_of_ble_eq_true rfl) ?_
  intro p e s m below meth c ls B Z hl
  obtain ⟨C, hr, hlk⟩ := B
  have hx := C.1
  have hb := C.2.1
  obtain ⟨hX, hP⟩ := Z
  have hS : va_S (gA 11 ad) s.heap s.heap [] := va_S.rf
  have hl : lv_has ls 3 [(0, .ref (ad 0))] := hl
  refine lv_iconst (v := 0) hx hb dX7_holding_0 (by decide) ?_
  refine lv_istore_n (lv' := [(1, .int 0), (0, .ref (ad 0))]) hx hb dX7_holding_1 rfl hl (by decide) rfl (fun ls hl => ?_)
  refine lv_iconst (v := 0) hx hb dX7_holding_2 (by decide) ?_
  refine lv_istore_n (lv' := [(2, .int 0), (1, .int 0), (0, .ref (ad 0))]) hx hb dX7_holding_3 rfl hl (by decide) rfl (fun ls hl => ?_)
  suffices loop4 : ∀ (n4 : Nat) (i : Nat) (acc : Int32) (ls : Array Slot), (i + n4 = 10) → m_holding σ = (m_holding_L4 σ n4 i acc) → lv_has ls 3 [(2, .int (nI i)), (1, .int acc), (0, .ref (ad 0))] → W p l e rm_yX7_holding s m ([.ref (ad 0)] : List Value).toArray below meth c s.heap [] 0 0 (MQ below (vp_Si (fun x => x = m_holding σ)) ([.ref (ad 0)] : List Value).toArray s 0 0 (fun _ => False)) (F0 m 4 ls []) by
    exact loop4 10 0 0 _ (by omega) (by rw [m_holding]) (lv_sub hl [0, 1, 2] rfl)
  intro n4
  induction n4 with
  | zero =>
    intro i acc ls hi4 hres4 hl
    refine lv_iload_n hx hb dX7_holding_4 rfl (lv_at hl 0 rfl) ?_
    refine lv_bipush (v := 10) hx hb dX7_holding_5 (by decide) ?_
    refine lv_icmp_ge (tgt := 36) hx hb dX7_holding_7 (by decide) (fun c1 => ?_) (fun c1 => ?_)
    · refine lv_iload_n hx hb dX7_holding_36 rfl (lv_at hl 1 rfl) ?_
      exact g_iret C hr hlk rfl (by rw [hres4, m_holding_L4]) rfl rfl dX7_holding_37
    · exact absurd (show nI (10) ≤ nI i from nI_le (by omega) (by omega)) c1
  | succ n4 ih4 =>
    intro i acc ls hi4 hres4 hl
    refine lv_iload_n hx hb dX7_holding_4 rfl (lv_at hl 0 rfl) ?_
    refine lv_bipush (v := 10) hx hb dX7_holding_5 (by decide) ?_
    refine lv_icmp_ge (tgt := 36) hx hb dX7_holding_7 (by decide) (fun c2 => ?_) (fun c2 => ?_)
    · exact absurd (show nI (10) ≤ nI i from c2) (nI_ge (by omega) (by omega))
    · refine lv_iload_n hx hb dX7_holding_10 rfl (lv_at hl 1 rfl) ?_
      refine lv_aload_n hx hb dX7_holding_11 rfl (lv_at hl 2 rfl) ?_
      refine g_get fd_RX7_7 C hX hP 0 (by decide) (shM_0 G ad _) (v := .ref (ad 1)) rfl dX7_holding_12 ?_
      refine lv_bipush (v := 65) hx hb dX7_holding_15 (by decide) ?_
      refine lv_iload_n hx hb dX7_holding_17 rfl (lv_at hl 0 rfl) ?_
      refine lv_iadd hx hb dX7_holding_18 ?_
      refine lv_as (y := (nI (65 + i))) (ix_65 _) ?_
      refine g_iald C hX hP 1 (by decide) (shM_1 G ad _) (65 + i) (by omega) (by decide) dX7_holding_19 ?_
      refine lv_if_le (tgt := 27) hx hb dX7_holding_20 (by decide) (fun c3 => ?_) (fun c3 => ?_)
      · refine lv_iconst (v := 0) hx hb dX7_holding_27 (by decide) ?_
        refine lv_iadd hx hb dX7_holding_28 ?_
        refine lv_istore_n (lv' := [(1, .int (acc + 0)), (2, .int (nI i)), (0, .ref (ad 0))]) hx hb dX7_holding_29 rfl hl (by decide) rfl (fun ls hl => ?_)
        refine lv_iinc (v := (nI (i + 1))) (lv' := [(2, .int (nI (i + 1))), (1, .int (acc + 0)), (0, .ref (ad 0))]) hx hb dX7_holding_30 hl (k := 1) rfl (by exact nI_1 _) (by decide) rfl (fun ls hl => ?_)
        refine lv_goto (tgt := 4) hx hb dX7_holding_33 (by decide) ?_
        exact ih4 (i + 1) (acc + 0) _ (by omega) (by rw [hres4, m_holding_L4, if_pos c3]) (lv_sub hl [0, 1, 2] rfl)
      · refine lv_iconst (v := 1) hx hb dX7_holding_23 (by decide) ?_
        refine lv_goto (tgt := 28) hx hb dX7_holding_24 (by decide) ?_
        refine lv_iadd hx hb dX7_holding_28 ?_
        refine lv_istore_n (lv' := [(1, .int (acc + 1)), (2, .int (nI i)), (0, .ref (ad 0))]) hx hb dX7_holding_29 rfl hl (by decide) rfl (fun ls hl => ?_)
        refine lv_iinc (v := (nI (i + 1))) (lv' := [(2, .int (nI (i + 1))), (1, .int (acc + 1)), (0, .ref (ad 0))]) hx hb dX7_holding_30 hl (k := 1) rfl (by exact nI_1 _) (by decide) rfl (fun ls hl => ?_)
        refine lv_goto (tgt := 4) hx hb dX7_holding_33 (by decide) ?_
        exact ih4 (i + 1) (acc + 1) _ (by omega) (by rw [hres4, m_holding_L4, if_neg c3]) (lv_sub hl [0, 1, 2] rfl)

def m_count (σ : gM) (what : Int32) : Int32 × gM := if what = 0 then ((σ 1 1), σ) else (if what = 1 then ((σ 1 0), σ) else (if what = 2 then ((m_ones (m_allKnow σ)), σ) else (if what = 3 then ((m_ones (m_allHands σ)), σ) else (if what = 4 then ((m_allDrawn σ), σ) else (if what = 5 then ((σ 0 1), σ) else (if what = 6 then ((σ 1 2), σ) else (if what = 7 then ((m_holding σ), σ) else ((m_finds σ 0).1, (m_finds σ 0).2))))))))
def rm_yX7_count : Room := { frames := 3, cells := 0, slots := 0, locals := 66 }
set_option maxHeartbeats 4000000 in
set_option maxRecDepth 100000 in
theorem c_yX7_count (l : Launch) (G : gG) (ad : Nat → Nat) (hI : gI G.2.2.1 11 ad) (σ : gM) (what : Int32) (N : Nat) (hN : N ≤ 8) (hs : σ 1 0 = nI N) : gMutI l yX7_count cX7_count 2 (some .int) rm_yX7_count G [.ref (ad 0), .int what] 11 ad (shM G ad) σ (m_count σ what) := by
  refine g_start [.ref (ad 0), .int what] (by decide +kernel) (Nat.le_of_ble_eq_true rfl) ?_
  intro p e s m below meth c ls B Z hl
  obtain ⟨C, hr, hlk⟩ := B
  have hx := C.1
  have hb := C.2.1
  obtain ⟨hX, hP⟩ := Z
  have hS : va_S (gA 11 ad) s.heap s.heap [] := va_S.rf
  revert hP hS
  intro hP hS
  have hl : lv_has ls 2 [(0, .ref (ad 0)), (1, .int what)] := hl
  refine lv_iload_n hx hb dX7_count_0 rfl (lv_at hl 1 rfl) ?_
  by_cases c1 : what = 0
  · refine lv_as (y := 0) c1 ?_
    refine lv_tableIn (tgt := 48) (off := 47) hx hb dX7_count_1 (by decide) (by decide) (by decide) (by decide) ?_
    refine lv_aload_n hx hb dX7_count_48 rfl (lv_at hl 0 rfl) ?_
    refine g_get fd_RX7_7 C hX hP 0 (by decide) (shM_0 G ad _) (v := .ref (ad 1)) rfl dX7_count_49 ?_
    refine lv_iconst (v := 1) hx hb dX7_count_52 (by decide) ?_
    refine lv_as (y := nI 1) rfl ?_
    refine g_iald C hX hP 1 (by decide) (shM_1 G ad _) 1 (by omega) (by decide) dX7_count_53 ?_
    exact g_iretM C hr hlk rfl (by rw [m_count, if_pos c1]) hP hS dX7_count_54
  by_cases c2 : what = 1
  · refine lv_as (y := 1) c2 ?_
    refine lv_tableIn (tgt := 55) (off := 54) hx hb dX7_count_1 (by decide) (by decide) (by decide) (by decide) ?_
    refine lv_aload_n hx hb dX7_count_55 rfl (lv_at hl 0 rfl) ?_
    refine g_get fd_RX7_7 C hX hP 0 (by decide) (shM_0 G ad _) (v := .ref (ad 1)) rfl dX7_count_56 ?_
    refine lv_iconst (v := 0) hx hb dX7_count_59 (by decide) ?_
    refine lv_as (y := nI 0) rfl ?_
    refine g_iald C hX hP 1 (by decide) (shM_1 G ad _) 0 (by omega) (by decide) dX7_count_60 ?_
    exact g_iretM C hr hlk rfl (by rw [m_count, if_neg c1, if_pos c2]) hP hS dX7_count_61
  by_cases c3 : what = 2
  · refine lv_as (y := 2) c3 ?_
    refine lv_tableIn (tgt := 62) (off := 61) hx hb dX7_count_1 (by decide) (by decide) (by decide) (by decide) ?_
    refine lv_aload_n hx hb dX7_count_62 rfl (lv_at hl 0 rfl) ?_
    refine g_rd (g_runV (As := []) (rest := []) ky_yX7_allKnow lk_RX7_155 C hX (gS_b0 hI hS) hP 0 (c_yX7_allKnow l G ad hI σ  N hN hs) (by decide) (shM_0 G ad _) ⟨rfl, rfl, by decide, by decide⟩ rfl hl.1 rfl (Nat.le_of_ble_eq_true rfl) ⟨Nat.zero_le _, Nat.zero_le _⟩ dX7_count_63) ?_
    refine g_rd (g_runS (As := [.int (m_allKnow σ)]) (rest := []) ky_yX7_ones lk_RX7_84 C (c_yX7_ones l (m_allKnow σ)) ⟨rfl, rfl, by decide, by decide⟩ rfl hl.1 rfl (Nat.le_of_ble_eq_true rfl) ⟨Nat.zero_le _, Nat.zero_le _⟩ dX7_count_66) ?_
    exact g_iretM C hr hlk rfl (by rw [m_count, if_neg c1, if_neg c2, if_pos c3]) hP hS dX7_count_69
  by_cases c4 : what = 3
  · refine lv_as (y := 3) c4 ?_
    refine lv_tableIn (tgt := 70) (off := 69) hx hb dX7_count_1 (by decide) (by decide) (by decide) (by decide) ?_
    refine lv_aload_n hx hb dX7_count_70 rfl (lv_at hl 0 rfl) ?_
    refine g_rd (g_runV (As := []) (rest := []) ky_yX7_allHands lk_RX7_158 C hX (gS_b0 hI hS) hP 0 (c_yX7_allHands l G ad hI σ  N hN hs) (by decide) (shM_0 G ad _) ⟨rfl, rfl, by decide, by decide⟩ rfl hl.1 rfl (Nat.le_of_ble_eq_true rfl) ⟨Nat.zero_le _, Nat.zero_le _⟩ dX7_count_71) ?_
    refine g_rd (g_runS (As := [.int (m_allHands σ)]) (rest := []) ky_yX7_ones lk_RX7_84 C (c_yX7_ones l (m_allHands σ)) ⟨rfl, rfl, by decide, by decide⟩ rfl hl.1 rfl (Nat.le_of_ble_eq_true rfl) ⟨Nat.zero_le _, Nat.zero_le _⟩ dX7_count_74) ?_
    exact g_iretM C hr hlk rfl (by rw [m_count, if_neg c1, if_neg c2, if_neg c3, if_pos c4]) hP hS dX7_count_77
  by_cases c5 : what = 4
  · refine lv_as (y := 4) c5 ?_
    refine lv_tableIn (tgt := 78) (off := 77) hx hb dX7_count_1 (by decide) (by decide) (by decide) (by decide) ?_
    refine lv_aload_n hx hb dX7_count_78 rfl (lv_at hl 0 rfl) ?_
    refine g_rd (g_runV (As := []) (rest := []) ky_yX7_allDrawn lk_RX7_161 C hX (gS_b0 hI hS) hP 0 (c_yX7_allDrawn l G ad hI σ  N hN hs) (by decide) (shM_0 G ad _) ⟨rfl, rfl, by decide, by decide⟩ rfl hl.1 rfl (Nat.le_of_ble_eq_true rfl) ⟨Nat.zero_le _, Nat.zero_le _⟩ dX7_count_79) ?_
    exact g_iretM C hr hlk rfl (by rw [m_count, if_neg c1, if_neg c2, if_neg c3, if_neg c4, if_pos c5]) hP hS dX7_count_82
  by_cases c6 : what = 5
  · refine lv_as (y := 5) c6 ?_
    refine lv_tableIn (tgt := 83) (off := 82) hx hb dX7_count_1 (by decide) (by decide) (by decide) (by decide) ?_
    refine lv_aload_n hx hb dX7_count_83 rfl (lv_at hl 0 rfl) ?_
    refine g_get fd_RX7_205 C hX hP 0 (by decide) (shM_0 G ad _) (v := .int (σ 0 1)) rfl dX7_count_84 ?_
    exact g_iretM C hr hlk rfl (by rw [m_count, if_neg c1, if_neg c2, if_neg c3, if_neg c4, if_neg c5, if_pos c6]) hP hS dX7_count_87
  by_cases c7 : what = 6
  · refine lv_as (y := 6) c7 ?_
    refine lv_tableIn (tgt := 88) (off := 87) hx hb dX7_count_1 (by decide) (by decide) (by decide) (by decide) ?_
    refine lv_aload_n hx hb dX7_count_88 rfl (lv_at hl 0 rfl) ?_
    refine g_get fd_RX7_7 C hX hP 0 (by decide) (shM_0 G ad _) (v := .ref (ad 1)) rfl dX7_count_89 ?_
    refine lv_iconst (v := 2) hx hb dX7_count_92 (by decide) ?_
    refine lv_as (y := nI 2) rfl ?_
    refine g_iald C hX hP 1 (by decide) (shM_1 G ad _) 2 (by omega) (by decide) dX7_count_93 ?_
    exact g_iretM C hr hlk rfl (by rw [m_count, if_neg c1, if_neg c2, if_neg c3, if_neg c4, if_neg c5, if_neg c6, if_pos c7]) hP hS dX7_count_94
  by_cases c8 : what = 7
  · refine lv_as (y := 7) c8 ?_
    refine lv_tableIn (tgt := 95) (off := 94) hx hb dX7_count_1 (by decide) (by decide) (by decide) (by decide) ?_
    refine lv_aload_n hx hb dX7_count_95 rfl (lv_at hl 0 rfl) ?_
    refine g_rd (g_runV (As := []) (rest := []) ky_yX7_holding lk_RX7_316 C hX (gS_b0 hI hS) hP 0 (c_yX7_holding l G ad hI σ ) (by decide) (shM_0 G ad _) ⟨rfl, rfl, by decide, by decide⟩ rfl hl.1 rfl (Nat.le_of_ble_eq_true rfl) ⟨Nat.zero_le _, Nat.zero_le _⟩ dX7_count_96) ?_
    exact g_iretM C hr hlk rfl (by rw [m_count, if_neg c1, if_neg c2, if_neg c3, if_neg c4, if_neg c5, if_neg c6, if_neg c7, if_pos c8]) hP hS dX7_count_99
  have h9 := lv_neT (a := 0) c1 (by decide)
  have h10 := lv_neT (a := 1) c2 (by decide)
  have h11 := lv_neT (a := 2) c3 (by decide)
  have h12 := lv_neT (a := 3) c4 (by decide)
  have h13 := lv_neT (a := 4) c5 (by decide)
  have h14 := lv_neT (a := 5) c6 (by decide)
  have h15 := lv_neT (a := 6) c7 (by decide)
  have h16 := lv_neT (a := 7) c8 (by decide)
  refine lv_tableOut (tgt := 100) hx hb dX7_count_1 (by omega) (by decide) ?_
  refine lv_aload_n hx hb dX7_count_100 rfl (lv_at hl 0 rfl) ?_
  refine lv_iconst (v := 0) hx hb dX7_count_101 (by decide) ?_
  refine g_wrI0 hS (g_runV (As := [.int 0]) (rest := []) ky_yX7_finds lk_RX7_128 C hX (gS_b0 hI hS) hP 0 (c_yX7_finds l G ad hI σ 0 (by decide)) (by decide) (shM_0 G ad _) ⟨rfl, rfl, by decide, by decide⟩ rfl hl.1 rfl (Nat.le_of_ble_eq_true rfl) ⟨Nat.zero_le _, Nat.zero_le _⟩ dX7_count_102) (fun H locs hP hS => ?_)
  exact g_iretM C hr hlk rfl (by rw [m_count, if_neg c1, if_neg c2, if_neg c3, if_neg c4, if_neg c5, if_neg c6, if_neg c7, if_neg c8]) hP hS dX7_count_105

def m_status_L24 (σ : gM) (which : Int32) : Nat → Nat → Int32 → Int32 × gM
  | 0, i, acc => if 0 ≤ which then ((σ 5 (nN which)), σ) else (acc, σ)
  | n24 + 1, i, acc => (m_status_L24 σ which n24 (i + 1) (acc + (σ 5 i)))
def m_status (σ : gM) (which : Int32) : Int32 × gM := if (m_in ((which).toInt64) (-1) 6) = 0 then ((m_finds σ 0).1, (m_finds σ 0).2) else (m_status_L24 σ which 7 0 0)
def rm_yX7_status : Room := { frames := 1, cells := 0, slots := 0, locals := 25 }
set_option maxHeartbeats 4000000 in
set_option maxRecDepth 100000 in
theorem c_yX7_status (l : Launch) (G : gG) (ad : Nat → Nat) (hI : gI G.2.2.1 11 ad) (σ : gM) (which : Int32) : gMutI l yX7_status cX7_status 4 (some .int) rm_yX7_status G [.ref (ad 0), .int which] 11 ad (shM G ad) σ (m_status σ which) := by
  refine g_start [.ref (ad 0), .int which] (by decide +kernel) (Nat.le_of_ble_eq_true rfl) ?_
  intro p e s m below meth c ls B Z hl
  obtain ⟨C, hr, hlk⟩ := B
  have hx := C.1
  have hb := C.2.1
  obtain ⟨hX, hP⟩ := Z
  have hS : va_S (gA 11 ad) s.heap s.heap [] := va_S.rf
  revert hP hS
  intro hP hS
  have hl : lv_has ls 4 [(0, .ref (ad 0)), (1, .int which)] := hl
  refine lv_iload_n hx hb dX7_status_0 rfl (lv_at hl 1 rfl) ?_
  refine lv_i2l (v := (which).toInt64) hx hb dX7_status_1 rfl ?_
  refine lv_ldc2 hx hb C.2.2.2.1 (C.2.2.2.2 _ kc_RX7_304) dX7_status_2 ?_
  refine lv_ldc2 hx hb C.2.2.2.1 (C.2.2.2.2 _ kc_RX7_133) dX7_status_5 ?_
  refine g_rd (g_runS (As := [.long ((which).toInt64), .long (-1), .long 6]) (rest := []) ky_yX7_in lk_RX7_42 C (c_yX7_in l ((which).toInt64) (-1) 6) ⟨rfl, rfl, by decide, by decide⟩ rfl hl.1 rfl (Nat.le_of_ble_eq_true rfl) ⟨Nat.zero_le _, Nat.zero_le _⟩ dX7_status_8) ?_
  refine lv_if_ne (tgt := 20) hx hb dX7_status_11 (by decide) (fun c1 => ?_) (fun c1 => ?_)
  · have hq := c1
    refine lv_iconst (v := 0) hx hb dX7_status_20 (by decide) ?_
    refine lv_istore_n (lv' := [(2, .int 0), (0, .ref (ad 0)), (1, .int which)]) hx hb dX7_status_21 rfl hl (by decide) rfl (fun ls hl => ?_)
    refine lv_iconst (v := 0) hx hb dX7_status_22 (by decide) ?_
    refine lv_istore_n (lv' := [(3, .int 0), (2, .int 0), (0, .ref (ad 0)), (1, .int which)]) hx hb dX7_status_23 rfl hl (by decide) rfl (fun ls hl => ?_)
    suffices loop24 : ∀ (n24 : Nat) (i : Nat) (acc : Int32) (H : Heap) (locs : List Loc) (ls : Array Slot), (i + n24 = 7) → m_status σ which = (m_status_L24 σ which n24 i acc) → gP G.1 11 ad (gE (shM G ad) σ) H → va_S (gA 11 ad) s.heap H locs → lv_has ls 4 [(3, .int (nI i)), (2, .int acc), (0, .ref (ad 0)), (1, .int which)] → W p l e rm_yX7_status s m ([.ref (ad 0), .int which] : List Value).toArray below meth c H locs 0 0 (MQ below (va_Qi (fun (x : Int32) (τ : gM) => m_status σ which = (x, τ)) (fun τ t => gP G.1 11 ad (gE (shM G ad) τ) t.heap) (gA 11 ad)) ([.ref (ad 0), .int which] : List Value).toArray s 0 0 (gA 11 ad)) (F0 m 24 ls []) by
      exact loop24 7 0 0 _ _ _ (by omega) (by rw [m_status, if_neg c1]) hP hS (lv_sub hl [0, 1, 2, 3] rfl)
    intro n24
    induction n24 with
    | zero =>
      intro i acc H locs ls hi24 hres24 hP hS hl
      refine lv_iload_n hx hb dX7_status_24 rfl (lv_at hl 0 rfl) ?_
      refine lv_bipush (v := 7) hx hb dX7_status_25 (by decide) ?_
      refine lv_icmp_ge (tgt := 45) hx hb dX7_status_27 (by decide) (fun c2 => ?_) (fun c2 => ?_)
      · refine lv_iload_n hx hb dX7_status_45 rfl (lv_at hl 3 rfl) ?_
        refine lv_if_ge (tgt := 53) hx hb dX7_status_46 (by decide) (fun c3 => ?_) (fun c3 => ?_)
        · obtain ⟨hw1, hw2⟩ := in_m1 hq c3
          refine lv_aload_n hx hb dX7_status_53 rfl (lv_at hl 2 rfl) ?_
          refine g_get fd_RX7_22 C hX hP 0 (by decide) (shM_0 G ad _) (v := .ref (ad 5)) rfl dX7_status_54 ?_
          refine lv_iload_n hx hb dX7_status_57 rfl (lv_at hl 3 rfl) ?_
          refine lv_as (y := (nI (nN which))) hw1 ?_
          refine g_iald C hX hP 5 (by decide) (shM_5 G ad _) (nN which) (by omega) (by decide) dX7_status_58 ?_
          exact g_iretM C hr hlk rfl (by rw [hres24, m_status_L24, if_pos c3]) hP hS dX7_status_59
        · refine lv_iload_n hx hb dX7_status_49 rfl (lv_at hl 1 rfl) ?_
          refine lv_goto (tgt := 59) hx hb dX7_status_50 (by decide) ?_
          exact g_iretM C hr hlk rfl (by rw [hres24, m_status_L24, if_neg c3]) hP hS dX7_status_59
      · exact absurd (show nI (7) ≤ nI i from nI_le (by omega) (by omega)) c2
    | succ n24 ih24 =>
      intro i acc H locs ls hi24 hres24 hP hS hl
      refine lv_iload_n hx hb dX7_status_24 rfl (lv_at hl 0 rfl) ?_
      refine lv_bipush (v := 7) hx hb dX7_status_25 (by decide) ?_
      refine lv_icmp_ge (tgt := 45) hx hb dX7_status_27 (by decide) (fun c4 => ?_) (fun c4 => ?_)
      · exact absurd (show nI (7) ≤ nI i from c4) (nI_ge (by omega) (by omega))
      · refine lv_iload_n hx hb dX7_status_30 rfl (lv_at hl 1 rfl) ?_
        refine lv_aload_n hx hb dX7_status_31 rfl (lv_at hl 2 rfl) ?_
        refine g_get fd_RX7_22 C hX hP 0 (by decide) (shM_0 G ad _) (v := .ref (ad 5)) rfl dX7_status_32 ?_
        refine lv_iload_n hx hb dX7_status_35 rfl (lv_at hl 0 rfl) ?_
        refine g_iald C hX hP 5 (by decide) (shM_5 G ad _) i (by omega) (by decide) dX7_status_36 ?_
        refine lv_iadd hx hb dX7_status_37 ?_
        refine lv_istore_n (lv' := [(2, .int (acc + (σ 5 i))), (3, .int (nI i)), (0, .ref (ad 0)), (1, .int which)]) hx hb dX7_status_38 rfl hl (by decide) rfl (fun ls hl => ?_)
        refine lv_iinc (v := (nI (i + 1))) (lv' := [(3, .int (nI (i + 1))), (2, .int (acc + (σ 5 i))), (0, .ref (ad 0)), (1, .int which)]) hx hb dX7_status_39 hl (k := 1) rfl (by exact nI_1 _) (by decide) rfl (fun ls hl => ?_)
        refine lv_goto (tgt := 24) hx hb dX7_status_42 (by decide) ?_
        exact ih24 (i + 1) (acc + (σ 5 i)) _ _ _ (by omega) (by rw [hres24, m_status_L24]) hP hS (lv_sub hl [0, 1, 2, 3] rfl)
  · refine lv_aload_n hx hb dX7_status_14 rfl (lv_at hl 0 rfl) ?_
    refine lv_iconst (v := 0) hx hb dX7_status_15 (by decide) ?_
    refine g_wrI0 hS (g_runV (As := [.int 0]) (rest := []) ky_yX7_finds lk_RX7_128 C hX (gS_b0 hI hS) hP 0 (c_yX7_finds l G ad hI σ 0 (by decide)) (by decide) (shM_0 G ad _) ⟨rfl, rfl, by decide, by decide⟩ rfl hl.1 rfl (Nat.le_of_ble_eq_true rfl) ⟨Nat.zero_le _, Nat.zero_le _⟩ dX7_status_16) (fun H locs hP hS => ?_)
    exact g_iretM C hr hlk rfl (by rw [m_status, if_pos c1]) hP hS dX7_status_19
