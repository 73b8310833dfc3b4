def rm_yX6_init : Room := { frames := 3, cells := 54, slots := 1055, locals := 53 }
set_option maxHeartbeats 4000000 in
set_option maxRecDepth 100000 in
theorem c_yX6_init (l : Launch) (G : gG) (h0 sz : Nat) : gCon l yX6_init cX6_init 2 rm_yX6_init G h0 sz 6 [.null, .null, .null, .int 0, .null, .null, .null, .null] 55 44 (FX6 G) 54 1055 := by
  refine g_startC (by decide +kernel) (by decide) ?_
  intro p e s m below meth c ls B hnm hY hsz hW hAb hl
  obtain ⟨C, hr, hlk⟩ := B
  have hx := C.1
  have hb := C.2.1
  have hA : ∀ z : Nat, s.heap.size ≤ z → (z = h0 ∨ sz ≤ z) := fun z hz => Or.inr (by rw [← hsz]; exact hz)
  have hS : va_S (fun z => z = h0 ∨ sz ≤ z) s.heap s.heap [] := va_S.rf
  have hl : lv_has ls 2 [(0, .ref h0)] := hl
  refine lv_aload_n hx hb dX6_init_0 rfl (lv_at hl 0 rfl) ?_
  refine W.objInit hx hb C.2.2.2.1 (C.2.2.2.2 _ lk_RX6_3) (C.2.2.2.2 _ ko_inst) (C.2.2.2.2 _ ko_code) rfl (by rw [C.2.2.1]; exact hl.1) rfl dX6_init_1 (Nat.le_of_ble_eq_true rfl) (Nat.le_of_ble_eq_true rfl) ?_
  refine W.eq (g2 := F0 m 4 ls []) rfl ?_
  refine lv_aload_n hx hb dX6_init_4 rfl (lv_at hl 0 rfl) ?_
  refine n_new (ci := 0) (fs := [.null, .null, .null, .int 0, .int 0, .int 0]) C hY hW hS hA inT0 tyX0 tyX0_ok kl_RX6_9 kn_RX0 ki_RX0 rfl (lt_cases (lt_cases (lt_cases (lt_cases (lt_cases (lt_cases lt_none rfl) rfl) rfl) rfl) rfl) rfl) (by decide) (by decide) dX6_init_5 1 (fun q1 H hW hS => ?_)
  have hW : wW G.1 (fun z => z = h0 ∨ sz ≤ z) (((h0, .inr (6, [.null, .null, .null, .int 0, .null, .null, .null, .null])) :: ((q1, .inr (0, [.null, .null, .null, .int 0, .int 0, .int 0])) :: [])) : va_W) H := hW
  refine lv_dup hx hb dX6_init_8 rfl ?_
  refine n_after hW hS hA 1 rfl (n_runI (rest := [.ref q1, .ref h0]) kcode_yX0_init ki_RX0 kinst_yX0_init kyd_yX0_init rfl lk_RX6_11 C hY hW hS hAb 1 rfl (c_yX0_init l G q1 H.size) ⟨rfl, rfl, by decide, by decide⟩ hl.1 (Nat.le_of_ble_eq_true rfl) ⟨by decide, by decide⟩ dX6_init_9) (fun c2 H locs hc_ hW hS => ?_)
  subst hc_
  have hW : wW G.1 (fun z => z = h0 ∨ sz ≤ z) (((h0, .inr (6, [.null, .null, .null, .int 0, .null, .null, .null, .null])) :: (gl 12 c2 ((FX0 G) c2) ++ [])) : va_W) H := hW
  refine n_put fd_RX6_12 C hnm (fun q_ hq_ => by cases hq_; rfl) hY hW hS 0 rfl rfl rfl (Nat.le_of_ble_eq_true rfl) dX6_init_12 (fun H locs hW hS => ?_)
  have hW : wW G.1 (fun z => z = h0 ∨ sz ≤ z) (((h0, .inr (6, [.ref (c2 8), .null, .null, .int 0, .null, .null, .null, .null])) :: (gl 12 c2 ((FX0 G) c2) ++ [])) : va_W) H := hW
  refine lv_aload_n hx hb dX6_init_15 rfl (lv_at hl 0 rfl) ?_
  refine n_new (ci := 0) (fs := [.null, .null, .null, .int 0, .int 0, .int 0]) C hY hW hS hA inT0 tyX0 tyX0_ok kl_RX6_9 kn_RX0 ki_RX0 rfl (lt_cases (lt_cases (lt_cases (lt_cases (lt_cases (lt_cases lt_none rfl) rfl) rfl) rfl) rfl) rfl) (by decide) (by decide) dX6_init_16 1 (fun q3 H hW hS => ?_)
  have hW : wW G.1 (fun z => z = h0 ∨ sz ≤ z) (((h0, .inr (6, [.ref (c2 8), .null, .null, .int 0, .null, .null, .null, .null])) :: ((q3, .inr (0, [.null, .null, .null, .int 0, .int 0, .int 0])) :: (gl 12 c2 ((FX0 G) c2) ++ []))) : va_W) H := hW
  refine lv_dup hx hb dX6_init_19 rfl ?_
  refine n_after hW hS hA 1 rfl (n_runI (rest := [.ref q3, .ref h0]) kcode_yX0_init ki_RX0 kinst_yX0_init kyd_yX0_init rfl lk_RX6_11 C hY hW hS hAb 1 rfl (c_yX0_init l G q3 H.size) ⟨rfl, rfl, by decide, by decide⟩ hl.1 (Nat.le_of_ble_eq_true rfl) ⟨by decide, by decide⟩ dX6_init_20) (fun c4 H locs hc_ hW hS => ?_)
  subst hc_
  have hW : wW G.1 (fun z => z = h0 ∨ sz ≤ z) (((h0, .inr (6, [.ref (c2 8), .null, .null, .int 0, .null, .null, .null, .null])) :: (gl 12 c4 ((FX0 G) c4) ++ (gl 12 c2 ((FX0 G) c2) ++ []))) : va_W) H := hW
  refine n_put fd_RX6_16 C hnm (fun q_ hq_ => by cases hq_; rfl) hY hW hS 0 rfl rfl rfl (Nat.le_of_ble_eq_true rfl) dX6_init_23 (fun H locs hW hS => ?_)
  have hW : wW G.1 (fun z => z = h0 ∨ sz ≤ z) (((h0, .inr (6, [.ref (c2 8), .ref (c4 8), .null, .int 0, .null, .null, .null, .null])) :: (gl 12 c4 ((FX0 G) c4) ++ (gl 12 c2 ((FX0 G) c2) ++ []))) : va_W) H := hW
  refine lv_aload_n hx hb dX6_init_26 rfl (lv_at hl 0 rfl) ?_
  refine n_new (ci := 0) (fs := [.null, .null, .null, .int 0, .int 0, .int 0]) C hY hW hS hA inT0 tyX0 tyX0_ok kl_RX6_9 kn_RX0 ki_RX0 rfl (lt_cases (lt_cases (lt_cases (lt_cases (lt_cases (lt_cases lt_none rfl) rfl) rfl) rfl) rfl) rfl) (by decide) (by decide) dX6_init_27 1 (fun q5 H hW hS => ?_)
  have hW : wW G.1 (fun z => z = h0 ∨ sz ≤ z) (((h0, .inr (6, [.ref (c2 8), .ref (c4 8), .null, .int 0, .null, .null, .null, .null])) :: ((q5, .inr (0, [.null, .null, .null, .int 0, .int 0, .int 0])) :: (gl 12 c4 ((FX0 G) c4) ++ (gl 12 c2 ((FX0 G) c2) ++ [])))) : va_W) H := hW
  refine lv_dup hx hb dX6_init_30 rfl ?_
  refine n_after hW hS hA 1 rfl (n_runI (rest := [.ref q5, .ref h0]) kcode_yX0_init ki_RX0 kinst_yX0_init kyd_yX0_init rfl lk_RX6_11 C hY hW hS hAb 1 rfl (c_yX0_init l G q5 H.size) ⟨rfl, rfl, by decide, by decide⟩ hl.1 (Nat.le_of_ble_eq_true rfl) ⟨by decide, by decide⟩ dX6_init_31) (fun c6 H locs hc_ hW hS => ?_)
  subst hc_
  have hW : wW G.1 (fun z => z = h0 ∨ sz ≤ z) (((h0, .inr (6, [.ref (c2 8), .ref (c4 8), .null, .int 0, .null, .null, .null, .null])) :: (gl 12 c6 ((FX0 G) c6) ++ (gl 12 c4 ((FX0 G) c4) ++ (gl 12 c2 ((FX0 G) c2) ++ [])))) : va_W) H := hW
  refine n_put fd_RX6_19 C hnm (fun q_ hq_ => by cases hq_; rfl) hY hW hS 0 rfl rfl rfl (Nat.le_of_ble_eq_true rfl) dX6_init_34 (fun H locs hW hS => ?_)
  have hW : wW G.1 (fun z => z = h0 ∨ sz ≤ z) (((h0, .inr (6, [.ref (c2 8), .ref (c4 8), .ref (c6 8), .int 0, .null, .null, .null, .null])) :: (gl 12 c6 ((FX0 G) c6) ++ (gl 12 c4 ((FX0 G) c4) ++ (gl 12 c2 ((FX0 G) c2) ++ [])))) : va_W) H := hW
  refine lv_aload_n hx hb dX6_init_37 rfl (lv_at hl 0 rfl) ?_
  refine lv_iconst (v := 0) hx hb dX6_init_38 (by decide) ?_
  refine n_put fd_RX6_22 C hnm (fun q_ hq_ => by cases hq_; rfl) hY hW hS 0 rfl rfl rfl (Nat.le_of_ble_eq_true rfl) dX6_init_39 (fun H locs hW hS => ?_)
  have hW : wW G.1 (fun z => z = h0 ∨ sz ≤ z) (((h0, .inr (6, [.ref (c2 8), .ref (c4 8), .ref (c6 8), .int 0, .null, .null, .null, .null])) :: (gl 12 c6 ((FX0 G) c6) ++ (gl 12 c4 ((FX0 G) c4) ++ (gl 12 c2 ((FX0 G) c2) ++ [])))) : va_W) H := hW
  refine lv_aload_n hx hb dX6_init_42 rfl (lv_at hl 0 rfl) ?_
  refine n_new (ci := 3) (fs := [.null, .int 0]) C hY hW hS hA inT3 tyX3 tyX3_ok kl_RX6_26 kn_RX3 ki_RX3 rfl (lt_cases (lt_cases lt_none rfl) rfl) (by decide) (by decide) dX6_init_43 1 (fun q7 H hW hS => ?_)
  have hW : wW G.1 (fun z => z = h0 ∨ sz ≤ z) (((h0, .inr (6, [.ref (c2 8), .ref (c4 8), .ref (c6 8), .int 0, .null, .null, .null, .null])) :: ((q7, .inr (3, [.null, .int 0])) :: (gl 12 c6 ((FX0 G) c6) ++ (gl 12 c4 ((FX0 G) c4) ++ (gl 12 c2 ((FX0 G) c2) ++ []))))) : va_W) H := hW
  refine lv_dup hx hb dX6_init_46 rfl ?_
  refine n_after hW hS hA 1 rfl (n_runI (rest := [.ref q7, .ref h0]) kcode_yX3_init ki_RX3 kinst_yX3_init kyd_yX3_init rfl lk_RX6_28 C hY hW hS hAb 1 rfl (c_yX3_init l G q7 H.size) ⟨rfl, rfl, by decide, by decide⟩ hl.1 (Nat.le_of_ble_eq_true rfl) ⟨by decide, by decide⟩ dX6_init_47) (fun c8 H locs hc_ hW hS => ?_)
  subst hc_
  have hW : wW G.1 (fun z => z = h0 ∨ sz ≤ z) (((h0, .inr (6, [.ref (c2 8), .ref (c4 8), .ref (c6 8), .int 0, .null, .null, .null, .null])) :: (gl 2 c8 ((FX3 G) c8) ++ (gl 12 c6 ((FX0 G) c6) ++ (gl 12 c4 ((FX0 G) c4) ++ (gl 12 c2 ((FX0 G) c2) ++ []))))) : va_W) H := hW
  refine n_put fd_RX6_29 C hnm (fun q_ hq_ => by cases hq_; rfl) hY hW hS 0 rfl rfl rfl (Nat.le_of_ble_eq_true rfl) dX6_init_50 (fun H locs hW hS => ?_)
  have hW : wW G.1 (fun z => z = h0 ∨ sz ≤ z) (((h0, .inr (6, [.ref (c2 8), .ref (c4 8), .ref (c6 8), .int 0, .ref (c8 0), .null, .null, .null])) :: (gl 2 c8 ((FX3 G) c8) ++ (gl 12 c6 ((FX0 G) c6) ++ (gl 12 c4 ((FX0 G) c4) ++ (gl 12 c2 ((FX0 G) c2) ++ []))))) : va_W) H := hW
  refine lv_aload_n hx hb dX6_init_53 rfl (lv_at hl 0 rfl) ?_
  refine n_new (ci := 4) (fs := [.null, .int 0, .int 0]) C hY hW hS hA inT4 tyX4 tyX4_ok kl_RX6_33 kn_RX4 ki_RX4 rfl (lt_cases (lt_cases (lt_cases lt_none rfl) rfl) rfl) (by decide) (by decide) dX6_init_54 1 (fun q9 H hW hS => ?_)
  have hW : wW G.1 (fun z => z = h0 ∨ sz ≤ z) (((h0, .inr (6, [.ref (c2 8), .ref (c4 8), .ref (c6 8), .int 0, .ref (c8 0), .null, .null, .null])) :: ((q9, .inr (4, [.null, .int 0, .int 0])) :: (gl 2 c8 ((FX3 G) c8) ++ (gl 12 c6 ((FX0 G) c6) ++ (gl 12 c4 ((FX0 G) c4) ++ (gl 12 c2 ((FX0 G) c2) ++ [])))))) : va_W) H := hW
  refine lv_dup hx hb dX6_init_57 rfl ?_
  refine n_after hW hS hA 1 rfl (n_runI (rest := [.ref q9, .ref h0]) kcode_yX4_init ki_RX4 kinst_yX4_init kyd_yX4_init rfl lk_RX6_35 C hY hW hS hAb 1 rfl (c_yX4_init l G q9 H.size) ⟨rfl, rfl, by decide, by decide⟩ hl.1 (Nat.le_of_ble_eq_true rfl) ⟨by decide, by decide⟩ dX6_init_58) (fun c10 H locs hc_ hW hS => ?_)
  subst hc_
  have hW : wW G.1 (fun z => z = h0 ∨ sz ≤ z) (((h0, .inr (6, [.ref (c2 8), .ref (c4 8), .ref (c6 8), .int 0, .ref (c8 0), .null, .null, .null])) :: (gl 6 c10 ((FX4 G) c10) ++ (gl 2 c8 ((FX3 G) c8) ++ (gl 12 c6 ((FX0 G) c6) ++ (gl 12 c4 ((FX0 G) c4) ++ (gl 12 c2 ((FX0 G) c2) ++ [])))))) : va_W) H := hW
  refine n_put fd_RX6_36 C hnm (fun q_ hq_ => by cases hq_; rfl) hY hW hS 0 rfl rfl rfl (Nat.le_of_ble_eq_true rfl) dX6_init_61 (fun H locs hW hS => ?_)
  have hW : wW G.1 (fun z => z = h0 ∨ sz ≤ z) (((h0, .inr (6, [.ref (c2 8), .ref (c4 8), .ref (c6 8), .int 0, .ref (c8 0), .ref (c10 0), .null, .null])) :: (gl 6 c10 ((FX4 G) c10) ++ (gl 2 c8 ((FX3 G) c8) ++ (gl 12 c6 ((FX0 G) c6) ++ (gl 12 c4 ((FX0 G) c4) ++ (gl 12 c2 ((FX0 G) c2) ++ [])))))) : va_W) H := hW
  refine lv_aload_n hx hb dX6_init_64 rfl (lv_at hl 0 rfl) ?_
  refine lv_iconst (v := 4) hx hb dX6_init_65 (by decide) ?_
  refine n_newq (C0 := "LeftGloves$Sheet") C hY hW hS hA kl_RX6_40 hY.2.2 3 rfl (N := 4) rfl (by decide) (by decide) (by decide) dX6_init_66 1 (fun q11 H hW hS => ?_)
  have hW : wW G.1 (fun z => z = h0 ∨ sz ≤ z) (((h0, .inr (6, [.ref (c2 8), .ref (c4 8), .ref (c6 8), .int 0, .ref (c8 0), .ref (c10 0), .null, .null])) :: ((q11, .inl (G.2.1 3, 4, .inr (.inr (.inr (.inr (fun _ => none)))))) :: (gl 6 c10 ((FX4 G) c10) ++ (gl 2 c8 ((FX3 G) c8) ++ (gl 12 c6 ((FX0 G) c6) ++ (gl 12 c4 ((FX0 G) c4) ++ (gl 12 c2 ((FX0 G) c2) ++ []))))))) : va_W) H := hW
  refine n_put fd_RX6_42 C hnm (fun q_ hq_ => by cases hq_; rfl) hY hW hS 0 rfl rfl rfl (Nat.le_of_ble_eq_true rfl) dX6_init_69 (fun H locs hW hS => ?_)
  have hW : wW G.1 (fun z => z = h0 ∨ sz ≤ z) (((h0, .inr (6, [.ref (c2 8), .ref (c4 8), .ref (c6 8), .int 0, .ref (c8 0), .ref (c10 0), .ref q11, .null])) :: ((q11, .inl (G.2.1 3, 4, .inr (.inr (.inr (.inr (fun _ => none)))))) :: (gl 6 c10 ((FX4 G) c10) ++ (gl 2 c8 ((FX3 G) c8) ++ (gl 12 c6 ((FX0 G) c6) ++ (gl 12 c4 ((FX0 G) c4) ++ (gl 12 c2 ((FX0 G) c2) ++ []))))))) : va_W) H := hW
  refine lv_iconst (v := 0) hx hb dX6_init_72 (by decide) ?_
  refine lv_istore_n (lv' := [(1, .int 0), (0, .ref h0)]) hx hb dX6_init_73 rfl hl (by decide) rfl (fun ls hl => ?_)
  refine lv_iload_n hx hb dX6_init_74 rfl (lv_at hl 0 rfl) ?_
  refine lv_iconst (v := 4) hx hb dX6_init_75 (by decide) ?_
  refine lv_icmp_ge (tgt := 98) hx hb dX6_init_76 (by decide) (fun c_ => absurd c_ (by decide)) (fun c_ => ?_)
  refine lv_aload_n hx hb dX6_init_79 rfl (lv_at hl 1 rfl) ?_
  refine n_get fd_RX6_42 C hY hW 0 rfl (v := .ref q11) rfl dX6_init_80 ?_
  refine lv_iload_n hx hb dX6_init_83 rfl (lv_at hl 0 rfl) ?_
  refine n_new (ci := 2) (fs := [.null, .int 0, .int 0]) C hY hW hS hA inT2 tyX2 tyX2_ok kl_RX6_40 kn_RX2 ki_RX2 rfl (lt_cases (lt_cases (lt_cases lt_none rfl) rfl) rfl) (by decide) (by decide) dX6_init_84 2 (fun q12 H hW hS => ?_)
  have hW : wW G.1 (fun z => z = h0 ∨ sz ≤ z) (((h0, .inr (6, [.ref (c2 8), .ref (c4 8), .ref (c6 8), .int 0, .ref (c8 0), .ref (c10 0), .ref q11, .null])) :: ((q11, .inl (G.2.1 3, 4, .inr (.inr (.inr (.inr (fun _ => none)))))) :: ((q12, .inr (2, [.null, .int 0, .int 0])) :: (gl 6 c10 ((FX4 G) c10) ++ (gl 2 c8 ((FX3 G) c8) ++ (gl 12 c6 ((FX0 G) c6) ++ (gl 12 c4 ((FX0 G) c4) ++ (gl 12 c2 ((FX0 G) c2) ++ [])))))))) : va_W) H := hW
  refine lv_dup hx hb dX6_init_87 rfl ?_
  refine n_after hW hS hA 2 rfl (n_runI (rest := [.ref q12, .int 0, .ref q11]) kcode_yX2_init ki_RX2 kinst_yX2_init kyd_yX2_init rfl lk_RX6_46 C hY hW hS hAb 2 rfl (c_yX2_init l G q12 H.size) ⟨rfl, rfl, by decide, by decide⟩ hl.1 (Nat.le_of_ble_eq_true rfl) ⟨by decide, by decide⟩ dX6_init_88) (fun c13 H locs hc_ hW hS => ?_)
  subst hc_
  have hW : wW G.1 (fun z => z = h0 ∨ sz ≤ z) (((h0, .inr (6, [.ref (c2 8), .ref (c4 8), .ref (c6 8), .int 0, .ref (c8 0), .ref (c10 0), .ref q11, .null])) :: ((q11, .inl (G.2.1 3, 4, .inr (.inr (.inr (.inr (fun _ => none)))))) :: (gl 2 c13 ((FX2 G) c13) ++ (gl 6 c10 ((FX4 G) c10) ++ (gl 2 c8 ((FX3 G) c8) ++ (gl 12 c6 ((FX0 G) c6) ++ (gl 12 c4 ((FX0 G) c4) ++ (gl 12 c2 ((FX0 G) c2) ++ [])))))))) : va_W) H := hW
  refine n_aast C hY hW hS 1 3 2 2 rfl rfl (r := (RX2, TX2, 3)) rfl rfl (i := 0) (by decide) (by decide) (by decide) dX6_init_91 (fun H locs hW hS => ?_)
  have hW : wW G.1 (fun z => z = h0 ∨ sz ≤ z) (((h0, .inr (6, [.ref (c2 8), .ref (c4 8), .ref (c6 8), .int 0, .ref (c8 0), .ref (c10 0), .ref q11, .null])) :: ((q11, .inl (G.2.1 3, 4, .inr (.inr (.inr (.inr (va_up (fun _ => none) 0 (some (c13 0)))))))) :: (gl 2 c13 ((FX2 G) c13) ++ (gl 6 c10 ((FX4 G) c10) ++ (gl 2 c8 ((FX3 G) c8) ++ (gl 12 c6 ((FX0 G) c6) ++ (gl 12 c4 ((FX0 G) c4) ++ (gl 12 c2 ((FX0 G) c2) ++ [])))))))) : va_W) H := hW
  refine lv_iinc (v := 1) (lv' := [(1, .int 1), (0, .ref h0)]) hx hb dX6_init_92 hl (k := 0) rfl (by decide) (by decide) rfl (fun ls hl => ?_)
  refine lv_goto (tgt := 74) hx hb dX6_init_95 (by decide) ?_
  refine lv_iload_n hx hb dX6_init_74 rfl (lv_at hl 0 rfl) ?_
  refine lv_iconst (v := 4) hx hb dX6_init_75 (by decide) ?_
  refine lv_icmp_ge (tgt := 98) hx hb dX6_init_76 (by decide) (fun c_ => absurd c_ (by decide)) (fun c_ => ?_)
  refine lv_aload_n hx hb dX6_init_79 rfl (lv_at hl 1 rfl) ?_
  refine n_get fd_RX6_42 C hY hW 0 rfl (v := .ref q11) rfl dX6_init_80 ?_
  refine lv_iload_n hx hb dX6_init_83 rfl (lv_at hl 0 rfl) ?_
  refine n_new (ci := 2) (fs := [.null, .int 0, .int 0]) C hY hW hS hA inT2 tyX2 tyX2_ok kl_RX6_40 kn_RX2 ki_RX2 rfl (lt_cases (lt_cases (lt_cases lt_none rfl) rfl) rfl) (by decide) (by decide) dX6_init_84 2 (fun q14 H hW hS => ?_)
  have hW : wW G.1 (fun z => z = h0 ∨ sz ≤ z) (((h0, .inr (6, [.ref (c2 8), .ref (c4 8), .ref (c6 8), .int 0, .ref (c8 0), .ref (c10 0), .ref q11, .null])) :: ((q11, .inl (G.2.1 3, 4, .inr (.inr (.inr (.inr (va_up (fun _ => none) 0 (some (c13 0)))))))) :: ((q14, .inr (2, [.null, .int 0, .int 0])) :: (gl 2 c13 ((FX2 G) c13) ++ (gl 6 c10 ((FX4 G) c10) ++ (gl 2 c8 ((FX3 G) c8) ++ (gl 12 c6 ((FX0 G) c6) ++ (gl 12 c4 ((FX0 G) c4) ++ (gl 12 c2 ((FX0 G) c2) ++ []))))))))) : va_W) H := hW
  refine lv_dup hx hb dX6_init_87 rfl ?_
  refine n_after hW hS hA 2 rfl (n_runI (rest := [.ref q14, .int 1, .ref q11]) kcode_yX2_init ki_RX2 kinst_yX2_init kyd_yX2_init rfl lk_RX6_46 C hY hW hS hAb 2 rfl (c_yX2_init l G q14 H.size) ⟨rfl, rfl, by decide, by decide⟩ hl.1 (Nat.le_of_ble_eq_true rfl) ⟨by decide, by decide⟩ dX6_init_88) (fun c15 H locs hc_ hW hS => ?_)
  subst hc_
  have hW : wW G.1 (fun z => z = h0 ∨ sz ≤ z) (((h0, .inr (6, [.ref (c2 8), .ref (c4 8), .ref (c6 8), .int 0, .ref (c8 0), .ref (c10 0), .ref q11, .null])) :: ((q11, .inl (G.2.1 3, 4, .inr (.inr (.inr (.inr (va_up (fun _ => none) 0 (some (c13 0)))))))) :: (gl 2 c15 ((FX2 G) c15) ++ (gl 2 c13 ((FX2 G) c13) ++ (gl 6 c10 ((FX4 G) c10) ++ (gl 2 c8 ((FX3 G) c8) ++ (gl 12 c6 ((FX0 G) c6) ++ (gl 12 c4 ((FX0 G) c4) ++ (gl 12 c2 ((FX0 G) c2) ++ []))))))))) : va_W) H := hW
  refine n_aast C hY hW hS 1 3 2 2 rfl rfl (r := (RX2, TX2, 3)) rfl rfl (i := 1) (by decide) (by decide) (by decide) dX6_init_91 (fun H locs hW hS => ?_)
  have hW : wW G.1 (fun z => z = h0 ∨ sz ≤ z) (((h0, .inr (6, [.ref (c2 8), .ref (c4 8), .ref (c6 8), .int 0, .ref (c8 0), .ref (c10 0), .ref q11, .null])) :: ((q11, .inl (G.2.1 3, 4, .inr (.inr (.inr (.inr (va_up (va_up (fun _ => none) 0 (some (c13 0))) 1 (some (c15 0)))))))) :: (gl 2 c15 ((FX2 G) c15) ++ (gl 2 c13 ((FX2 G) c13) ++ (gl 6 c10 ((FX4 G) c10) ++ (gl 2 c8 ((FX3 G) c8) ++ (gl 12 c6 ((FX0 G) c6) ++ (gl 12 c4 ((FX0 G) c4) ++ (gl 12 c2 ((FX0 G) c2) ++ []))))))))) : va_W) H := hW
  refine lv_iinc (v := 2) (lv' := [(1, .int 2), (0, .ref h0)]) hx hb dX6_init_92 hl (k := 0) rfl (by decide) (by decide) rfl (fun ls hl => ?_)
  refine lv_goto (tgt := 74) hx hb dX6_init_95 (by decide) ?_
  refine lv_iload_n hx hb dX6_init_74 rfl (lv_at hl 0 rfl) ?_
  refine lv_iconst (v := 4) hx hb dX6_init_75 (by decide) ?_
  refine lv_icmp_ge (tgt := 98) hx hb dX6_init_76 (by decide) (fun c_ => absurd c_ (by decide)) (fun c_ => ?_)
  refine lv_aload_n hx hb dX6_init_79 rfl (lv_at hl 1 rfl) ?_
  refine n_get fd_RX6_42 C hY hW 0 rfl (v := .ref q11) rfl dX6_init_80 ?_
  refine lv_iload_n hx hb dX6_init_83 rfl (lv_at hl 0 rfl) ?_
  refine n_new (ci := 2) (fs := [.null, .int 0, .int 0]) C hY hW hS hA inT2 tyX2 tyX2_ok kl_RX6_40 kn_RX2 ki_RX2 rfl (lt_cases (lt_cases (lt_cases lt_none rfl) rfl) rfl) (by decide) (by decide) dX6_init_84 2 (fun q16 H hW hS => ?_)
  have hW : wW G.1 (fun z => z = h0 ∨ sz ≤ z) (((h0, .inr (6, [.ref (c2 8), .ref (c4 8), .ref (c6 8), .int 0, .ref (c8 0), .ref (c10 0), .ref q11, .null])) :: ((q11, .inl (G.2.1 3, 4, .inr (.inr (.inr (.inr (va_up (va_up (fun _ => none) 0 (some (c13 0))) 1 (some (c15 0)))))))) :: ((q16, .inr (2, [.null, .int 0, .int 0])) :: (gl 2 c15 ((FX2 G) c15) ++ (gl 2 c13 ((FX2 G) c13) ++ (gl 6 c10 ((FX4 G) c10) ++ (gl 2 c8 ((FX3 G) c8) ++ (gl 12 c6 ((FX0 G) c6) ++ (gl 12 c4 ((FX0 G) c4) ++ (gl 12 c2 ((FX0 G) c2) ++ [])))))))))) : va_W) H := hW
  refine lv_dup hx hb dX6_init_87 rfl ?_
  refine n_after hW hS hA 2 rfl (n_runI (rest := [.ref q16, .int 2, .ref q11]) kcode_yX2_init ki_RX2 kinst_yX2_init kyd_yX2_init rfl lk_RX6_46 C hY hW hS hAb 2 rfl (c_yX2_init l G q16 H.size) ⟨rfl, rfl, by decide, by decide⟩ hl.1 (Nat.le_of_ble_eq_true rfl) ⟨by decide, by decide⟩ dX6_init_88) (fun c17 H locs hc_ hW hS => ?_)
  subst hc_
  have hW : wW G.1 (fun z => z = h0 ∨ sz ≤ z) (((h0, .inr (6, [.ref (c2 8), .ref (c4 8), .ref (c6 8), .int 0, .ref (c8 0), .ref (c10 0), .ref q11, .null])) :: ((q11, .inl (G.2.1 3, 4, .inr (.inr (.inr (.inr (va_up (va_up (fun _ => none) 0 (some (c13 0))) 1 (some (c15 0)))))))) :: (gl 2 c17 ((FX2 G) c17) ++ (gl 2 c15 ((FX2 G) c15) ++ (gl 2 c13 ((FX2 G) c13) ++ (gl 6 c10 ((FX4 G) c10) ++ (gl 2 c8 ((FX3 G) c8) ++ (gl 12 c6 ((FX0 G) c6) ++ (gl 12 c4 ((FX0 G) c4) ++ (gl 12 c2 ((FX0 G) c2) ++ [])))))))))) : va_W) H := hW
  refine n_aast C hY hW hS 1 3 2 2 rfl rfl (r := (RX2, TX2, 3)) rfl rfl (i := 2) (by decide) (by decide) (by decide) dX6_init_91 (fun H locs hW hS => ?_)
  have hW : wW G.1 (fun z => z = h0 ∨ sz ≤ z) (((h0, .inr (6, [.ref (c2 8), .ref (c4 8), .ref (c6 8), .int 0, .ref (c8 0), .ref (c10 0), .ref q11, .null])) :: ((q11, .inl (G.2.1 3, 4, .inr (.inr (.inr (.inr (va_up (va_up (va_up (fun _ => none) 0 (some (c13 0))) 1 (some (c15 0))) 2 (some (c17 0)))))))) :: (gl 2 c17 ((FX2 G) c17) ++ (gl 2 c15 ((FX2 G) c15) ++ (gl 2 c13 ((FX2 G) c13) ++ (gl 6 c10 ((FX4 G) c10) ++ (gl 2 c8 ((FX3 G) c8) ++ (gl 12 c6 ((FX0 G) c6) ++ (gl 12 c4 ((FX0 G) c4) ++ (gl 12 c2 ((FX0 G) c2) ++ [])))))))))) : va_W) H := hW
  refine lv_iinc (v := 3) (lv' := [(1, .int 3), (0, .ref h0)]) hx hb dX6_init_92 hl (k := 0) rfl (by decide) (by decide) rfl (fun ls hl => ?_)
  refine lv_goto (tgt := 74) hx hb dX6_init_95 (by decide) ?_
  refine lv_iload_n hx hb dX6_init_74 rfl (lv_at hl 0 rfl) ?_
  refine lv_iconst (v := 4) hx hb dX6_init_75 (by decide) ?_
  refine lv_icmp_ge (tgt := 98) hx hb dX6_init_76 (by decide) (fun c_ => absurd c_ (by decide)) (fun c_ => ?_)
  refine lv_aload_n hx hb dX6_init_79 rfl (lv_at hl 1 rfl) ?_
  refine n_get fd_RX6_42 C hY hW 0 rfl (v := .ref q11) rfl dX6_init_80 ?_
  refine lv_iload_n hx hb dX6_init_83 rfl (lv_at hl 0 rfl) ?_
  refine n_new (ci := 2) (fs := [.null, .int 0, .int 0]) C hY hW hS hA inT2 tyX2 tyX2_ok kl_RX6_40 kn_RX2 ki_RX2 rfl (lt_cases (lt_cases (lt_cases lt_none rfl) rfl) rfl) (by decide) (by decide) dX6_init_84 2 (fun q18 H hW hS => ?_)
  have hW : wW G.1 (fun z => z = h0 ∨ sz ≤ z) (((h0, .inr (6, [.ref (c2 8), .ref (c4 8), .ref (c6 8), .int 0, .ref (c8 0), .ref (c10 0), .ref q11, .null])) :: ((q11, .inl (G.2.1 3, 4, .inr (.inr (.inr (.inr (va_up (va_up (va_up (fun _ => none) 0 (some (c13 0))) 1 (some (c15 0))) 2 (some (c17 0)))))))) :: ((q18, .inr (2, [.null, .int 0, .int 0])) :: (gl 2 c17 ((FX2 G) c17) ++ (gl 2 c15 ((FX2 G) c15) ++ (gl 2 c13 ((FX2 G) c13) ++ (gl 6 c10 ((FX4 G) c10) ++ (gl 2 c8 ((FX3 G) c8) ++ (gl 12 c6 ((FX0 G) c6) ++ (gl 12 c4 ((FX0 G) c4) ++ (gl 12 c2 ((FX0 G) c2) ++ []))))))))))) : va_W) H := hW
  refine lv_dup hx hb dX6_init_87 rfl ?_
  refine n_after hW hS hA 2 rfl (n_runI (rest := [.ref q18, .int 3, .ref q11]) kcode_yX2_init ki_RX2 kinst_yX2_init kyd_yX2_init rfl lk_RX6_46 C hY hW hS hAb 2 rfl (c_yX2_init l G q18 H.size) ⟨rfl, rfl, by decide, by decide⟩ hl.1 (Nat.le_of_ble_eq_true rfl) ⟨by decide, by decide⟩ dX6_init_88) (fun c19 H locs hc_ hW hS => ?_)
  subst hc_
  have hW : wW G.1 (fun z => z = h0 ∨ sz ≤ z) (((h0, .inr (6, [.ref (c2 8), .ref (c4 8), .ref (c6 8), .int 0, .ref (c8 0), .ref (c10 0), .ref q11, .null])) :: ((q11, .inl (G.2.1 3, 4, .inr (.inr (.inr (.inr (va_up (va_up (va_up (fun _ => none) 0 (some (c13 0))) 1 (some (c15 0))) 2 (some (c17 0)))))))) :: (gl 2 c19 ((FX2 G) c19) ++ (gl 2 c17 ((FX2 G) c17) ++ (gl 2 c15 ((FX2 G) c15) ++ (gl 2 c13 ((FX2 G) c13) ++ (gl 6 c10 ((FX4 G) c10) ++ (gl 2 c8 ((FX3 G) c8) ++ (gl 12 c6 ((FX0 G) c6) ++ (gl 12 c4 ((FX0 G) c4) ++ (gl 12 c2 ((FX0 G) c2) ++ []))))))))))) : va_W) H := hW
  refine n_aast C hY hW hS 1 3 2 2 rfl rfl (r := (RX2, TX2, 3)) rfl rfl (i := 3) (by decide) (by decide) (by decide) dX6_init_91 (fun H locs hW hS => ?_)
  have hW : wW G.1 (fun z => z = h0 ∨ sz ≤ z) (((h0, .inr (6, [.ref (c2 8), .ref (c4 8), .ref (c6 8), .int 0, .ref (c8 0), .ref (c10 0), .ref q11, .null])) :: ((q11, .inl (G.2.1 3, 4, .inr (.inr (.inr (.inr (va_up (va_up (va_up (va_up (fun _ => none) 0 (some (c13 0))) 1 (some (c15 0))) 2 (some (c17 0))) 3 (some (c19 0)))))))) :: (gl 2 c19 ((FX2 G) c19) ++ (gl 2 c17 ((FX2 G) c17) ++ (gl 2 c15 ((FX2 G) c15) ++ (gl 2 c13 ((FX2 G) c13) ++ (gl 6 c10 ((FX4 G) c10) ++ (gl 2 c8 ((FX3 G) c8) ++ (gl 12 c6 ((FX0 G) c6) ++ (gl 12 c4 ((FX0 G) c4) ++ (gl 12 c2 ((FX0 G) c2) ++ []))))))))))) : va_W) H := hW
  refine lv_iinc (v := 4) (lv' := [(1, .int 4), (0, .ref h0)]) hx hb dX6_init_92 hl (k := 0) rfl (by decide) (by decide) rfl (fun ls hl => ?_)
  refine lv_goto (tgt := 74) hx hb dX6_init_95 (by decide) ?_
  refine lv_iload_n hx hb dX6_init_74 rfl (lv_at hl 0 rfl) ?_
  refine lv_iconst (v := 4) hx hb dX6_init_75 (by decide) ?_
  refine lv_icmp_ge (tgt := 98) hx hb dX6_init_76 (by decide) (fun c_ => ?_) (fun c_ => absurd (by decide) c_)
  refine lv_aload_n hx hb dX6_init_98 rfl (lv_at hl 1 rfl) ?_
  refine lv_bipush (v := 7) hx hb dX6_init_99 (by decide) ?_
  refine n_newa (atype := .int) C hY hW hS hA ka_int 0 rfl rfl (N := 7) (fun _ => rfl) rfl (by decide) (by decide) (by decide) (by decide) dX6_init_101 2 (fun q20 H hW hS => ?_)
  have hW : wW G.1 (fun z => z = h0 ∨ sz ≤ z) (((h0, .inr (6, [.ref (c2 8), .ref (c4 8), .ref (c6 8), .int 0, .ref (c8 0), .ref (c10 0), .ref q11, .null])) :: ((q11, .inl (G.2.1 3, 4, .inr (.inr (.inr (.inr (va_up (va_up (va_up (va_up (fun _ => none) 0 (some (c13 0))) 1 (some (c15 0))) 2 (some (c17 0))) 3 (some (c19 0)))))))) :: ((q20, .inl (G.2.1 0, 7, .inl (fun _ => (0 : Int32)))) :: (gl 2 c19 ((FX2 G) c19) ++ (gl 2 c17 ((FX2 G) c17) ++ (gl 2 c15 ((FX2 G) c15) ++ (gl 2 c13 ((FX2 G) c13) ++ (gl 6 c10 ((FX4 G) c10) ++ (gl 2 c8 ((FX3 G) c8) ++ (gl 12 c6 ((FX0 G) c6) ++ (gl 12 c4 ((FX0 G) c4) ++ (gl 12 c2 ((FX0 G) c2) ++ [])))))))))))) : va_W) H := hW
  refine n_put fd_RX6_47 C hnm (fun q_ hq_ => by cases hq_; rfl) hY hW hS 0 rfl rfl rfl (Nat.le_of_ble_eq_true rfl) dX6_init_103 (fun H locs hW hS => ?_)
  have hW : wW G.1 (fun z => z = h0 ∨ sz ≤ z) (((h0, .inr (6, [.ref (c2 8), .ref (c4 8), .ref (c6 8), .int 0, .ref (c8 0), .ref (c10 0), .ref q11, .ref q20])) :: ((q11, .inl (G.2.1 3, 4, .inr (.inr (.inr (.inr (va_up (va_up (va_up (va_up (fun _ => none) 0 (some (c13 0))) 1 (some (c15 0))) 2 (some (c17 0))) 3 (some (c19 0)))))))) :: ((q20, .inl (G.2.1 0, 7, .inl (fun _ => (0 : Int32)))) :: (gl 2 c19 ((FX2 G) c19) ++ (gl 2 c17 ((FX2 G) c17) ++ (gl 2 c15 ((FX2 G) c15) ++ (gl 2 c13 ((FX2 G) c13) ++ (gl 6 c10 ((FX4 G) c10) ++ (gl 2 c8 ((FX3 G) c8) ++ (gl 12 c6 ((FX0 G) c6) ++ (gl 12 c4 ((FX0 G) c4) ++ (gl 12 c2 ((FX0 G) c2) ++ [])))))))))))) : va_W) H := hW
  exact n_ret C hr hlk hsz hW hS (fun k => ([43, 44, 45, 46, 47, 48, 49, 50, 51, 52, 53, 54, 31, 32, 33, 34, 35, 36, 37, 38, 39, 40, 41, 42, 19, 20, 21, 22, 23, 24, 25, 26, 27, 28, 29, 30, 11, 12, 13, 14, 15, 16, 17, 18, 0, 2, 1, 9, 10, 7, 8, 5, 6, 3, 4] : List Nat).getD k 0) (fun k => if k < 12 then c2 k else if k < 24 then c4 (k - 12) else if k < 36 then c6 (k - 24) else if k < 42 then c10 (k - 36) else if k < 44 then c8 (k - 42) else if k = 44 then h0 else if k = 45 then q20 else if k = 46 then q11 else if k < 49 then c13 (k - 47) else if k < 51 then c15 (k - 49) else if k < 53 then c17 (k - 51) else c19 (k - 53)) rfl (pi_inj (by decide +kernel)) (lt_cases (lt_cases (lt_cases (lt_cases (lt_cases (lt_cases (lt_cases (lt_cases (lt_cases (lt_cases (lt_cases (lt_cases (lt_cases (lt_cases (lt_cases (lt_cases (lt_cases (lt_cases (lt_cases (lt_cases (lt_cases (lt_cases (lt_cases (lt_cases (lt_cases (lt_cases (lt_cases (lt_cases (lt_cases (lt_cases (lt_cases (lt_cases (lt_cases (lt_cases (lt_cases (lt_cases (lt_cases (lt_cases (lt_cases (lt_cases (lt_cases (lt_cases (lt_cases (lt_cases (lt_cases (lt_cases (lt_cases (lt_cases (lt_cases (lt_cases (lt_cases (lt_cases (lt_cases (lt_cases (lt_cases lt_none ⟨_, rfl, shEq.rf⟩) ⟨_, rfl, shEq.rf⟩) ⟨_, rfl, shEq.rf⟩) ⟨_, rfl, shEq.rf⟩) ⟨_, rfl, shEq.rf⟩) ⟨_, rfl, shEq.rf⟩) ⟨_, rfl, shEq.rf⟩) ⟨_, rfl, shEq.rf⟩) ⟨_, rfl, shEq.rf⟩) ⟨_, rfl, shEq.rf⟩) ⟨_, rfl, shEq.rf⟩) ⟨_, rfl, eQ_cong (lt_cases (lt_cases (lt_cases (lt_cases (lt_cases (lt_cases (lt_cases (lt_cases lt_none rfl) rfl) rfl) rfl) rfl) rfl) rfl) rfl)⟩) ⟨_, rfl, shEq.rf⟩) ⟨_, rfl, shEq.rf⟩) ⟨_, rfl, shEq.rf⟩) ⟨_, rfl, shEq.rf⟩) ⟨_, rfl, shEq.rf⟩) ⟨_, rfl, shEq.rf⟩) ⟨_, rfl, shEq.rf⟩) ⟨_, rfl, shEq.rf⟩) ⟨_, rfl, shEq.rf⟩) ⟨_, rfl, shEq.rf⟩) ⟨_, rfl, shEq.rf⟩) ⟨_, rfl, eQ_cong (lt_cases (lt_cases (lt_cases (lt_cases (lt_cases (lt_cases (lt_cases (lt_cases lt_none rfl) rfl) rfl) rfl) rfl) rfl) rfl) rfl)⟩) ⟨_, rfl, shEq.rf⟩) ⟨_, rfl, shEq.rf⟩) ⟨_, rfl, shEq.rf⟩) ⟨_, rfl, shEq.rf⟩) ⟨_, rfl, shEq.rf⟩) ⟨_, rfl, shEq.rf⟩) ⟨_, rfl, shEq.rf⟩) ⟨_, rfl, shEq.rf⟩) ⟨_, rfl, shEq.rf⟩) ⟨_, rfl, shEq.rf⟩) ⟨_, rfl, shEq.rf⟩) ⟨_, rfl, eQ_cong (lt_cases (lt_cases (lt_cases (lt_cases (lt_cases (lt_cases (lt_cases (lt_cases lt_none rfl) rfl) rfl) rfl) rfl) rfl) rfl) rfl)⟩) ⟨_, rfl, shEq.rf⟩) ⟨_, rfl, shEq.rf⟩) ⟨_, rfl, shEq.rf⟩) ⟨_, rfl, shEq.rf⟩) ⟨_, rfl, shEq.rf⟩) ⟨_, rfl, shEq.rf⟩) ⟨_, rfl, shEq.rf⟩) ⟨_, rfl, shEq.rf⟩) ⟨_, rfl, shEq.rf⟩) ⟨_, rfl, shEq.rf⟩) ⟨_, rfl, eQ_cong (lt_cases (lt_cases (lt_cases (lt_cases lt_none rfl) rfl) rfl) rfl)⟩) ⟨_, rfl, shEq.rf⟩) ⟨_, rfl, shEq.rf⟩) ⟨_, rfl, shEq.rf⟩) ⟨_, rfl, shEq.rf⟩) ⟨_, rfl, shEq.rf⟩) ⟨_, rfl, shEq.rf⟩) ⟨_, rfl, shEq.rf⟩) ⟨_, rfl, shEq.rf⟩) (by decide) (by decide) dX6_init_106
