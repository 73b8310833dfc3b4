theorem lcmp_self (a : Int64) : lg_cmp a a = 0 := (lg_cmp_eq a a).mpr rfl

def shL (G : gG) (ad : Nat → Nat) (k : Nat) (f : Nat → Int32) : va_E := if k < 55 then shX G ad k f else shM G (fun i => ad (55 + i)) (k - 55) f
theorem shL_X (G : gG) (ad : Nat → Nat) : ∀ i, i < 55 → ∀ f, shL G ad (0 + i) f = shX G (fun i => ad (0 + i)) i f := fun i hi f => by
  rw [Nat.zero_add]
  unfold shL
  rw [if_pos hi]
  simp only [Nat.zero_add]
theorem shL_M (G : gG) (ad : Nat → Nat) : ∀ i, i < 11 → ∀ f, shL G ad (55 + i) f = shM G (fun i => ad (55 + i)) i f := fun i hi f => by
  unfold shL
  rw [if_neg (by omega), Nat.add_sub_cancel_left]
theorem g_wrL {p : Program} {l : Launch} {e : Env} {R : Room} {s : State} {m : MethodId} {args : Array Value} {below : List Frame} {meth : Method} {c : Code} {H : Heap} {locs : List Loc} {cells slots : Nat} {Q : State → Prop} {pc : Nat} {ls : Array Slot} {rest st0 : List Value} {G : gG} {n : Nat} {ad : Nat → Nat} {sh sh1 : Nat → (Nat → Int32) → va_E} {σ : gM} {o m1 : Nat} {r : Int64 × gM} {a : Array Value} {b0 : Nat} (hm : o + m1 ≤ n) (hs : ∀ i, i < m1 → ∀ f, sh (o + i) f = sh1 i f) (hI : gI b0 n ad) (hP : gP G.1 n ad (gE sh σ) H) (hS : va_S (gA n ad) s.heap H locs)
    (hr : va_Run p l e R s m args below meth c H locs cells slots 0 0 (F0 m pc ls st0) rest (va_Ql (fun (x : Int64) (τ : gM) => r = (x, τ)) (fun τ t => gP G.1 m1 (fun i => ad (o + i)) (gE sh1 τ) t.heap) (gA m1 (fun i => ad (o + i))) a) (gA m1 (fun i => ad (o + i))))
    (kk : ∀ (H1 : Heap) (locs1 : List Loc), gP G.1 n ad (gE sh (mput σ o m1 r.2)) H1 → va_S (gA n ad) s.heap H1 locs1 → W p l e R s m args below meth c H1 locs1 cells slots Q (F0 m (pc + 3) ls (.long r.1 :: rest))) : W p l e R s m args below meth c H locs cells slots Q (F0 m pc ls st0) :=
  va_calll hr hS (fun q _ h => gA_sub hm h) (fun q h => gA_sub hm h) (fun x u t H1 l1 ht _ hp hB hz hk hS1 => by
    subst hp
    refine kk H1 l1 (hP.join hI o m1 hm hs hk ?_) hS1
    rw [← ht]; exact hB)

set_option maxHeartbeats 4000000 in
theorem law_c0 {p : Program} {l : Launch} {e : Env} {s : State} {m : MethodId} {below : List Frame} {meth : Method} {c : Code} {G : gG} {ad : Nat → Nat} {b L : Nat} {xs : Nat → Int32} (hL : L ≤ 3072) (C0 : lw_At p s m meth c b L xs) (hX : gX G s) (hb0 : G.2.2.1 = s.heap.size) (hI : gI G.2.2.1 66 ad) (i : Nat) (hi : i + 6 ≤ L) (σ : gM) (hR : RL2 σ) (H : Heap) (locs : List Loc) (ls : Array Slot) (hP : gP G.1 66 ad (gE (shL G ad) σ) H) (hS : va_S (gA 66 ad) s.heap H locs) (hl : lv_has ls 4 [(0, .ref b), (1, .ref (ad 44)), (2, .ref (ad 55)), (3, .int (nI i))]) (next : ∀ (σ : gM) (H : Heap) (locs : List Loc), RL2 σ → gP G.1 66 ad (gE (shL G ad) σ) H → va_S (gA 66 ad) s.heap H locs → W p l e room_1 s m #[Value.ref b] below meth c H locs 600000 7302250 (lw_Z below #[Value.ref b] s) (F0 m 1399 ls [])) : W p l e room_1 s m #[Value.ref b] below meth c H locs 600000 7302250 (lw_Z below #[Value.ref b] s) (F0 m 208 ls []) := by
  obtain ⟨hx, hb, hr, hml, hown, hts, hX2, hbl, hlocks, hgv⟩ := C0
  have C : CallFix p m c code 4 s #[Value.ref b] Tb RL := ⟨hx, hb, hml, hown, fun w hw => hts w (List.mem_filter.mp hw).1⟩
  have hbA : ¬ gA 66 ad b := fun q => by have := gA.b0 hI q; omega
  have hR2 : R (mget σ 0) (mget σ 55) := hR
  obtain ⟨N, hN, hs, hsM, hdM⟩ := rf_N hR2
  obtain ⟨T, hT, ht, htM⟩ := rf_T hR2
  have hszX := rf_SX hR2
  have hszM := rf_SM hR2
  obtain ⟨K, hK, hkK⟩ := rf_K hR2
  have hspM := rf_P hR2
  refine lv_aload_n hx hb dL_law_208 rfl (lv_at hl 1 rfl) ?_
  refine lv_aload_n hx hb dL_law_209 rfl (lv_at hl 0 rfl) ?_
  refine lv_iload_n hx hb dL_law_210 rfl (lv_at hl 3 rfl) ?_
  refine lv_iconst (v := 1) hx hb dL_law_211 (by decide) ?_
  refine lv_iadd hx hb dL_law_212 ?_
  refine lv_as (y := nI (i + 1)) (nI_add i 1) ?_
  refine va_sld hx hb hX2 hbl hbA hS (vp_in_nI (show i + 1 < L by omega) (by omega)) dL_law_213 ?_
  refine lv_as (y := xs (i + 1)) (by rw [nI_clamp (by omega)]) ?_
  refine lv_aload_n hx hb dL_law_214 rfl (lv_at hl 0 rfl) ?_
  refine lv_iload_n hx hb dL_law_215 rfl (lv_at hl 3 rfl) ?_
  refine lv_iconst (v := 2) hx hb dL_law_216 (by decide) ?_
  refine lv_iadd hx hb dL_law_217 ?_
  refine lv_as (y := nI (i + 2)) (nI_add i 2) ?_
  refine va_sld hx hb hX2 hbl hbA hS (vp_in_nI (show i + 2 < L by omega) (by omega)) dL_law_218 ?_
  refine lv_as (y := xs (i + 2)) (by rw [nI_clamp (by omega)]) ?_
  refine g_wrI (o := 0) (m1 := 55) (by omega) (shL_X G ad) hI hP hS (g_runV (As := [.int (xs (i + 1)), .int (xs (i + 2))]) (rest := []) ky_yX6_say lk_RL_13 C hX (gS_b0 hI hS) (hP.sub (sh1 := shX G (fun q_ => ad (0 + q_))) 0 55 (by omega) (shL_X G ad)) 44 (c_yX6_say l G (fun q_ => ad (0 + q_)) (hI.sub (m := 55) 0 (by omega)) (mget σ 0) (xs (i + 1)) (xs (i + 2)) ) (by decide) (shX_44 G (fun q_ => ad (0 + q_)) _) ⟨rfl, rfl, by decide, by decide⟩ rfl hl.1 rfl (Nat.le_of_ble_eq_true rfl) ⟨Nat.le_of_ble_eq_true rfl, Nat.le_of_ble_eq_true rfl⟩ dL_law_219) (fun H locs hP hS => ?_)
  obtain ⟨σ1, e1⟩ : ∃ σ1, σ1 = mput σ 0 55 (x_say (mget σ 0) (xs (i + 1)) (xs (i + 2))).2 := ⟨_, rfl⟩
  rw [← e1] at hP
  have hm : mget σ1 55 = mget σ 55 := by rw [e1]; exact mg_M
  refine lv_aload_n hx hb dL_law_222 rfl (lv_at hl 2 rfl) ?_
  refine lv_aload_n hx hb dL_law_223 rfl (lv_at hl 0 rfl) ?_
  refine lv_iload_n hx hb dL_law_224 rfl (lv_at hl 3 rfl) ?_
  refine lv_iconst (v := 1) hx hb dL_law_225 (by decide) ?_
  refine lv_iadd hx hb dL_law_226 ?_
  refine lv_as (y := nI (i + 1)) (nI_add i 1) ?_
  refine va_sld hx hb hX2 hbl hbA hS (vp_in_nI (show i + 1 < L by omega) (by omega)) dL_law_227 ?_
  refine lv_as (y := xs (i + 1)) (by rw [nI_clamp (by omega)]) ?_
  refine lv_aload_n hx hb dL_law_228 rfl (lv_at hl 0 rfl) ?_
  refine lv_iload_n hx hb dL_law_229 rfl (lv_at hl 3 rfl) ?_
  refine lv_iconst (v := 2) hx hb dL_law_230 (by decide) ?_
  refine lv_iadd hx hb dL_law_231 ?_
  refine lv_as (y := nI (i + 2)) (nI_add i 2) ?_
  refine va_sld hx hb hX2 hbl hbA hS (vp_in_nI (show i + 2 < L by omega) (by omega)) dL_law_232 ?_
  refine lv_as (y := xs (i + 2)) (by rw [nI_clamp (by omega)]) ?_
  refine g_wrI (o := 55) (m1 := 11) (by omega) (shL_M G ad) hI hP hS (g_runV (As := [.int (xs (i + 1)), .int (xs (i + 2))]) (rest := [.int (x_say (mget σ 0) (xs (i + 1)) (xs (i + 2))).1]) ky_yX7_say lk_RL_17 C hX (gS_b0 hI hS) (hP.sub (sh1 := shM G (fun q_ => ad (55 + q_))) 55 11 (by omega) (shL_M G ad)) 0 (c_yX7_say l G (fun q_ => ad (55 + q_)) (hI.sub (m := 11) 55 (by omega)) (mget σ1 55) (xs (i + 1)) (xs (i + 2)) ) (by decide) (shM_0 G (fun q_ => ad (55 + q_)) _) ⟨rfl, rfl, by decide, by decide⟩ rfl hl.1 rfl (Nat.le_of_ble_eq_true rfl) ⟨Nat.le_of_ble_eq_true rfl, Nat.le_of_ble_eq_true rfl⟩ dL_law_233) (fun H locs hP hS => ?_)
  have hq := eq_say hR2 (xs (i + 1)) (xs (i + 2))
  rw [← hm] at hq
  exact lv_icmp_eq (tgt := 1399) hx hb dL_law_236 (by decide) (fun c_ => by have hn := RL_next (σ := σ) hq.2; rw [← e1] at hn; exact next _ H locs hn hP hS) (fun c_ => absurd hq.1 c_)

set_option maxHeartbeats 4000000 in
theorem law_c1 {p : Program} {l : Launch} {e : Env} {s : State} {m : MethodId} {below : List Frame} {meth : Method} {c : Code} {G : gG} {ad : Nat → Nat} {b L : Nat} {xs : Nat → Int32} (hL : L ≤ 3072) (C0 : lw_At p s m meth c b L xs) (hX : gX G s) (hb0 : G.2.2.1 = s.heap.size) (hI : gI G.2.2.1 66 ad) (i : Nat) (hi : i + 6 ≤ L) (σ : gM) (hR : RL2 σ) (H : Heap) (locs : List Loc) (ls : Array Slot) (hP : gP G.1 66 ad (gE (shL G ad) σ) H) (hS : va_S (gA 66 ad) s.heap H locs) (hl : lv_has ls 4 [(0, .ref b), (1, .ref (ad 44)), (2, .ref (ad 55)), (3, .int (nI i))]) (next : ∀ (σ : gM) (H : Heap) (locs : List Loc), RL2 σ → gP G.1 66 ad (gE (shL G ad) σ) H → va_S (gA 66 ad) s.heap H locs → W p l e room_1 s m #[Value.ref b] below meth c H locs 600000 7302250 (lw_Z below #[Value.ref b] s) (F0 m 1399 ls [])) : W p l e room_1 s m #[Value.ref b] below meth c H locs 600000 7302250 (lw_Z below #[Value.ref b] s) (F0 m 241 ls []) := by
  obtain ⟨hx, hb, hr, hml, hown, hts, hX2, hbl, hlocks, hgv⟩ := C0
  have C : CallFix p m c code 4 s #[Value.ref b] Tb RL := ⟨hx, hb, hml, hown, fun w hw => hts w (List.mem_filter.mp hw).1⟩
  have hbA : ¬ gA 66 ad b := fun q => by have := gA.b0 hI q; omega
  have hR2 : R (mget σ 0) (mget σ 55) := hR
  obtain ⟨N, hN, hs, hsM, hdM⟩ := rf_N hR2
  obtain ⟨T, hT, ht, htM⟩ := rf_T hR2
  have hszX := rf_SX hR2
  have hszM := rf_SM hR2
  obtain ⟨K, hK, hkK⟩ := rf_K hR2
  have hspM := rf_P hR2
  refine lv_aload_n hx hb dL_law_241 rfl (lv_at hl 1 rfl) ?_
  refine lv_aload_n hx hb dL_law_242 rfl (lv_at hl 0 rfl) ?_
  refine lv_iload_n hx hb dL_law_243 rfl (lv_at hl 3 rfl) ?_
  refine lv_iconst (v := 1) hx hb dL_law_244 (by decide) ?_
  refine lv_iadd hx hb dL_law_245 ?_
  refine lv_as (y := nI (i + 1)) (nI_add i 1) ?_
  refine va_sld hx hb hX2 hbl hbA hS (vp_in_nI (show i + 1 < L by omega) (by omega)) dL_law_246 ?_
  refine lv_as (y := xs (i + 1)) (by rw [nI_clamp (by omega)]) ?_
  refine g_wrI (o := 0) (m1 := 55) (by omega) (shL_X G ad) hI hP hS (g_runV (As := [.int (xs (i + 1))]) (rest := []) ky_yX6_said lk_RL_18 C hX (gS_b0 hI hS) (hP.sub (sh1 := shX G (fun q_ => ad (0 + q_))) 0 55 (by omega) (shL_X G ad)) 44 (c_yX6_said l G (fun q_ => ad (0 + q_)) (hI.sub (m := 55) 0 (by omega)) (mget σ 0) (xs (i + 1)) ) (by decide) (shX_44 G (fun q_ => ad (0 + q_)) _) ⟨rfl, rfl, by decide, by decide⟩ rfl hl.1 rfl (Nat.le_of_ble_eq_true rfl) ⟨Nat.le_of_ble_eq_true rfl, Nat.le_of_ble_eq_true rfl⟩ dL_law_247) (fun H locs hP hS => ?_)
  obtain ⟨σ1, e1⟩ : ∃ σ1, σ1 = mput σ 0 55 (x_said (mget σ 0) (xs (i + 1))).2 := ⟨_, rfl⟩
  rw [← e1] at hP
  have hm : mget σ1 55 = mget σ 55 := by rw [e1]; exact mg_M
  refine lv_aload_n hx hb dL_law_250 rfl (lv_at hl 2 rfl) ?_
  refine lv_aload_n hx hb dL_law_251 rfl (lv_at hl 0 rfl) ?_
  refine lv_iload_n hx hb dL_law_252 rfl (lv_at hl 3 rfl) ?_
  refine lv_iconst (v := 1) hx hb dL_law_253 (by decide) ?_
  refine lv_iadd hx hb dL_law_254 ?_
  refine lv_as (y := nI (i + 1)) (nI_add i 1) ?_
  refine va_sld hx hb hX2 hbl hbA hS (vp_in_nI (show i + 1 < L by omega) (by omega)) dL_law_255 ?_
  refine lv_as (y := xs (i + 1)) (by rw [nI_clamp (by omega)]) ?_
  refine g_wrI (o := 55) (m1 := 11) (by omega) (shL_M G ad) hI hP hS (g_runV (As := [.int (xs (i + 1))]) (rest := [.int (x_said (mget σ 0) (xs (i + 1))).1]) ky_yX7_said lk_RL_22 C hX (gS_b0 hI hS) (hP.sub (sh1 := shM G (fun q_ => ad (55 + q_))) 55 11 (by omega) (shL_M G ad)) 0 (c_yX7_said l G (fun q_ => ad (55 + q_)) (hI.sub (m := 11) 55 (by omega)) (mget σ1 55) (xs (i + 1)) ) (by decide) (shM_0 G (fun q_ => ad (55 + q_)) _) ⟨rfl, rfl, by decide, by decide⟩ rfl hl.1 rfl (Nat.le_of_ble_eq_true rfl) ⟨Nat.le_of_ble_eq_true rfl, Nat.le_of_ble_eq_true rfl⟩ dL_law_256) (fun H locs hP hS => ?_)
  have hq := eq_said hR2 (xs (i + 1))
  rw [← hm] at hq
  exact lv_icmp_eq (tgt := 1399) hx hb dL_law_259 (by decide) (fun c_ => by have hn := RL_next (σ := σ) hq.2; rw [← e1] at hn; exact next _ H locs hn hP hS) (fun c_ => absurd hq.1 c_)

set_option maxHeartbeats 4000000 in
theorem law_c2 {p : Program} {l : Launch} {e : Env} {s : State} {m : MethodId} {below : List Frame} {meth : Method} {c : Code} {G : gG} {ad : Nat → Nat} {b L : Nat} {xs : Nat → Int32} (hL : L ≤ 3072) (C0 : lw_At p s m meth c b L xs) (hX : gX G s) (hb0 : G.2.2.1 = s.heap.size) (hI : gI G.2.2.1 66 ad) (i : Nat) (hi : i + 6 ≤ L) (σ : gM) (hR : RL2 σ) (H : Heap) (locs : List Loc) (ls : Array Slot) (hP : gP G.1 66 ad (gE (shL G ad) σ) H) (hS : va_S (gA 66 ad) s.heap H locs) (hl : lv_has ls 4 [(0, .ref b), (1, .ref (ad 44)), (2, .ref (ad 55)), (3, .int (nI i))]) (next : ∀ (σ : gM) (H : Heap) (locs : List Loc), RL2 σ → gP G.1 66 ad (gE (shL G ad) σ) H → va_S (gA 66 ad) s.heap H locs → W p l e room_1 s m #[Value.ref b] below meth c H locs 600000 7302250 (lw_Z below #[Value.ref b] s) (F0 m 1399 ls [])) : W p l e room_1 s m #[Value.ref b] below meth c H locs 600000 7302250 (lw_Z below #[Value.ref b] s) (F0 m 264 ls []) := by
  obtain ⟨hx, hb, hr, hml, hown, hts, hX2, hbl, hlocks, hgv⟩ := C0
  have C : CallFix p m c code 4 s #[Value.ref b] Tb RL := ⟨hx, hb, hml, hown, fun w hw => hts w (List.mem_filter.mp hw).1⟩
  have hbA : ¬ gA 66 ad b := fun q => by have := gA.b0 hI q; omega
  have hR2 : R (mget σ 0) (mget σ 55) := hR
  obtain ⟨N, hN, hs, hsM, hdM⟩ := rf_N hR2
  obtain ⟨T, hT, ht, htM⟩ := rf_T hR2
  have hszX := rf_SX hR2
  have hszM := rf_SM hR2
  obtain ⟨K, hK, hkK⟩ := rf_K hR2
  have hspM := rf_P hR2
  refine lv_aload_n hx hb dL_law_264 rfl (lv_at hl 1 rfl) ?_
  refine lv_aload_n hx hb dL_law_265 rfl (lv_at hl 0 rfl) ?_
  refine lv_iload_n hx hb dL_law_266 rfl (lv_at hl 3 rfl) ?_
  refine lv_iconst (v := 1) hx hb dL_law_267 (by decide) ?_
  refine lv_iadd hx hb dL_law_268 ?_
  refine lv_as (y := nI (i + 1)) (nI_add i 1) ?_
  refine va_sld hx hb hX2 hbl hbA hS (vp_in_nI (show i + 1 < L by omega) (by omega)) dL_law_269 ?_
  refine lv_as (y := xs (i + 1)) (by rw [nI_clamp (by omega)]) ?_
  refine lv_aload_n hx hb dL_law_270 rfl (lv_at hl 0 rfl) ?_
  refine lv_iload_n hx hb dL_law_271 rfl (lv_at hl 3 rfl) ?_
  refine lv_iconst (v := 2) hx hb dL_law_272 (by decide) ?_
  refine lv_iadd hx hb dL_law_273 ?_
  refine lv_as (y := nI (i + 2)) (nI_add i 2) ?_
  refine va_sld hx hb hX2 hbl hbA hS (vp_in_nI (show i + 2 < L by omega) (by omega)) dL_law_274 ?_
  refine lv_as (y := xs (i + 2)) (by rw [nI_clamp (by omega)]) ?_
  refine g_wrI (o := 0) (m1 := 55) (by omega) (shL_X G ad) hI hP hS (g_runV (As := [.int (xs (i + 1)), .int (xs (i + 2))]) (rest := []) ky_yX6_room lk_RL_23 C hX (gS_b0 hI hS) (hP.sub (sh1 := shX G (fun q_ => ad (0 + q_))) 0 55 (by omega) (shL_X G ad)) 44 (c_yX6_room l G (fun q_ => ad (0 + q_)) (hI.sub (m := 55) 0 (by omega)) (mget σ 0) (xs (i + 1)) (xs (i + 2)) N hN hs) (by decide) (shX_44 G (fun q_ => ad (0 + q_)) _) ⟨rfl, rfl, by decide, by decide⟩ rfl hl.1 rfl (Nat.le_of_ble_eq_true rfl) ⟨Nat.le_of_ble_eq_true rfl, Nat.le_of_ble_eq_true rfl⟩ dL_law_275) (fun H locs hP hS => ?_)
  obtain ⟨σ1, e1⟩ : ∃ σ1, σ1 = mput σ 0 55 (x_room (mget σ 0) (xs (i + 1)) (xs (i + 2))).2 := ⟨_, rfl⟩
  rw [← e1] at hP
  have hm : mget σ1 55 = mget σ 55 := by rw [e1]; exact mg_M
  refine lv_aload_n hx hb dL_law_278 rfl (lv_at hl 2 rfl) ?_
  refine lv_aload_n hx hb dL_law_279 rfl (lv_at hl 0 rfl) ?_
  refine lv_iload_n hx hb dL_law_280 rfl (lv_at hl 3 rfl) ?_
  refine lv_iconst (v := 1) hx hb dL_law_281 (by decide) ?_
  refine lv_iadd hx hb dL_law_282 ?_
  refine lv_as (y := nI (i + 1)) (nI_add i 1) ?_
  refine va_sld hx hb hX2 hbl hbA hS (vp_in_nI (show i + 1 < L by omega) (by omega)) dL_law_283 ?_
  refine lv_as (y := xs (i + 1)) (by rw [nI_clamp (by omega)]) ?_
  refine lv_aload_n hx hb dL_law_284 rfl (lv_at hl 0 rfl) ?_
  refine lv_iload_n hx hb dL_law_285 rfl (lv_at hl 3 rfl) ?_
  refine lv_iconst (v := 2) hx hb dL_law_286 (by decide) ?_
  refine lv_iadd hx hb dL_law_287 ?_
  refine lv_as (y := nI (i + 2)) (nI_add i 2) ?_
  refine va_sld hx hb hX2 hbl hbA hS (vp_in_nI (show i + 2 < L by omega) (by omega)) dL_law_288 ?_
  refine lv_as (y := xs (i + 2)) (by rw [nI_clamp (by omega)]) ?_
  refine g_wrI (o := 55) (m1 := 11) (by omega) (shL_M G ad) hI hP hS (g_runV (As := [.int (xs (i + 1)), .int (xs (i + 2))]) (rest := [.int (x_room (mget σ 0) (xs (i + 1)) (xs (i + 2))).1]) ky_yX7_room lk_RL_26 C hX (gS_b0 hI hS) (hP.sub (sh1 := shM G (fun q_ => ad (55 + q_))) 55 11 (by omega) (shL_M G ad)) 0 (c_yX7_room l G (fun q_ => ad (55 + q_)) (hI.sub (m := 11) 55 (by omega)) (mget σ1 55) (xs (i + 1)) (xs (i + 2)) N hN (by rw [hm]; exact hsM)) (by decide) (shM_0 G (fun q_ => ad (55 + q_)) _) ⟨rfl, rfl, by decide, by decide⟩ rfl hl.1 rfl (Nat.le_of_ble_eq_true rfl) ⟨Nat.le_of_ble_eq_true rfl, Nat.le_of_ble_eq_true rfl⟩ dL_law_289) (fun H locs hP hS => ?_)
  have hq := eq_room hR2 (xs (i + 1)) (xs (i + 2))
  rw [← hm] at hq
  exact lv_icmp_eq (tgt := 1399) hx hb dL_law_292 (by decide) (fun c_ => by have hn := RL_next (σ := σ) hq.2; rw [← e1] at hn; exact next _ H locs hn hP hS) (fun c_ => absurd hq.1 c_)

set_option maxHeartbeats 4000000 in
theorem law_c3 {p : Program} {l : Launch} {e : Env} {s : State} {m : MethodId} {below : List Frame} {meth : Method} {c : Code} {G : gG} {ad : Nat → Nat} {b L : Nat} {xs : Nat → Int32} (hL : L ≤ 3072) (C0 : lw_At p s m meth c b L xs) (hX : gX G s) (hb0 : G.2.2.1 = s.heap.size) (hI : gI G.2.2.1 66 ad) (i : Nat) (hi : i + 6 ≤ L) (σ : gM) (hR : RL2 σ) (H : Heap) (locs : List Loc) (ls : Array Slot) (hP : gP G.1 66 ad (gE (shL G ad) σ) H) (hS : va_S (gA 66 ad) s.heap H locs) (hl : lv_has ls 4 [(0, .ref b), (1, .ref (ad 44)), (2, .ref (ad 55)), (3, .int (nI i))]) (next : ∀ (σ : gM) (H : Heap) (locs : List Loc), RL2 σ → gP G.1 66 ad (gE (shL G ad) σ) H → va_S (gA 66 ad) s.heap H locs → W p l e room_1 s m #[Value.ref b] below meth c H locs 600000 7302250 (lw_Z below #[Value.ref b] s) (F0 m 1399 ls [])) : W p l e room_1 s m #[Value.ref b] below meth c H locs 600000 7302250 (lw_Z below #[Value.ref b] s) (F0 m 297 ls []) := by
  obtain ⟨hx, hb, hr, hml, hown, hts, hX2, hbl, hlocks, hgv⟩ := C0
  have C : CallFix p m c code 4 s #[Value.ref b] Tb RL := ⟨hx, hb, hml, hown, fun w hw => hts w (List.mem_filter.mp hw).1⟩
  have hbA : ¬ gA 66 ad b := fun q => by have := gA.b0 hI q; omega
  have hR2 : R (mget σ 0) (mget σ 55) := hR
  obtain ⟨N, hN, hs, hsM, hdM⟩ := rf_N hR2
  obtain ⟨T, hT, ht, htM⟩ := rf_T hR2
  have hszX := rf_SX hR2
  have hszM := rf_SM hR2
  obtain ⟨K, hK, hkK⟩ := rf_K hR2
  have hspM := rf_P hR2
  refine lv_aload_n hx hb dL_law_297 rfl (lv_at hl 1 rfl) ?_
  refine lv_aload_n hx hb dL_law_298 rfl (lv_at hl 0 rfl) ?_
  refine lv_iload_n hx hb dL_law_299 rfl (lv_at hl 3 rfl) ?_
  refine lv_iconst (v := 1) hx hb dL_law_300 (by decide) ?_
  refine lv_iadd hx hb dL_law_301 ?_
  refine lv_as (y := nI (i + 1)) (nI_add i 1) ?_
  refine va_sld hx hb hX2 hbl hbA hS (vp_in_nI (show i + 1 < L by omega) (by omega)) dL_law_302 ?_
  refine lv_as (y := xs (i + 1)) (by rw [nI_clamp (by omega)]) ?_
  refine lv_aload_n hx hb dL_law_303 rfl (lv_at hl 0 rfl) ?_
  refine lv_iload_n hx hb dL_law_304 rfl (lv_at hl 3 rfl) ?_
  refine lv_iconst (v := 2) hx hb dL_law_305 (by decide) ?_
  refine lv_iadd hx hb dL_law_306 ?_
  refine lv_as (y := nI (i + 2)) (nI_add i 2) ?_
  refine va_sld hx hb hX2 hbl hbA hS (vp_in_nI (show i + 2 < L by omega) (by omega)) dL_law_307 ?_
  refine lv_as (y := xs (i + 2)) (by rw [nI_clamp (by omega)]) ?_
  refine g_wrI (o := 0) (m1 := 55) (by omega) (shL_X G ad) hI hP hS (g_runV (As := [.int (xs (i + 1)), .int (xs (i + 2))]) (rest := []) ky_yX6_glove lk_RL_27 C hX (gS_b0 hI hS) (hP.sub (sh1 := shX G (fun q_ => ad (0 + q_))) 0 55 (by omega) (shL_X G ad)) 44 (c_yX6_glove l G (fun q_ => ad (0 + q_)) (hI.sub (m := 55) 0 (by omega)) (mget σ 0) (xs (i + 1)) (xs (i + 2)) N hN hs) (by decide) (shX_44 G (fun q_ => ad (0 + q_)) _) ⟨rfl, rfl, by decide, by decide⟩ rfl hl.1 rfl (Nat.le_of_ble_eq_true rfl) ⟨Nat.le_of_ble_eq_true rfl, Nat.le_of_ble_eq_true rfl⟩ dL_law_308) (fun H locs hP hS => ?_)
  obtain ⟨σ1, e1⟩ : ∃ σ1, σ1 = mput σ 0 55 (x_glove (mget σ 0) (xs (i + 1)) (xs (i + 2))).2 := ⟨_, rfl⟩
  rw [← e1] at hP
  have hm : mget σ1 55 = mget σ 55 := by rw [e1]; exact mg_M
  refine lv_aload_n hx hb dL_law_311 rfl (lv_at hl 2 rfl) ?_
  refine lv_aload_n hx hb dL_law_312 rfl (lv_at hl 0 rfl) ?_
  refine lv_iload_n hx hb dL_law_313 rfl (lv_at hl 3 rfl) ?_
  refine lv_iconst (v := 1) hx hb dL_law_314 (by decide) ?_
  refine lv_iadd hx hb dL_law_315 ?_
  refine lv_as (y := nI (i + 1)) (nI_add i 1) ?_
  refine va_sld hx hb hX2 hbl hbA hS (vp_in_nI (show i + 1 < L by omega) (by omega)) dL_law_316 ?_
  refine lv_as (y := xs (i + 1)) (by rw [nI_clamp (by omega)]) ?_
  refine lv_aload_n hx hb dL_law_317 rfl (lv_at hl 0 rfl) ?_
  refine lv_iload_n hx hb dL_law_318 rfl (lv_at hl 3 rfl) ?_
  refine lv_iconst (v := 2) hx hb dL_law_319 (by decide) ?_
  refine lv_iadd hx hb dL_law_320 ?_
  refine lv_as (y := nI (i + 2)) (nI_add i 2) ?_
  refine va_sld hx hb hX2 hbl hbA hS (vp_in_nI (show i + 2 < L by omega) (by omega)) dL_law_321 ?_
  refine lv_as (y := xs (i + 2)) (by rw [nI_clamp (by omega)]) ?_
  refine g_wrI (o := 55) (m1 := 11) (by omega) (shL_M G ad) hI hP hS (g_runV (As := [.int (xs (i + 1)), .int (xs (i + 2))]) (rest := [.int (x_glove (mget σ 0) (xs (i + 1)) (xs (i + 2))).1]) ky_yX7_glove lk_RL_30 C hX (gS_b0 hI hS) (hP.sub (sh1 := shM G (fun q_ => ad (55 + q_))) 55 11 (by omega) (shL_M G ad)) 0 (c_yX7_glove l G (fun q_ => ad (55 + q_)) (hI.sub (m := 11) 55 (by omega)) (mget σ1 55) (xs (i + 1)) (xs (i + 2)) N hN (by rw [hm]; exact hsM)) (by decide) (shM_0 G (fun q_ => ad (55 + q_)) _) ⟨rfl, rfl, by decide, by decide⟩ rfl hl.1 rfl (Nat.le_of_ble_eq_true rfl) ⟨Nat.le_of_ble_eq_true rfl, Nat.le_of_ble_eq_true rfl⟩ dL_law_322) (fun H locs hP hS => ?_)
  have hq := eq_glove hR2 (xs (i + 1)) (xs (i + 2))
  rw [← hm] at hq
  exact lv_icmp_eq (tgt := 1399) hx hb dL_law_325 (by decide) (fun c_ => by have hn := RL_next (σ := σ) hq.2; rw [← e1] at hn; exact next _ H locs hn hP hS) (fun c_ => absurd hq.1 c_)

set_option maxHeartbeats 4000000 in
theorem law_c4 {p : Program} {l : Launch} {e : Env} {s : State} {m : MethodId} {below : List Frame} {meth : Method} {c : Code} {G : gG} {ad : Nat → Nat} {b L : Nat} {xs : Nat → Int32} (hL : L ≤ 3072) (C0 : lw_At p s m meth c b L xs) (hX : gX G s) (hb0 : G.2.2.1 = s.heap.size) (hI : gI G.2.2.1 66 ad) (i : Nat) (hi : i + 6 ≤ L) (σ : gM) (hR : RL2 σ) (H : Heap) (locs : List Loc) (ls : Array Slot) (hP : gP G.1 66 ad (gE (shL G ad) σ) H) (hS : va_S (gA 66 ad) s.heap H locs) (hl : lv_has ls 4 [(0, .ref b), (1, .ref (ad 44)), (2, .ref (ad 55)), (3, .int (nI i))]) (next : ∀ (σ : gM) (H : Heap) (locs : List Loc), RL2 σ → gP G.1 66 ad (gE (shL G ad) σ) H → va_S (gA 66 ad) s.heap H locs → W p l e room_1 s m #[Value.ref b] below meth c H locs 600000 7302250 (lw_Z below #[Value.ref b] s) (F0 m 1399 ls [])) : W p l e room_1 s m #[Value.ref b] below meth c H locs 600000 7302250 (lw_Z below #[Value.ref b] s) (F0 m 330 ls []) := by
  obtain ⟨hx, hb, hr, hml, hown, hts, hX2, hbl, hlocks, hgv⟩ := C0
  have C : CallFix p m c code 4 s #[Value.ref b] Tb RL := ⟨hx, hb, hml, hown, fun w hw => hts w (List.mem_filter.mp hw).1⟩
  have hbA : ¬ gA 66 ad b := fun q => by have := gA.b0 hI q; omega
  have hR2 : R (mget σ 0) (mget σ 55) := hR
  obtain ⟨N, hN, hs, hsM, hdM⟩ := rf_N hR2
  obtain ⟨T, hT, ht, htM⟩ := rf_T hR2
  have hszX := rf_SX hR2
  have hszM := rf_SM hR2
  obtain ⟨K, hK, hkK⟩ := rf_K hR2
  have hspM := rf_P hR2
  refine lv_aload_n hx hb dL_law_330 rfl (lv_at hl 1 rfl) ?_
  refine lv_aload_n hx hb dL_law_331 rfl (lv_at hl 0 rfl) ?_
  refine lv_iload_n hx hb dL_law_332 rfl (lv_at hl 3 rfl) ?_
  refine lv_iconst (v := 1) hx hb dL_law_333 (by decide) ?_
  refine lv_iadd hx hb dL_law_334 ?_
  refine lv_as (y := nI (i + 1)) (nI_add i 1) ?_
  refine va_sld hx hb hX2 hbl hbA hS (vp_in_nI (show i + 1 < L by omega) (by omega)) dL_law_335 ?_
  refine lv_as (y := xs (i + 1)) (by rw [nI_clamp (by omega)]) ?_
  refine lv_aload_n hx hb dL_law_336 rfl (lv_at hl 0 rfl) ?_
  refine lv_iload_n hx hb dL_law_337 rfl (lv_at hl 3 rfl) ?_
  refine lv_iconst (v := 2) hx hb dL_law_338 (by decide) ?_
  refine lv_iadd hx hb dL_law_339 ?_
  refine lv_as (y := nI (i + 2)) (nI_add i 2) ?_
  refine va_sld hx hb hX2 hbl hbA hS (vp_in_nI (show i + 2 < L by omega) (by omega)) dL_law_340 ?_
  refine lv_as (y := xs (i + 2)) (by rw [nI_clamp (by omega)]) ?_
  refine g_wrI (o := 0) (m1 := 55) (by omega) (shL_X G ad) hI hP hS (g_runV (As := [.int (xs (i + 1)), .int (xs (i + 2))]) (rest := []) ky_yX6_of lk_RL_31 C hX (gS_b0 hI hS) (hP.sub (sh1 := shX G (fun q_ => ad (0 + q_))) 0 55 (by omega) (shL_X G ad)) 44 (c_yX6_of l G (fun q_ => ad (0 + q_)) (hI.sub (m := 55) 0 (by omega)) (mget σ 0) (xs (i + 1)) (xs (i + 2)) N hN hs) (by decide) (shX_44 G (fun q_ => ad (0 + q_)) _) ⟨rfl, rfl, by decide, by decide⟩ rfl hl.1 rfl (Nat.le_of_ble_eq_true rfl) ⟨Nat.le_of_ble_eq_true rfl, Nat.le_of_ble_eq_true rfl⟩ dL_law_341) (fun H locs hP hS => ?_)
  obtain ⟨σ1, e1⟩ : ∃ σ1, σ1 = mput σ 0 55 (x_of (mget σ 0) (xs (i + 1)) (xs (i + 2))).2 := ⟨_, rfl⟩
  rw [← e1] at hP
  have hm : mget σ1 55 = mget σ 55 := by rw [e1]; exact mg_M
  refine lv_aload_n hx hb dL_law_344 rfl (lv_at hl 2 rfl) ?_
  refine lv_aload_n hx hb dL_law_345 rfl (lv_at hl 0 rfl) ?_
  refine lv_iload_n hx hb dL_law_346 rfl (lv_at hl 3 rfl) ?_
  refine lv_iconst (v := 1) hx hb dL_law_347 (by decide) ?_
  refine lv_iadd hx hb dL_law_348 ?_
  refine lv_as (y := nI (i + 1)) (nI_add i 1) ?_
  refine va_sld hx hb hX2 hbl hbA hS (vp_in_nI (show i + 1 < L by omega) (by omega)) dL_law_349 ?_
  refine lv_as (y := xs (i + 1)) (by rw [nI_clamp (by omega)]) ?_
  refine lv_aload_n hx hb dL_law_350 rfl (lv_at hl 0 rfl) ?_
  refine lv_iload_n hx hb dL_law_351 rfl (lv_at hl 3 rfl) ?_
  refine lv_iconst (v := 2) hx hb dL_law_352 (by decide) ?_
  refine lv_iadd hx hb dL_law_353 ?_
  refine lv_as (y := nI (i + 2)) (nI_add i 2) ?_
  refine va_sld hx hb hX2 hbl hbA hS (vp_in_nI (show i + 2 < L by omega) (by omega)) dL_law_354 ?_
  refine lv_as (y := xs (i + 2)) (by rw [nI_clamp (by omega)]) ?_
  refine g_wrI (o := 55) (m1 := 11) (by omega) (shL_M G ad) hI hP hS (g_runV (As := [.int (xs (i + 1)), .int (xs (i + 2))]) (rest := [.int (x_of (mget σ 0) (xs (i + 1)) (xs (i + 2))).1]) ky_yX7_of lk_RL_34 C hX (gS_b0 hI hS) (hP.sub (sh1 := shM G (fun q_ => ad (55 + q_))) 55 11 (by omega) (shL_M G ad)) 0 (c_yX7_of l G (fun q_ => ad (55 + q_)) (hI.sub (m := 11) 55 (by omega)) (mget σ1 55) (xs (i + 1)) (xs (i + 2)) N hN (by rw [hm]; exact hsM)) (by decide) (shM_0 G (fun q_ => ad (55 + q_)) _) ⟨rfl, rfl, by decide, by decide⟩ rfl hl.1 rfl (Nat.le_of_ble_eq_true rfl) ⟨Nat.le_of_ble_eq_true rfl, Nat.le_of_ble_eq_true rfl⟩ dL_law_355) (fun H locs hP hS => ?_)
  have hq := eq_of hR2 (xs (i + 1)) (xs (i + 2))
  rw [← hm] at hq
  exact lv_icmp_eq (tgt := 1399) hx hb dL_law_358 (by decide) (fun c_ => by have hn := RL_next (σ := σ) hq.2; rw [← e1] at hn; exact next _ H locs hn hP hS) (fun c_ => absurd hq.1 c_)

set_option maxHeartbeats 4000000 in
theorem law_c5 {p : Program} {l : Launch} {e : Env} {s : State} {m : MethodId} {below : List Frame} {meth : Method} {c : Code} {G : gG} {ad : Nat → Nat} {b L : Nat} {xs : Nat → Int32} (hL : L ≤ 3072) (C0 : lw_At p s m meth c b L xs) (hX : gX G s) (hb0 : G.2.2.1 = s.heap.size) (hI : gI G.2.2.1 66 ad) (i : Nat) (hi : i + 6 ≤ L) (σ : gM) (hR : RL2 σ) (H : Heap) (locs : List Loc) (ls : Array Slot) (hP : gP G.1 66 ad (gE (shL G ad) σ) H) (hS : va_S (gA 66 ad) s.heap H locs) (hl : lv_has ls 4 [(0, .ref b), (1, .ref (ad 44)), (2, .ref (ad 55)), (3, .int (nI i))]) (next : ∀ (σ : gM) (H : Heap) (locs : List Loc), RL2 σ → gP G.1 66 ad (gE (shL G ad) σ) H → va_S (gA 66 ad) s.heap H locs → W p l e room_1 s m #[Value.ref b] below meth c H locs 600000 7302250 (lw_Z below #[Value.ref b] s) (F0 m 1399 ls [])) : W p l e room_1 s m #[Value.ref b] below meth c H locs 600000 7302250 (lw_Z below #[Value.ref b] s) (F0 m 363 ls []) := by
  obtain ⟨hx, hb, hr, hml, hown, hts, hX2, hbl, hlocks, hgv⟩ := C0
  have C : CallFix p m c code 4 s #[Value.ref b] Tb RL := ⟨hx, hb, hml, hown, fun w hw => hts w (List.mem_filter.mp hw).1⟩
  have hbA : ¬ gA 66 ad b := fun q => by have := gA.b0 hI q; omega
  have hR2 : R (mget σ 0) (mget σ 55) := hR
  obtain ⟨N, hN, hs, hsM, hdM⟩ := rf_N hR2
  obtain ⟨T, hT, ht, htM⟩ := rf_T hR2
  have hszX := rf_SX hR2
  have hszM := rf_SM hR2
  obtain ⟨K, hK, hkK⟩ := rf_K hR2
  have hspM := rf_P hR2
  refine lv_aload_n hx hb dL_law_363 rfl (lv_at hl 1 rfl) ?_
  refine lv_aload_n hx hb dL_law_364 rfl (lv_at hl 0 rfl) ?_
  refine lv_iload_n hx hb dL_law_365 rfl (lv_at hl 3 rfl) ?_
  refine lv_iconst (v := 1) hx hb dL_law_366 (by decide) ?_
  refine lv_iadd hx hb dL_law_367 ?_
  refine lv_as (y := nI (i + 1)) (nI_add i 1) ?_
  refine va_sld hx hb hX2 hbl hbA hS (vp_in_nI (show i + 1 < L by omega) (by omega)) dL_law_368 ?_
  refine lv_as (y := xs (i + 1)) (by rw [nI_clamp (by omega)]) ?_
  refine lv_aload_n hx hb dL_law_369 rfl (lv_at hl 0 rfl) ?_
  refine lv_iload_n hx hb dL_law_370 rfl (lv_at hl 3 rfl) ?_
  refine lv_iconst (v := 2) hx hb dL_law_371 (by decide) ?_
  refine lv_iadd hx hb dL_law_372 ?_
  refine lv_as (y := nI (i + 2)) (nI_add i 2) ?_
  refine va_sld hx hb hX2 hbl hbA hS (vp_in_nI (show i + 2 < L by omega) (by omega)) dL_law_373 ?_
  refine lv_as (y := xs (i + 2)) (by rw [nI_clamp (by omega)]) ?_
  refine lv_aload_n hx hb dL_law_374 rfl (lv_at hl 0 rfl) ?_
  refine lv_iload_n hx hb dL_law_375 rfl (lv_at hl 3 rfl) ?_
  refine lv_iconst (v := 3) hx hb dL_law_376 (by decide) ?_
  refine lv_iadd hx hb dL_law_377 ?_
  refine lv_as (y := nI (i + 3)) (nI_add i 3) ?_
  refine va_sld hx hb hX2 hbl hbA hS (vp_in_nI (show i + 3 < L by omega) (by omega)) dL_law_378 ?_
  refine lv_as (y := xs (i + 3)) (by rw [nI_clamp (by omega)]) ?_
  refine g_wrI (o := 0) (m1 := 55) (by omega) (shL_X G ad) hI hP hS (g_runV (As := [.int (xs (i + 1)), .int (xs (i + 2)), .int (xs (i + 3))]) (rest := []) ky_yX6_change lk_RL_35 C hX (gS_b0 hI hS) (hP.sub (sh1 := shX G (fun q_ => ad (0 + q_))) 0 55 (by omega) (shL_X G ad)) 44 (c_yX6_change l G (fun q_ => ad (0 + q_)) (hI.sub (m := 55) 0 (by omega)) (mget σ 0) (xs (i + 1)) (xs (i + 2)) (xs (i + 3)) N hN hs) (by decide) (shX_44 G (fun q_ => ad (0 + q_)) _) ⟨rfl, rfl, by decide, by decide⟩ rfl hl.1 rfl (Nat.le_of_ble_eq_true rfl) ⟨Nat.le_of_ble_eq_true rfl, Nat.le_of_ble_eq_true rfl⟩ dL_law_379) (fun H locs hP hS => ?_)
  obtain ⟨σ1, e1⟩ : ∃ σ1, σ1 = mput σ 0 55 (x_change (mget σ 0) (xs (i + 1)) (xs (i + 2)) (xs (i + 3))).2 := ⟨_, rfl⟩
  rw [← e1] at hP
  have hm : mget σ1 55 = mget σ 55 := by rw [e1]; exact mg_M
  refine lv_aload_n hx hb dL_law_382 rfl (lv_at hl 2 rfl) ?_
  refine lv_aload_n hx hb dL_law_383 rfl (lv_at hl 0 rfl) ?_
  refine lv_iload_n hx hb dL_law_384 rfl (lv_at hl 3 rfl) ?_
  refine lv_iconst (v := 1) hx hb dL_law_385 (by decide) ?_
  refine lv_iadd hx hb dL_law_386 ?_
  refine lv_as (y := nI (i + 1)) (nI_add i 1) ?_
  refine va_sld hx hb hX2 hbl hbA hS (vp_in_nI (show i + 1 < L by omega) (by omega)) dL_law_387 ?_
  refine lv_as (y := xs (i + 1)) (by rw [nI_clamp (by omega)]) ?_
  refine lv_aload_n hx hb dL_law_388 rfl (lv_at hl 0 rfl) ?_
  refine lv_iload_n hx hb dL_law_389 rfl (lv_at hl 3 rfl) ?_
  refine lv_iconst (v := 2) hx hb dL_law_390 (by decide) ?_
  refine lv_iadd hx hb dL_law_391 ?_
  refine lv_as (y := nI (i + 2)) (nI_add i 2) ?_
  refine va_sld hx hb hX2 hbl hbA hS (vp_in_nI (show i + 2 < L by omega) (by omega)) dL_law_392 ?_
  refine lv_as (y := xs (i + 2)) (by rw [nI_clamp (by omega)]) ?_
  refine lv_aload_n hx hb dL_law_393 rfl (lv_at hl 0 rfl) ?_
  refine lv_iload_n hx hb dL_law_394 rfl (lv_at hl 3 rfl) ?_
  refine lv_iconst (v := 3) hx hb dL_law_395 (by decide) ?_
  refine lv_iadd hx hb dL_law_396 ?_
  refine lv_as (y := nI (i + 3)) (nI_add i 3) ?_
  refine va_sld hx hb hX2 hbl hbA hS (vp_in_nI (show i + 3 < L by omega) (by omega)) dL_law_397 ?_
  refine lv_as (y := xs (i + 3)) (by rw [nI_clamp (by omega)]) ?_
  refine g_wrI (o := 55) (m1 := 11) (by omega) (shL_M G ad) hI hP hS (g_runV (As := [.int (xs (i + 1)), .int (xs (i + 2)), .int (xs (i + 3))]) (rest := [.int (x_change (mget σ 0) (xs (i + 1)) (xs (i + 2)) (xs (i + 3))).1]) ky_yX7_change lk_RL_39 C hX (gS_b0 hI hS) (hP.sub (sh1 := shM G (fun q_ => ad (55 + q_))) 55 11 (by omega) (shL_M G ad)) 0 (c_yX7_change l G (fun q_ => ad (55 + q_)) (hI.sub (m := 11) 55 (by omega)) (mget σ1 55) (xs (i + 1)) (xs (i + 2)) (xs (i + 3)) N hN (by rw [hm]; exact hsM)) (by decide) (shM_0 G (fun q_ => ad (55 + q_)) _) ⟨rfl, rfl, by decide, by decide⟩ rfl hl.1 rfl (Nat.le_of_ble_eq_true rfl) ⟨Nat.le_of_ble_eq_true rfl, Nat.le_of_ble_eq_true rfl⟩ dL_law_398) (fun H locs hP hS => ?_)
  have hq := eq_change hR2 (xs (i + 1)) (xs (i + 2)) (xs (i + 3))
  rw [← hm] at hq
  exact lv_icmp_eq (tgt := 1399) hx hb dL_law_401 (by decide) (fun c_ => by have hn := RL_next (σ := σ) hq.2; rw [← e1] at hn; exact next _ H locs hn hP hS) (fun c_ => absurd hq.1 c_)

set_option maxHeartbeats 4000000 in
theorem law_c6 {p : Program} {l : Launch} {e : Env} {s : State} {m : MethodId} {below : List Frame} {meth : Method} {c : Code} {G : gG} {ad : Nat → Nat} {b L : Nat} {xs : Nat → Int32} (hL : L ≤ 3072) (C0 : lw_At p s m meth c b L xs) (hX : gX G s) (hb0 : G.2.2.1 = s.heap.size) (hI : gI G.2.2.1 66 ad) (i : Nat) (hi : i + 6 ≤ L) (σ : gM) (hR : RL2 σ) (H : Heap) (locs : List Loc) (ls : Array Slot) (hP : gP G.1 66 ad (gE (shL G ad) σ) H) (hS : va_S (gA 66 ad) s.heap H locs) (hl : lv_has ls 4 [(0, .ref b), (1, .ref (ad 44)), (2, .ref (ad 55)), (3, .int (nI i))]) (next : ∀ (σ : gM) (H : Heap) (locs : List Loc), RL2 σ → gP G.1 66 ad (gE (shL G ad) σ) H → va_S (gA 66 ad) s.heap H locs → W p l e room_1 s m #[Value.ref b] below meth c H locs 600000 7302250 (lw_Z below #[Value.ref b] s) (F0 m 1399 ls [])) : W p l e room_1 s m #[Value.ref b] below meth c H locs 600000 7302250 (lw_Z below #[Value.ref b] s) (F0 m 406 ls []) := by
  obtain ⟨hx, hb, hr, hml, hown, hts, hX2, hbl, hlocks, hgv⟩ := C0
  have C : CallFix p m c code 4 s #[Value.ref b] Tb RL := ⟨hx, hb, hml, hown, fun w hw => hts w (List.mem_filter.mp hw).1⟩
  have hbA : ¬ gA 66 ad b := fun q => by have := gA.b0 hI q; omega
  have hR2 : R (mget σ 0) (mget σ 55) := hR
  obtain ⟨N, hN, hs, hsM, hdM⟩ := rf_N hR2
  obtain ⟨T, hT, ht, htM⟩ := rf_T hR2
  have hszX := rf_SX hR2
  have hszM := rf_SM hR2
  obtain ⟨K, hK, hkK⟩ := rf_K hR2
  have hspM := rf_P hR2
  refine lv_aload_n hx hb dL_law_406 rfl (lv_at hl 1 rfl) ?_
  refine lv_aload_n hx hb dL_law_407 rfl (lv_at hl 0 rfl) ?_
  refine lv_iload_n hx hb dL_law_408 rfl (lv_at hl 3 rfl) ?_
  refine lv_iconst (v := 1) hx hb dL_law_409 (by decide) ?_
  refine lv_iadd hx hb dL_law_410 ?_
  refine lv_as (y := nI (i + 1)) (nI_add i 1) ?_
  refine va_sld hx hb hX2 hbl hbA hS (vp_in_nI (show i + 1 < L by omega) (by omega)) dL_law_411 ?_
  refine lv_as (y := xs (i + 1)) (by rw [nI_clamp (by omega)]) ?_
  refine g_wrI (o := 0) (m1 := 55) (by omega) (shL_X G ad) hI hP hS (g_runV (As := [.int (xs (i + 1))]) (rest := []) ky_yX6_draw lk_RL_40 C hX (gS_b0 hI hS) (hP.sub (sh1 := shX G (fun q_ => ad (0 + q_))) 0 55 (by omega) (shL_X G ad)) 44 (c_yX6_draw l G (fun q_ => ad (0 + q_)) (hI.sub (m := 55) 0 (by omega)) (mget σ 0) (xs (i + 1)) N hN hs) (by decide) (shX_44 G (fun q_ => ad (0 + q_)) _) ⟨rfl, rfl, by decide, by decide⟩ rfl hl.1 rfl (Nat.le_of_ble_eq_true rfl) ⟨Nat.le_of_ble_eq_true rfl, Nat.le_of_ble_eq_true rfl⟩ dL_law_412) (fun H locs hP hS => ?_)
  obtain ⟨σ1, e1⟩ : ∃ σ1, σ1 = mput σ 0 55 (x_draw (mget σ 0) (xs (i + 1))).2 := ⟨_, rfl⟩
  rw [← e1] at hP
  have hm : mget σ1 55 = mget σ 55 := by rw [e1]; exact mg_M
  refine lv_aload_n hx hb dL_law_415 rfl (lv_at hl 2 rfl) ?_
  refine lv_aload_n hx hb dL_law_416 rfl (lv_at hl 0 rfl) ?_
  refine lv_iload_n hx hb dL_law_417 rfl (lv_at hl 3 rfl) ?_
  refine lv_iconst (v := 1) hx hb dL_law_418 (by decide) ?_
  refine lv_iadd hx hb dL_law_419 ?_
  refine lv_as (y := nI (i + 1)) (nI_add i 1) ?_
  refine va_sld hx hb hX2 hbl hbA hS (vp_in_nI (show i + 1 < L by omega) (by omega)) dL_law_420 ?_
  refine lv_as (y := xs (i + 1)) (by rw [nI_clamp (by omega)]) ?_
  refine g_wrI (o := 55) (m1 := 11) (by omega) (shL_M G ad) hI hP hS (g_runV (As := [.int (xs (i + 1))]) (rest := [.int (x_draw (mget σ 0) (xs (i + 1))).1]) ky_yX7_draw lk_RL_43 C hX (gS_b0 hI hS) (hP.sub (sh1 := shM G (fun q_ => ad (55 + q_))) 55 11 (by omega) (shL_M G ad)) 0 (c_yX7_draw l G (fun q_ => ad (55 + q_)) (hI.sub (m := 11) 55 (by omega)) (mget σ1 55) (xs (i + 1)) N hN (by rw [hm]; exact hsM)) (by decide) (shM_0 G (fun q_ => ad (55 + q_)) _) ⟨rfl, rfl, by decide, by decide⟩ rfl hl.1 rfl (Nat.le_of_ble_eq_true rfl) ⟨Nat.le_of_ble_eq_true rfl, Nat.le_of_ble_eq_true rfl⟩ dL_law_421) (fun H locs hP hS => ?_)
  have hq := eq_draw hR2 (xs (i + 1))
  rw [← hm] at hq
  exact lv_icmp_eq (tgt := 1399) hx hb dL_law_424 (by decide) (fun c_ => by have hn := RL_next (σ := σ) hq.2; rw [← e1] at hn; exact next _ H locs hn hP hS) (fun c_ => absurd hq.1 c_)

set_option maxHeartbeats 4000000 in
theorem law_c7 {p : Program} {l : Launch} {e : Env} {s : State} {m : MethodId} {below : List Frame} {meth : Method} {c : Code} {G : gG} {ad : Nat → Nat} {b L : Nat} {xs : Nat → Int32} (hL : L ≤ 3072) (C0 : lw_At p s m meth c b L xs) (hX : gX G s) (hb0 : G.2.2.1 = s.heap.size) (hI : gI G.2.2.1 66 ad) (i : Nat) (hi : i + 6 ≤ L) (σ : gM) (hR : RL2 σ) (H : Heap) (locs : List Loc) (ls : Array Slot) (hP : gP G.1 66 ad (gE (shL G ad) σ) H) (hS : va_S (gA 66 ad) s.heap H locs) (hl : lv_has ls 4 [(0, .ref b), (1, .ref (ad 44)), (2, .ref (ad 55)), (3, .int (nI i))]) (next : ∀ (σ : gM) (H : Heap) (locs : List Loc), RL2 σ → gP G.1 66 ad (gE (shL G ad) σ) H → va_S (gA 66 ad) s.heap H locs → W p l e room_1 s m #[Value.ref b] below meth c H locs 600000 7302250 (lw_Z below #[Value.ref b] s) (F0 m 1399 ls [])) : W p l e room_1 s m #[Value.ref b] below meth c H locs 600000 7302250 (lw_Z below #[Value.ref b] s) (F0 m 429 ls []) := by
  obtain ⟨hx, hb, hr, hml, hown, hts, hX2, hbl, hlocks, hgv⟩ := C0
  have C : CallFix p m c code 4 s #[Value.ref b] Tb RL := ⟨hx, hb, hml, hown, fun w hw => hts w (List.mem_filter.mp hw).1⟩
  have hbA : ¬ gA 66 ad b := fun q => by have := gA.b0 hI q; omega
  have hR2 : R (mget σ 0) (mget σ 55) := hR
  obtain ⟨N, hN, hs, hsM, hdM⟩ := rf_N hR2
  obtain ⟨T, hT, ht, htM⟩ := rf_T hR2
  have hszX := rf_SX hR2
  have hszM := rf_SM hR2
  obtain ⟨K, hK, hkK⟩ := rf_K hR2
  have hspM := rf_P hR2
  refine lv_aload_n hx hb dL_law_429 rfl (lv_at hl 1 rfl) ?_
  refine lv_aload_n hx hb dL_law_430 rfl (lv_at hl 0 rfl) ?_
  refine lv_iload_n hx hb dL_law_431 rfl (lv_at hl 3 rfl) ?_
  refine lv_iconst (v := 1) hx hb dL_law_432 (by decide) ?_
  refine lv_iadd hx hb dL_law_433 ?_
  refine lv_as (y := nI (i + 1)) (nI_add i 1) ?_
  refine va_sld hx hb hX2 hbl hbA hS (vp_in_nI (show i + 1 < L by omega) (by omega)) dL_law_434 ?_
  refine lv_as (y := xs (i + 1)) (by rw [nI_clamp (by omega)]) ?_
  refine lv_aload_n hx hb dL_law_435 rfl (lv_at hl 0 rfl) ?_
  refine lv_iload_n hx hb dL_law_436 rfl (lv_at hl 3 rfl) ?_
  refine lv_iconst (v := 2) hx hb dL_law_437 (by decide) ?_
  refine lv_iadd hx hb dL_law_438 ?_
  refine lv_as (y := nI (i + 2)) (nI_add i 2) ?_
  refine va_sld hx hb hX2 hbl hbA hS (vp_in_nI (show i + 2 < L by omega) (by omega)) dL_law_439 ?_
  refine lv_as (y := xs (i + 2)) (by rw [nI_clamp (by omega)]) ?_
  refine g_wrI (o := 0) (m1 := 55) (by omega) (shL_X G ad) hI hP hS (g_runV (As := [.int (xs (i + 1)), .int (xs (i + 2))]) (rest := []) ky_yX6_who lk_RL_44 C hX (gS_b0 hI hS) (hP.sub (sh1 := shX G (fun q_ => ad (0 + q_))) 0 55 (by omega) (shL_X G ad)) 44 (c_yX6_who l G (fun q_ => ad (0 + q_)) (hI.sub (m := 55) 0 (by omega)) (mget σ 0) (xs (i + 1)) (xs (i + 2)) N hN hs) (by decide) (shX_44 G (fun q_ => ad (0 + q_)) _) ⟨rfl, rfl, by decide, by decide⟩ rfl hl.1 rfl (Nat.le_of_ble_eq_true rfl) ⟨Nat.le_of_ble_eq_true rfl, Nat.le_of_ble_eq_true rfl⟩ dL_law_440) (fun H locs hP hS => ?_)
  obtain ⟨σ1, e1⟩ : ∃ σ1, σ1 = mput σ 0 55 (x_who (mget σ 0) (xs (i + 1)) (xs (i + 2))).2 := ⟨_, rfl⟩
  rw [← e1] at hP
  have hm : mget σ1 55 = mget σ 55 := by rw [e1]; exact mg_M
  refine lv_aload_n hx hb dL_law_443 rfl (lv_at hl 2 rfl) ?_
  refine lv_aload_n hx hb dL_law_444 rfl (lv_at hl 0 rfl) ?_
  refine lv_iload_n hx hb dL_law_445 rfl (lv_at hl 3 rfl) ?_
  refine lv_iconst (v := 1) hx hb dL_law_446 (by decide) ?_
  refine lv_iadd hx hb dL_law_447 ?_
  refine lv_as (y := nI (i + 1)) (nI_add i 1) ?_
  refine va_sld hx hb hX2 hbl hbA hS (vp_in_nI (show i + 1 < L by omega) (by omega)) dL_law_448 ?_
  refine lv_as (y := xs (i + 1)) (by rw [nI_clamp (by omega)]) ?_
  refine lv_aload_n hx hb dL_law_449 rfl (lv_at hl 0 rfl) ?_
  refine lv_iload_n hx hb dL_law_450 rfl (lv_at hl 3 rfl) ?_
  refine lv_iconst (v := 2) hx hb dL_law_451 (by decide) ?_
  refine lv_iadd hx hb dL_law_452 ?_
  refine lv_as (y := nI (i + 2)) (nI_add i 2) ?_
  refine va_sld hx hb hX2 hbl hbA hS (vp_in_nI (show i + 2 < L by omega) (by omega)) dL_law_453 ?_
  refine lv_as (y := xs (i + 2)) (by rw [nI_clamp (by omega)]) ?_
  refine g_wrI (o := 55) (m1 := 11) (by omega) (shL_M G ad) hI hP hS (g_runV (As := [.int (xs (i + 1)), .int (xs (i + 2))]) (rest := [.int (x_who (mget σ 0) (xs (i + 1)) (xs (i + 2))).1]) ky_yX7_who lk_RL_47 C hX (gS_b0 hI hS) (hP.sub (sh1 := shM G (fun q_ => ad (55 + q_))) 55 11 (by omega) (shL_M G ad)) 0 (c_yX7_who l G (fun q_ => ad (55 + q_)) (hI.sub (m := 11) 55 (by omega)) (mget σ1 55) (xs (i + 1)) (xs (i + 2)) N hN (by rw [hm]; exact hsM)) (by decide) (shM_0 G (fun q_ => ad (55 + q_)) _) ⟨rfl, rfl, by decide, by decide⟩ rfl hl.1 rfl (Nat.le_of_ble_eq_true rfl) ⟨Nat.le_of_ble_eq_true rfl, Nat.le_of_ble_eq_true rfl⟩ dL_law_454) (fun H locs hP hS => ?_)
  have hq := eq_who hR2 (xs (i + 1)) (xs (i + 2))
  rw [← hm] at hq
  exact lv_icmp_eq (tgt := 1399) hx hb dL_law_457 (by decide) (fun c_ => by have hn := RL_next (σ := σ) hq.2; rw [← e1] at hn; exact next _ H locs hn hP hS) (fun c_ => absurd hq.1 c_)

set_option maxHeartbeats 4000000 in
theorem law_c8 {p : Program} {l : Launch} {e : Env} {s : State} {m : MethodId} {below : List Frame} {meth : Method} {c : Code} {G : gG} {ad : Nat → Nat} {b L : Nat} {xs : Nat → Int32} (hL : L ≤ 3072) (C0 : lw_At p s m meth c b L xs) (hX : gX G s) (hb0 : G.2.2.1 = s.heap.size) (hI : gI G.2.2.1 66 ad) (i : Nat) (hi : i + 6 ≤ L) (σ : gM) (hR : RL2 σ) (H : Heap) (locs : List Loc) (ls : Array Slot) (hP : gP G.1 66 ad (gE (shL G ad) σ) H) (hS : va_S (gA 66 ad) s.heap H locs) (hl : lv_has ls 4 [(0, .ref b), (1, .ref (ad 44)), (2, .ref (ad 55)), (3, .int (nI i))]) (next : ∀ (σ : gM) (H : Heap) (locs : List Loc), RL2 σ → gP G.1 66 ad (gE (shL G ad) σ) H → va_S (gA 66 ad) s.heap H locs → W p l e room_1 s m #[Value.ref b] below meth c H locs 600000 7302250 (lw_Z below #[Value.ref b] s) (F0 m 1399 ls [])) : W p l e room_1 s m #[Value.ref b] below meth c H locs 600000 7302250 (lw_Z below #[Value.ref b] s) (F0 m 462 ls []) := by
  obtain ⟨hx, hb, hr, hml, hown, hts, hX2, hbl, hlocks, hgv⟩ := C0
  have C : CallFix p m c code 4 s #[Value.ref b] Tb RL := ⟨hx, hb, hml, hown, fun w hw => hts w (List.mem_filter.mp hw).1⟩
  have hbA : ¬ gA 66 ad b := fun q => by have := gA.b0 hI q; omega
  have hR2 : R (mget σ 0) (mget σ 55) := hR
  obtain ⟨N, hN, hs, hsM, hdM⟩ := rf_N hR2
  obtain ⟨T, hT, ht, htM⟩ := rf_T hR2
  have hszX := rf_SX hR2
  have hszM := rf_SM hR2
  obtain ⟨K, hK, hkK⟩ := rf_K hR2
  have hspM := rf_P hR2
  refine lv_aload_n hx hb dL_law_462 rfl (lv_at hl 1 rfl) ?_
  refine lv_aload_n hx hb dL_law_463 rfl (lv_at hl 0 rfl) ?_
  refine lv_iload_n hx hb dL_law_464 rfl (lv_at hl 3 rfl) ?_
  refine lv_iconst (v := 1) hx hb dL_law_465 (by decide) ?_
  refine lv_iadd hx hb dL_law_466 ?_
  refine lv_as (y := nI (i + 1)) (nI_add i 1) ?_
  refine va_sld hx hb hX2 hbl hbA hS (vp_in_nI (show i + 1 < L by omega) (by omega)) dL_law_467 ?_
  refine lv_as (y := xs (i + 1)) (by rw [nI_clamp (by omega)]) ?_
  refine g_wrI (o := 0) (m1 := 55) (by omega) (shL_X G ad) hI hP hS (g_runV (As := [.int (xs (i + 1))]) (rest := []) ky_yX6_go lk_RL_48 C hX (gS_b0 hI hS) (hP.sub (sh1 := shX G (fun q_ => ad (0 + q_))) 0 55 (by omega) (shL_X G ad)) 44 (c_yX6_go l G (fun q_ => ad (0 + q_)) (hI.sub (m := 55) 0 (by omega)) (mget σ 0) (xs (i + 1)) N hN hs) (by decide) (shX_44 G (fun q_ => ad (0 + q_)) _) ⟨rfl, rfl, by decide, by decide⟩ rfl hl.1 rfl (Nat.le_of_ble_eq_true rfl) ⟨Nat.le_of_ble_eq_true rfl, Nat.le_of_ble_eq_true rfl⟩ dL_law_468) (fun H locs hP hS => ?_)
  obtain ⟨σ1, e1⟩ : ∃ σ1, σ1 = mput σ 0 55 (x_go (mget σ 0) (xs (i + 1))).2 := ⟨_, rfl⟩
  rw [← e1] at hP
  have hm : mget σ1 55 = mget σ 55 := by rw [e1]; exact mg_M
  refine lv_aload_n hx hb dL_law_471 rfl (lv_at hl 2 rfl) ?_
  refine lv_aload_n hx hb dL_law_472 rfl (lv_at hl 0 rfl) ?_
  refine lv_iload_n hx hb dL_law_473 rfl (lv_at hl 3 rfl) ?_
  refine lv_iconst (v := 1) hx hb dL_law_474 (by decide) ?_
  refine lv_iadd hx hb dL_law_475 ?_
  refine lv_as (y := nI (i + 1)) (nI_add i 1) ?_
  refine va_sld hx hb hX2 hbl hbA hS (vp_in_nI (show i + 1 < L by omega) (by omega)) dL_law_476 ?_
  refine lv_as (y := xs (i + 1)) (by rw [nI_clamp (by omega)]) ?_
  refine g_wrI (o := 55) (m1 := 11) (by omega) (shL_M G ad) hI hP hS (g_runV (As := [.int (xs (i + 1))]) (rest := [.int (x_go (mget σ 0) (xs (i + 1))).1]) ky_yX7_go lk_RL_51 C hX (gS_b0 hI hS) (hP.sub (sh1 := shM G (fun q_ => ad (55 + q_))) 55 11 (by omega) (shL_M G ad)) 0 (c_yX7_go l G (fun q_ => ad (55 + q_)) (hI.sub (m := 11) 55 (by omega)) (mget σ1 55) (xs (i + 1)) N hN (by rw [hm]; exact hsM) (by rw [hm]; exact hdM)) (by decide) (shM_0 G (fun q_ => ad (55 + q_)) _) ⟨rfl, rfl, by decide, by decide⟩ rfl hl.1 rfl (Nat.le_of_ble_eq_true rfl) ⟨Nat.le_of_ble_eq_true rfl, Nat.le_of_ble_eq_true rfl⟩ dL_law_477) (fun H locs hP hS => ?_)
  have hq := eq_go hR2 (xs (i + 1))
  rw [← hm] at hq
  exact lv_icmp_eq (tgt := 1399) hx hb dL_law_480 (by decide) (fun c_ => by have hn := RL_next (σ := σ) hq.2; rw [← e1] at hn; exact next _ H locs hn hP hS) (fun c_ => absurd hq.1 c_)

set_option maxHeartbeats 4000000 in
theorem law_c9 {p : Program} {l : Launch} {e : Env} {s : State} {m : MethodId} {below : List Frame} {meth : Method} {c : Code} {G : gG} {ad : Nat → Nat} {b L : Nat} {xs : Nat → Int32} (hL : L ≤ 3072) (C0 : lw_At p s m meth c b L xs) (hX : gX G s) (hb0 : G.2.2.1 = s.heap.size) (hI : gI G.2.2.1 66 ad) (i : Nat) (hi : i + 6 ≤ L) (σ : gM) (hR : RL2 σ) (H : Heap) (locs : List Loc) (ls : Array Slot) (hP : gP G.1 66 ad (gE (shL G ad) σ) H) (hS : va_S (gA 66 ad) s.heap H locs) (hl : lv_has ls 4 [(0, .ref b), (1, .ref (ad 44)), (2, .ref (ad 55)), (3, .int (nI i))]) (next : ∀ (σ : gM) (H : Heap) (locs : List Loc), RL2 σ → gP G.1 66 ad (gE (shL G ad) σ) H → va_S (gA 66 ad) s.heap H locs → W p l e room_1 s m #[Value.ref b] below meth c H locs 600000 7302250 (lw_Z below #[Value.ref b] s) (F0 m 1399 ls [])) : W p l e room_1 s m #[Value.ref b] below meth c H locs 600000 7302250 (lw_Z below #[Value.ref b] s) (F0 m 485 ls []) := by
  obtain ⟨hx, hb, hr, hml, hown, hts, hX2, hbl, hlocks, hgv⟩ := C0
  have C : CallFix p m c code 4 s #[Value.ref b] Tb RL := ⟨hx, hb, hml, hown, fun w hw => hts w (List.mem_filter.mp hw).1⟩
  have hbA : ¬ gA 66 ad b := fun q => by have := gA.b0 hI q; omega
  have hR2 : R (mget σ 0) (mget σ 55) := hR
  obtain ⟨N, hN, hs, hsM, hdM⟩ := rf_N hR2
  obtain ⟨T, hT, ht, htM⟩ := rf_T hR2
  have hszX := rf_SX hR2
  have hszM := rf_SM hR2
  obtain ⟨K, hK, hkK⟩ := rf_K hR2
  have hspM := rf_P hR2
  refine lv_aload_n hx hb dL_law_485 rfl (lv_at hl 1 rfl) ?_
  refine lv_aload_n hx hb dL_law_486 rfl (lv_at hl 0 rfl) ?_
  refine lv_iload_n hx hb dL_law_487 rfl (lv_at hl 3 rfl) ?_
  refine lv_iconst (v := 1) hx hb dL_law_488 (by decide) ?_
  refine lv_iadd hx hb dL_law_489 ?_
  refine lv_as (y := nI (i + 1)) (nI_add i 1) ?_
  refine va_sld hx hb hX2 hbl hbA hS (vp_in_nI (show i + 1 < L by omega) (by omega)) dL_law_490 ?_
  refine lv_as (y := xs (i + 1)) (by rw [nI_clamp (by omega)]) ?_
  refine g_wrI (o := 0) (m1 := 55) (by omega) (shL_X G ad) hI hP hS (g_runV (As := [.int (xs (i + 1))]) (rest := []) ky_yX6_now lk_RL_52 C hX (gS_b0 hI hS) (hP.sub (sh1 := shX G (fun q_ => ad (0 + q_))) 0 55 (by omega) (shL_X G ad)) 44 (c_yX6_now l G (fun q_ => ad (0 + q_)) (hI.sub (m := 55) 0 (by omega)) (mget σ 0) (xs (i + 1)) N hN hs) (by decide) (shX_44 G (fun q_ => ad (0 + q_)) _) ⟨rfl, rfl, by decide, by decide⟩ rfl hl.1 rfl (Nat.le_of_ble_eq_true rfl) ⟨Nat.le_of_ble_eq_true rfl, Nat.le_of_ble_eq_true rfl⟩ dL_law_491) (fun H locs hP hS => ?_)
  obtain ⟨σ1, e1⟩ : ∃ σ1, σ1 = mput σ 0 55 (x_now (mget σ 0) (xs (i + 1))).2 := ⟨_, rfl⟩
  rw [← e1] at hP
  have hm : mget σ1 55 = mget σ 55 := by rw [e1]; exact mg_M
  refine lv_aload_n hx hb dL_law_494 rfl (lv_at hl 2 rfl) ?_
  refine lv_aload_n hx hb dL_law_495 rfl (lv_at hl 0 rfl) ?_
  refine lv_iload_n hx hb dL_law_496 rfl (lv_at hl 3 rfl) ?_
  refine lv_iconst (v := 1) hx hb dL_law_497 (by decide) ?_
  refine lv_iadd hx hb dL_law_498 ?_
  refine lv_as (y := nI (i + 1)) (nI_add i 1) ?_
  refine va_sld hx hb hX2 hbl hbA hS (vp_in_nI (show i + 1 < L by omega) (by omega)) dL_law_499 ?_
  refine lv_as (y := xs (i + 1)) (by rw [nI_clamp (by omega)]) ?_
  refine g_wrI (o := 55) (m1 := 11) (by omega) (shL_M G ad) hI hP hS (g_runV (As := [.int (xs (i + 1))]) (rest := [.int (x_now (mget σ 0) (xs (i + 1))).1]) ky_yX7_now lk_RL_55 C hX (gS_b0 hI hS) (hP.sub (sh1 := shM G (fun q_ => ad (55 + q_))) 55 11 (by omega) (shL_M G ad)) 0 (c_yX7_now l G (fun q_ => ad (55 + q_)) (hI.sub (m := 11) 55 (by omega)) (mget σ1 55) (xs (i + 1)) N hN (by rw [hm]; exact hsM) (by rw [hm]; exact hdM)) (by decide) (shM_0 G (fun q_ => ad (55 + q_)) _) ⟨rfl, rfl, by decide, by decide⟩ rfl hl.1 rfl (Nat.le_of_ble_eq_true rfl) ⟨Nat.le_of_ble_eq_true rfl, Nat.le_of_ble_eq_true rfl⟩ dL_law_500) (fun H locs hP hS => ?_)
  have hq := eq_now hR2 (xs (i + 1))
  rw [← hm] at hq
  exact lv_icmp_eq (tgt := 1399) hx hb dL_law_503 (by decide) (fun c_ => by have hn := RL_next (σ := σ) hq.2; rw [← e1] at hn; exact next _ H locs hn hP hS) (fun c_ => absurd hq.1 c_)

set_option maxHeartbeats 4000000 in
theorem law_c10 {p : Program} {l : Launch} {e : Env} {s : State} {m : MethodId} {below : List Frame} {meth : Method} {c : Code} {G : gG} {ad : Nat → Nat} {b L : Nat} {xs : Nat → Int32} (hL : L ≤ 3072) (C0 : lw_At p s m meth c b L xs) (hX : gX G s) (hb0 : G.2.2.1 = s.heap.size) (hI : gI G.2.2.1 66 ad) (i : Nat) (hi : i + 6 ≤ L) (σ : gM) (hR : RL2 σ) (H : Heap) (locs : List Loc) (ls : Array Slot) (hP : gP G.1 66 ad (gE (shL G ad) σ) H) (hS : va_S (gA 66 ad) s.heap H locs) (hl : lv_has ls 4 [(0, .ref b), (1, .ref (ad 44)), (2, .ref (ad 55)), (3, .int (nI i))]) (next : ∀ (σ : gM) (H : Heap) (locs : List Loc), RL2 σ → gP G.1 66 ad (gE (shL G ad) σ) H → va_S (gA 66 ad) s.heap H locs → W p l e room_1 s m #[Value.ref b] below meth c H locs 600000 7302250 (lw_Z below #[Value.ref b] s) (F0 m 1399 ls [])) : W p l e room_1 s m #[Value.ref b] below meth c H locs 600000 7302250 (lw_Z below #[Value.ref b] s) (F0 m 508 ls []) := by
  obtain ⟨hx, hb, hr, hml, hown, hts, hX2, hbl, hlocks, hgv⟩ := C0
  have C : CallFix p m c code 4 s #[Value.ref b] Tb RL := ⟨hx, hb, hml, hown, fun w hw => hts w (List.mem_filter.mp hw).1⟩
  have hbA : ¬ gA 66 ad b := fun q => by have := gA.b0 hI q; omega
  have hR2 : R (mget σ 0) (mget σ 55) := hR
  obtain ⟨N, hN, hs, hsM, hdM⟩ := rf_N hR2
  obtain ⟨T, hT, ht, htM⟩ := rf_T hR2
  have hszX := rf_SX hR2
  have hszM := rf_SM hR2
  obtain ⟨K, hK, hkK⟩ := rf_K hR2
  have hspM := rf_P hR2
  refine lv_aload_n hx hb dL_law_508 rfl (lv_at hl 1 rfl) ?_
  refine lv_aload_n hx hb dL_law_509 rfl (lv_at hl 0 rfl) ?_
  refine lv_iload_n hx hb dL_law_510 rfl (lv_at hl 3 rfl) ?_
  refine lv_iconst (v := 1) hx hb dL_law_511 (by decide) ?_
  refine lv_iadd hx hb dL_law_512 ?_
  refine lv_as (y := nI (i + 1)) (nI_add i 1) ?_
  refine va_sld hx hb hX2 hbl hbA hS (vp_in_nI (show i + 1 < L by omega) (by omega)) dL_law_513 ?_
  refine lv_as (y := xs (i + 1)) (by rw [nI_clamp (by omega)]) ?_
  refine lv_aload_n hx hb dL_law_514 rfl (lv_at hl 0 rfl) ?_
  refine lv_iload_n hx hb dL_law_515 rfl (lv_at hl 3 rfl) ?_
  refine lv_iconst (v := 2) hx hb dL_law_516 (by decide) ?_
  refine lv_iadd hx hb dL_law_517 ?_
  refine lv_as (y := nI (i + 2)) (nI_add i 2) ?_
  refine va_sld hx hb hX2 hbl hbA hS (vp_in_nI (show i + 2 < L by omega) (by omega)) dL_law_518 ?_
  refine lv_as (y := xs (i + 2)) (by rw [nI_clamp (by omega)]) ?_
  refine lv_aload_n hx hb dL_law_519 rfl (lv_at hl 0 rfl) ?_
  refine lv_iload_n hx hb dL_law_520 rfl (lv_at hl 3 rfl) ?_
  refine lv_iconst (v := 3) hx hb dL_law_521 (by decide) ?_
  refine lv_iadd hx hb dL_law_522 ?_
  refine lv_as (y := nI (i + 3)) (nI_add i 3) ?_
  refine va_sld hx hb hX2 hbl hbA hS (vp_in_nI (show i + 3 < L by omega) (by omega)) dL_law_523 ?_
  refine lv_as (y := xs (i + 3)) (by rw [nI_clamp (by omega)]) ?_
  refine g_wrI (o := 0) (m1 := 55) (by omega) (shL_X G ad) hI hP hS (g_runV (As := [.int (xs (i + 1)), .int (xs (i + 2)), .int (xs (i + 3))]) (rest := []) ky_yX6_ahead lk_RL_56 C hX (gS_b0 hI hS) (hP.sub (sh1 := shX G (fun q_ => ad (0 + q_))) 0 55 (by omega) (shL_X G ad)) 44 (c_yX6_ahead l G (fun q_ => ad (0 + q_)) (hI.sub (m := 55) 0 (by omega)) (mget σ 0) (xs (i + 1)) (xs (i + 2)) (xs (i + 3)) N hN hs) (by decide) (shX_44 G (fun q_ => ad (0 + q_)) _) ⟨rfl, rfl, by decide, by decide⟩ rfl hl.1 rfl (Nat.le_of_ble_eq_true rfl) ⟨Nat.le_of_ble_eq_true rfl, Nat.le_of_ble_eq_true rfl⟩ dL_law_524) (fun H locs hP hS => ?_)
  obtain ⟨σ1, e1⟩ : ∃ σ1, σ1 = mput σ 0 55 (x_ahead (mget σ 0) (xs (i + 1)) (xs (i + 2)) (xs (i + 3))).2 := ⟨_, rfl⟩
  rw [← e1] at hP
  have hm : mget σ1 55 = mget σ 55 := by rw [e1]; exact mg_M
  refine lv_aload_n hx hb dL_law_527 rfl (lv_at hl 2 rfl) ?_
  refine lv_aload_n hx hb dL_law_528 rfl (lv_at hl 0 rfl) ?_
  refine lv_iload_n hx hb dL_law_529 rfl (lv_at hl 3 rfl) ?_
  refine lv_iconst (v := 1) hx hb dL_law_530 (by decide) ?_
  refine lv_iadd hx hb dL_law_531 ?_
  refine lv_as (y := nI (i + 1)) (nI_add i 1) ?_
  refine va_sld hx hb hX2 hbl hbA hS (vp_in_nI (show i + 1 < L by omega) (by omega)) dL_law_532 ?_
  refine lv_as (y := xs (i + 1)) (by rw [nI_clamp (by omega)]) ?_
  refine lv_aload_n hx hb dL_law_533 rfl (lv_at hl 0 rfl) ?_
  refine lv_iload_n hx hb dL_law_534 rfl (lv_at hl 3 rfl) ?_
  refine lv_iconst (v := 2) hx hb dL_law_535 (by decide) ?_
  refine lv_iadd hx hb dL_law_536 ?_
  refine lv_as (y := nI (i + 2)) (nI_add i 2) ?_
  refine va_sld hx hb hX2 hbl hbA hS (vp_in_nI (show i + 2 < L by omega) (by omega)) dL_law_537 ?_
  refine lv_as (y := xs (i + 2)) (by rw [nI_clamp (by omega)]) ?_
  refine lv_aload_n hx hb dL_law_538 rfl (lv_at hl 0 rfl) ?_
  refine lv_iload_n hx hb dL_law_539 rfl (lv_at hl 3 rfl) ?_
  refine lv_iconst (v := 3) hx hb dL_law_540 (by decide) ?_
  refine lv_iadd hx hb dL_law_541 ?_
  refine lv_as (y := nI (i + 3)) (nI_add i 3) ?_
  refine va_sld hx hb hX2 hbl hbA hS (vp_in_nI (show i + 3 < L by omega) (by omega)) dL_law_542 ?_
  refine lv_as (y := xs (i + 3)) (by rw [nI_clamp (by omega)]) ?_
  refine g_wrI (o := 55) (m1 := 11) (by omega) (shL_M G ad) hI hP hS (g_runV (As := [.int (xs (i + 1)), .int (xs (i + 2)), .int (xs (i + 3))]) (rest := [.int (x_ahead (mget σ 0) (xs (i + 1)) (xs (i + 2)) (xs (i + 3))).1]) ky_yX7_ahead lk_RL_59 C hX (gS_b0 hI hS) (hP.sub (sh1 := shM G (fun q_ => ad (55 + q_))) 55 11 (by omega) (shL_M G ad)) 0 (c_yX7_ahead l G (fun q_ => ad (55 + q_)) (hI.sub (m := 11) 55 (by omega)) (mget σ1 55) (xs (i + 1)) (xs (i + 2)) (xs (i + 3)) N hN (by rw [hm]; exact hsM) (by rw [hm]; exact hdM)) (by decide) (shM_0 G (fun q_ => ad (55 + q_)) _) ⟨rfl, rfl, by decide, by decide⟩ rfl hl.1 rfl (Nat.le_of_ble_eq_true rfl) ⟨Nat.le_of_ble_eq_true rfl, Nat.le_of_ble_eq_true rfl⟩ dL_law_543) (fun H locs hP hS => ?_)
  have hq := eq_ahead hR2 (xs (i + 1)) (xs (i + 2)) (xs (i + 3))
  rw [← hm] at hq
  exact lv_icmp_eq (tgt := 1399) hx hb dL_law_546 (by decide) (fun c_ => by have hn := RL_next (σ := σ) hq.2; rw [← e1] at hn; exact next _ H locs hn hP hS) (fun c_ => absurd hq.1 c_)

set_option maxHeartbeats 4000000 in
theorem law_c11 {p : Program} {l : Launch} {e : Env} {s : State} {m : MethodId} {below : List Frame} {meth : Method} {c : Code} {G : gG} {ad : Nat → Nat} {b L : Nat} {xs : Nat → Int32} (hL : L ≤ 3072) (C0 : lw_At p s m meth c b L xs) (hX : gX G s) (hb0 : G.2.2.1 = s.heap.size) (hI : gI G.2.2.1 66 ad) (i : Nat) (hi : i + 6 ≤ L) (σ : gM) (hR : RL2 σ) (H : Heap) (locs : List Loc) (ls : Array Slot) (hP : gP G.1 66 ad (gE (shL G ad) σ) H) (hS : va_S (gA 66 ad) s.heap H locs) (hl : lv_has ls 4 [(0, .ref b), (1, .ref (ad 44)), (2, .ref (ad 55)), (3, .int (nI i))]) (next : ∀ (σ : gM) (H : Heap) (locs : List Loc), RL2 σ → gP G.1 66 ad (gE (shL G ad) σ) H → va_S (gA 66 ad) s.heap H locs → W p l e room_1 s m #[Value.ref b] below meth c H locs 600000 7302250 (lw_Z below #[Value.ref b] s) (F0 m 1399 ls [])) : W p l e room_1 s m #[Value.ref b] below meth c H locs 600000 7302250 (lw_Z below #[Value.ref b] s) (F0 m 551 ls []) := by
  obtain ⟨hx, hb, hr, hml, hown, hts, hX2, hbl, hlocks, hgv⟩ := C0
  have C : CallFix p m c code 4 s #[Value.ref b] Tb RL := ⟨hx, hb, hml, hown, fun w hw => hts w (List.mem_filter.mp hw).1⟩
  have hbA : ¬ gA 66 ad b := fun q => by have := gA.b0 hI q; omega
  have hR2 : R (mget σ 0) (mget σ 55) := hR
  obtain ⟨N, hN, hs, hsM, hdM⟩ := rf_N hR2
  obtain ⟨T, hT, ht, htM⟩ := rf_T hR2
  have hszX := rf_SX hR2
  have hszM := rf_SM hR2
  obtain ⟨K, hK, hkK⟩ := rf_K hR2
  have hspM := rf_P hR2
  refine lv_aload_n hx hb dL_law_551 rfl (lv_at hl 1 rfl) ?_
  refine lv_aload_n hx hb dL_law_552 rfl (lv_at hl 0 rfl) ?_
  refine lv_iload_n hx hb dL_law_553 rfl (lv_at hl 3 rfl) ?_
  refine lv_iconst (v := 1) hx hb dL_law_554 (by decide) ?_
  refine lv_iadd hx hb dL_law_555 ?_
  refine lv_as (y := nI (i + 1)) (nI_add i 1) ?_
  refine va_sld hx hb hX2 hbl hbA hS (vp_in_nI (show i + 1 < L by omega) (by omega)) dL_law_556 ?_
  refine lv_as (y := xs (i + 1)) (by rw [nI_clamp (by omega)]) ?_
  refine lv_aload_n hx hb dL_law_557 rfl (lv_at hl 0 rfl) ?_
  refine lv_iload_n hx hb dL_law_558 rfl (lv_at hl 3 rfl) ?_
  refine lv_iconst (v := 2) hx hb dL_law_559 (by decide) ?_
  refine lv_iadd hx hb dL_law_560 ?_
  refine lv_as (y := nI (i + 2)) (nI_add i 2) ?_
  refine va_sld hx hb hX2 hbl hbA hS (vp_in_nI (show i + 2 < L by omega) (by omega)) dL_law_561 ?_
  refine lv_as (y := xs (i + 2)) (by rw [nI_clamp (by omega)]) ?_
  refine g_wrI (o := 0) (m1 := 55) (by omega) (shL_X G ad) hI hP hS (g_runV (As := [.int (xs (i + 1)), .int (xs (i + 2))]) (rest := []) ky_yX6_hears lk_RL_60 C hX (gS_b0 hI hS) (hP.sub (sh1 := shX G (fun q_ => ad (0 + q_))) 0 55 (by omega) (shL_X G ad)) 44 (c_yX6_hears l G (fun q_ => ad (0 + q_)) (hI.sub (m := 55) 0 (by omega)) (mget σ 0) (xs (i + 1)) (xs (i + 2)) N hN hs) (by decide) (shX_44 G (fun q_ => ad (0 + q_)) _) ⟨rfl, rfl, by decide, by decide⟩ rfl hl.1 rfl (Nat.le_of_ble_eq_true rfl) ⟨Nat.le_of_ble_eq_true rfl, Nat.le_of_ble_eq_true rfl⟩ dL_law_562) (fun H locs hP hS => ?_)
  obtain ⟨σ1, e1⟩ : ∃ σ1, σ1 = mput σ 0 55 (x_hears (mget σ 0) (xs (i + 1)) (xs (i + 2))).2 := ⟨_, rfl⟩
  rw [← e1] at hP
  have hm : mget σ1 55 = mget σ 55 := by rw [e1]; exact mg_M
  refine lv_aload_n hx hb dL_law_565 rfl (lv_at hl 2 rfl) ?_
  refine lv_aload_n hx hb dL_law_566 rfl (lv_at hl 0 rfl) ?_
  refine lv_iload_n hx hb dL_law_567 rfl (lv_at hl 3 rfl) ?_
  refine lv_iconst (v := 1) hx hb dL_law_568 (by decide) ?_
  refine lv_iadd hx hb dL_law_569 ?_
  refine lv_as (y := nI (i + 1)) (nI_add i 1) ?_
  refine va_sld hx hb hX2 hbl hbA hS (vp_in_nI (show i + 1 < L by omega) (by omega)) dL_law_570 ?_
  refine lv_as (y := xs (i + 1)) (by rw [nI_clamp (by omega)]) ?_
  refine lv_aload_n hx hb dL_law_571 rfl (lv_at hl 0 rfl) ?_
  refine lv_iload_n hx hb dL_law_572 rfl (lv_at hl 3 rfl) ?_
  refine lv_iconst (v := 2) hx hb dL_law_573 (by decide) ?_
  refine lv_iadd hx hb dL_law_574 ?_
  refine lv_as (y := nI (i + 2)) (nI_add i 2) ?_
  refine va_sld hx hb hX2 hbl hbA hS (vp_in_nI (show i + 2 < L by omega) (by omega)) dL_law_575 ?_
  refine lv_as (y := xs (i + 2)) (by rw [nI_clamp (by omega)]) ?_
  refine g_wrI (o := 55) (m1 := 11) (by omega) (shL_M G ad) hI hP hS (g_runV (As := [.int (xs (i + 1)), .int (xs (i + 2))]) (rest := [.int (x_hears (mget σ 0) (xs (i + 1)) (xs (i + 2))).1]) ky_yX7_hears lk_RL_63 C hX (gS_b0 hI hS) (hP.sub (sh1 := shM G (fun q_ => ad (55 + q_))) 55 11 (by omega) (shL_M G ad)) 0 (c_yX7_hears l G (fun q_ => ad (55 + q_)) (hI.sub (m := 11) 55 (by omega)) (mget σ1 55) (xs (i + 1)) (xs (i + 2)) N hN (by rw [hm]; exact hsM) (by rw [hm]; exact hdM)) (by decide) (shM_0 G (fun q_ => ad (55 + q_)) _) ⟨rfl, rfl, by decide, by decide⟩ rfl hl.1 rfl (Nat.le_of_ble_eq_true rfl) ⟨Nat.le_of_ble_eq_true rfl, Nat.le_of_ble_eq_true rfl⟩ dL_law_576) (fun H locs hP hS => ?_)
  have hq := eq_hears hR2 (xs (i + 1)) (xs (i + 2))
  rw [← hm] at hq
  exact lv_icmp_eq (tgt := 1399) hx hb dL_law_579 (by decide) (fun c_ => by have hn := RL_next (σ := σ) hq.2; rw [← e1] at hn; exact next _ H locs hn hP hS) (fun c_ => absurd hq.1 c_)

set_option maxHeartbeats 4000000 in
theorem law_c12 {p : Program} {l : Launch} {e : Env} {s : State} {m : MethodId} {below : List Frame} {meth : Method} {c : Code} {G : gG} {ad : Nat → Nat} {b L : Nat} {xs : Nat → Int32} (hL : L ≤ 3072) (C0 : lw_At p s m meth c b L xs) (hX : gX G s) (hb0 : G.2.2.1 = s.heap.size) (hI : gI G.2.2.1 66 ad) (i : Nat) (hi : i + 6 ≤ L) (σ : gM) (hR : RL2 σ) (H : Heap) (locs : List Loc) (ls : Array Slot) (hP : gP G.1 66 ad (gE (shL G ad) σ) H) (hS : va_S (gA 66 ad) s.heap H locs) (hl : lv_has ls 4 [(0, .ref b), (1, .ref (ad 44)), (2, .ref (ad 55)), (3, .int (nI i))]) (next : ∀ (σ : gM) (H : Heap) (locs : List Loc), RL2 σ → gP G.1 66 ad (gE (shL G ad) σ) H → va_S (gA 66 ad) s.heap H locs → W p l e room_1 s m #[Value.ref b] below meth c H locs 600000 7302250 (lw_Z below #[Value.ref b] s) (F0 m 1399 ls [])) : W p l e room_1 s m #[Value.ref b] below meth c H locs 600000 7302250 (lw_Z below #[Value.ref b] s) (F0 m 584 ls []) := by
  obtain ⟨hx, hb, hr, hml, hown, hts, hX2, hbl, hlocks, hgv⟩ := C0
  have C : CallFix p m c code 4 s #[Value.ref b] Tb RL := ⟨hx, hb, hml, hown, fun w hw => hts w (List.mem_filter.mp hw).1⟩
  have hbA : ¬ gA 66 ad b := fun q => by have := gA.b0 hI q; omega
  have hR2 : R (mget σ 0) (mget σ 55) := hR
  obtain ⟨N, hN, hs, hsM, hdM⟩ := rf_N hR2
  obtain ⟨T, hT, ht, htM⟩ := rf_T hR2
  have hszX := rf_SX hR2
  have hszM := rf_SM hR2
  obtain ⟨K, hK, hkK⟩ := rf_K hR2
  have hspM := rf_P hR2
  refine lv_aload_n hx hb dL_law_584 rfl (lv_at hl 1 rfl) ?_
  refine lv_aload_n hx hb dL_law_585 rfl (lv_at hl 0 rfl) ?_
  refine lv_iload_n hx hb dL_law_586 rfl (lv_at hl 3 rfl) ?_
  refine lv_iconst (v := 1) hx hb dL_law_587 (by decide) ?_
  refine lv_iadd hx hb dL_law_588 ?_
  refine lv_as (y := nI (i + 1)) (nI_add i 1) ?_
  refine va_sld hx hb hX2 hbl hbA hS (vp_in_nI (show i + 1 < L by omega) (by omega)) dL_law_589 ?_
  refine lv_as (y := xs (i + 1)) (by rw [nI_clamp (by omega)]) ?_
  refine lv_aload_n hx hb dL_law_590 rfl (lv_at hl 0 rfl) ?_
  refine lv_iload_n hx hb dL_law_591 rfl (lv_at hl 3 rfl) ?_
  refine lv_iconst (v := 2) hx hb dL_law_592 (by decide) ?_
  refine lv_iadd hx hb dL_law_593 ?_
  refine lv_as (y := nI (i + 2)) (nI_add i 2) ?_
  refine va_sld hx hb hX2 hbl hbA hS (vp_in_nI (show i + 2 < L by omega) (by omega)) dL_law_594 ?_
  refine lv_as (y := xs (i + 2)) (by rw [nI_clamp (by omega)]) ?_
  refine g_wrI (o := 0) (m1 := 55) (by omega) (shL_X G ad) hI hP hS (g_runV (As := [.int (xs (i + 1)), .int (xs (i + 2))]) (rest := []) ky_yX6_wise lk_RL_64 C hX (gS_b0 hI hS) (hP.sub (sh1 := shX G (fun q_ => ad (0 + q_))) 0 55 (by omega) (shL_X G ad)) 44 (c_yX6_wise l G (fun q_ => ad (0 + q_)) (hI.sub (m := 55) 0 (by omega)) (mget σ 0) (xs (i + 1)) (xs (i + 2)) N hN hs) (by decide) (shX_44 G (fun q_ => ad (0 + q_)) _) ⟨rfl, rfl, by decide, by decide⟩ rfl hl.1 rfl (Nat.le_of_ble_eq_true rfl) ⟨Nat.le_of_ble_eq_true rfl, Nat.le_of_ble_eq_true rfl⟩ dL_law_595) (fun H locs hP hS => ?_)
  obtain ⟨σ1, e1⟩ : ∃ σ1, σ1 = mput σ 0 55 (x_wise (mget σ 0) (xs (i + 1)) (xs (i + 2))).2 := ⟨_, rfl⟩
  rw [← e1] at hP
  have hm : mget σ1 55 = mget σ 55 := by rw [e1]; exact mg_M
  refine lv_aload_n hx hb dL_law_598 rfl (lv_at hl 2 rfl) ?_
  refine lv_aload_n hx hb dL_law_599 rfl (lv_at hl 0 rfl) ?_
  refine lv_iload_n hx hb dL_law_600 rfl (lv_at hl 3 rfl) ?_
  refine lv_iconst (v := 1) hx hb dL_law_601 (by decide) ?_
  refine lv_iadd hx hb dL_law_602 ?_
  refine lv_as (y := nI (i + 1)) (nI_add i 1) ?_
  refine va_sld hx hb hX2 hbl hbA hS (vp_in_nI (show i + 1 < L by omega) (by omega)) dL_law_603 ?_
  refine lv_as (y := xs (i + 1)) (by rw [nI_clamp (by omega)]) ?_
  refine lv_aload_n hx hb dL_law_604 rfl (lv_at hl 0 rfl) ?_
  refine lv_iload_n hx hb dL_law_605 rfl (lv_at hl 3 rfl) ?_
  refine lv_iconst (v := 2) hx hb dL_law_606 (by decide) ?_
  refine lv_iadd hx hb dL_law_607 ?_
  refine lv_as (y := nI (i + 2)) (nI_add i 2) ?_
  refine va_sld hx hb hX2 hbl hbA hS (vp_in_nI (show i + 2 < L by omega) (by omega)) dL_law_608 ?_
  refine lv_as (y := xs (i + 2)) (by rw [nI_clamp (by omega)]) ?_
  refine g_wrI (o := 55) (m1 := 11) (by omega) (shL_M G ad) hI hP hS (g_runV (As := [.int (xs (i + 1)), .int (xs (i + 2))]) (rest := [.int (x_wise (mget σ 0) (xs (i + 1)) (xs (i + 2))).1]) ky_yX7_wise lk_RL_67 C hX (gS_b0 hI hS) (hP.sub (sh1 := shM G (fun q_ => ad (55 + q_))) 55 11 (by omega) (shL_M G ad)) 0 (c_yX7_wise l G (fun q_ => ad (55 + q_)) (hI.sub (m := 11) 55 (by omega)) (mget σ1 55) (xs (i + 1)) (xs (i + 2)) N hN (by rw [hm]; exact hsM) (by rw [hm]; exact hdM)) (by decide) (shM_0 G (fun q_ => ad (55 + q_)) _) ⟨rfl, rfl, by decide, by decide⟩ rfl hl.1 rfl (Nat.le_of_ble_eq_true rfl) ⟨Nat.le_of_ble_eq_true rfl, Nat.le_of_ble_eq_true rfl⟩ dL_law_609) (fun H locs hP hS => ?_)
  have hq := eq_wise hR2 (xs (i + 1)) (xs (i + 2))
  rw [← hm] at hq
  exact lv_icmp_eq (tgt := 1399) hx hb dL_law_612 (by decide) (fun c_ => by have hn := RL_next (σ := σ) hq.2; rw [← e1] at hn; exact next _ H locs hn hP hS) (fun c_ => absurd hq.1 c_)

set_option maxHeartbeats 4000000 in
theorem law_c13 {p : Program} {l : Launch} {e : Env} {s : State} {m : MethodId} {below : List Frame} {meth : Method} {c : Code} {G : gG} {ad : Nat → Nat} {b L : Nat} {xs : Nat → Int32} (hL : L ≤ 3072) (C0 : lw_At p s m meth c b L xs) (hX : gX G s) (hb0 : G.2.2.1 = s.heap.size) (hI : gI G.2.2.1 66 ad) (i : Nat) (hi : i + 6 ≤ L) (σ : gM) (hR : RL2 σ) (H : Heap) (locs : List Loc) (ls : Array Slot) (hP : gP G.1 66 ad (gE (shL G ad) σ) H) (hS : va_S (gA 66 ad) s.heap H locs) (hl : lv_has ls 4 [(0, .ref b), (1, .ref (ad 44)), (2, .ref (ad 55)), (3, .int (nI i))]) (next : ∀ (σ : gM) (H : Heap) (locs : List Loc), RL2 σ → gP G.1 66 ad (gE (shL G ad) σ) H → va_S (gA 66 ad) s.heap H locs → W p l e room_1 s m #[Value.ref b] below meth c H locs 600000 7302250 (lw_Z below #[Value.ref b] s) (F0 m 1399 ls [])) : W p l e room_1 s m #[Value.ref b] below meth c H locs 600000 7302250 (lw_Z below #[Value.ref b] s) (F0 m 617 ls []) := by
  obtain ⟨hx, hb, hr, hml, hown, hts, hX2, hbl, hlocks, hgv⟩ := C0
  have C : CallFix p m c code 4 s #[Value.ref b] Tb RL := ⟨hx, hb, hml, hown, fun w hw => hts w (List.mem_filter.mp hw).1⟩
  have hbA : ¬ gA 66 ad b := fun q => by have := gA.b0 hI q; omega
  have hR2 : R (mget σ 0) (mget σ 55) := hR
  obtain ⟨N, hN, hs, hsM, hdM⟩ := rf_N hR2
  obtain ⟨T, hT, ht, htM⟩ := rf_T hR2
  have hszX := rf_SX hR2
  have hszM := rf_SM hR2
  obtain ⟨K, hK, hkK⟩ := rf_K hR2
  have hspM := rf_P hR2
  refine lv_aload_n hx hb dL_law_617 rfl (lv_at hl 1 rfl) ?_
  refine lv_aload_n hx hb dL_law_618 rfl (lv_at hl 0 rfl) ?_
  refine lv_iload_n hx hb dL_law_619 rfl (lv_at hl 3 rfl) ?_
  refine lv_iconst (v := 1) hx hb dL_law_620 (by decide) ?_
  refine lv_iadd hx hb dL_law_621 ?_
  refine lv_as (y := nI (i + 1)) (nI_add i 1) ?_
  refine va_sld hx hb hX2 hbl hbA hS (vp_in_nI (show i + 1 < L by omega) (by omega)) dL_law_622 ?_
  refine lv_as (y := xs (i + 1)) (by rw [nI_clamp (by omega)]) ?_
  refine g_wrI (o := 0) (m1 := 55) (by omega) (shL_X G ad) hI hP hS (g_runV (As := [.int (xs (i + 1))]) (rest := []) ky_yX6_out lk_RL_68 C hX (gS_b0 hI hS) (hP.sub (sh1 := shX G (fun q_ => ad (0 + q_))) 0 55 (by omega) (shL_X G ad)) 44 (c_yX6_out l G (fun q_ => ad (0 + q_)) (hI.sub (m := 55) 0 (by omega)) (mget σ 0) (xs (i + 1)) N hN hs) (by decide) (shX_44 G (fun q_ => ad (0 + q_)) _) ⟨rfl, rfl, by decide, by decide⟩ rfl hl.1 rfl (Nat.le_of_ble_eq_true rfl) ⟨Nat.le_of_ble_eq_true rfl, Nat.le_of_ble_eq_true rfl⟩ dL_law_623) (fun H locs hP hS => ?_)
  obtain ⟨σ1, e1⟩ : ∃ σ1, σ1 = mput σ 0 55 (x_out (mget σ 0) (xs (i + 1))).2 := ⟨_, rfl⟩
  rw [← e1] at hP
  have hm : mget σ1 55 = mget σ 55 := by rw [e1]; exact mg_M
  refine lv_aload_n hx hb dL_law_626 rfl (lv_at hl 2 rfl) ?_
  refine lv_aload_n hx hb dL_law_627 rfl (lv_at hl 0 rfl) ?_
  refine lv_iload_n hx hb dL_law_628 rfl (lv_at hl 3 rfl) ?_
  refine lv_iconst (v := 1) hx hb dL_law_629 (by decide) ?_
  refine lv_iadd hx hb dL_law_630 ?_
  refine lv_as (y := nI (i + 1)) (nI_add i 1) ?_
  refine va_sld hx hb hX2 hbl hbA hS (vp_in_nI (show i + 1 < L by omega) (by omega)) dL_law_631 ?_
  refine lv_as (y := xs (i + 1)) (by rw [nI_clamp (by omega)]) ?_
  refine g_wrI (o := 55) (m1 := 11) (by omega) (shL_M G ad) hI hP hS (g_runV (As := [.int (xs (i + 1))]) (rest := [.int (x_out (mget σ 0) (xs (i + 1))).1]) ky_yX7_out lk_RL_71 C hX (gS_b0 hI hS) (hP.sub (sh1 := shM G (fun q_ => ad (55 + q_))) 55 11 (by omega) (shL_M G ad)) 0 (c_yX7_out l G (fun q_ => ad (55 + q_)) (hI.sub (m := 11) 55 (by omega)) (mget σ1 55) (xs (i + 1)) N hN (by rw [hm]; exact hsM) (by rw [hm]; exact hdM)) (by decide) (shM_0 G (fun q_ => ad (55 + q_)) _) ⟨rfl, rfl, by decide, by decide⟩ rfl hl.1 rfl (Nat.le_of_ble_eq_true rfl) ⟨Nat.le_of_ble_eq_true rfl, Nat.le_of_ble_eq_true rfl⟩ dL_law_632) (fun H locs hP hS => ?_)
  have hq := eq_out hR2 (xs (i + 1))
  rw [← hm] at hq
  exact lv_icmp_eq (tgt := 1399) hx hb dL_law_635 (by decide) (fun c_ => by have hn := RL_next (σ := σ) hq.2; rw [← e1] at hn; exact next _ H locs hn hP hS) (fun c_ => absurd hq.1 c_)

set_option maxHeartbeats 4000000 in
theorem law_c14 {p : Program} {l : Launch} {e : Env} {s : State} {m : MethodId} {below : List Frame} {meth : Method} {c : Code} {G : gG} {ad : Nat → Nat} {b L : Nat} {xs : Nat → Int32} (hL : L ≤ 3072) (C0 : lw_At p s m meth c b L xs) (hX : gX G s) (hb0 : G.2.2.1 = s.heap.size) (hI : gI G.2.2.1 66 ad) (i : Nat) (hi : i + 6 ≤ L) (σ : gM) (hR : RL2 σ) (H : Heap) (locs : List Loc) (ls : Array Slot) (hP : gP G.1 66 ad (gE (shL G ad) σ) H) (hS : va_S (gA 66 ad) s.heap H locs) (hl : lv_has ls 4 [(0, .ref b), (1, .ref (ad 44)), (2, .ref (ad 55)), (3, .int (nI i))]) (next : ∀ (σ : gM) (H : Heap) (locs : List Loc), RL2 σ → gP G.1 66 ad (gE (shL G ad) σ) H → va_S (gA 66 ad) s.heap H locs → W p l e room_1 s m #[Value.ref b] below meth c H locs 600000 7302250 (lw_Z below #[Value.ref b] s) (F0 m 1399 ls [])) : W p l e room_1 s m #[Value.ref b] below meth c H locs 600000 7302250 (lw_Z below #[Value.ref b] s) (F0 m 640 ls []) := by
  obtain ⟨hx, hb, hr, hml, hown, hts, hX2, hbl, hlocks, hgv⟩ := C0
  have C : CallFix p m c code 4 s #[Value.ref b] Tb RL := ⟨hx, hb, hml, hown, fun w hw => hts w (List.mem_filter.mp hw).1⟩
  have hbA : ¬ gA 66 ad b := fun q => by have := gA.b0 hI q; omega
  have hR2 : R (mget σ 0) (mget σ 55) := hR
  obtain ⟨N, hN, hs, hsM, hdM⟩ := rf_N hR2
  obtain ⟨T, hT, ht, htM⟩ := rf_T hR2
  have hszX := rf_SX hR2
  have hszM := rf_SM hR2
  obtain ⟨K, hK, hkK⟩ := rf_K hR2
  have hspM := rf_P hR2
  refine lv_aload_n hx hb dL_law_640 rfl (lv_at hl 1 rfl) ?_
  refine lv_aload_n hx hb dL_law_641 rfl (lv_at hl 0 rfl) ?_
  refine lv_iload_n hx hb dL_law_642 rfl (lv_at hl 3 rfl) ?_
  refine lv_iconst (v := 1) hx hb dL_law_643 (by decide) ?_
  refine lv_iadd hx hb dL_law_644 ?_
  refine lv_as (y := nI (i + 1)) (nI_add i 1) ?_
  refine va_sld hx hb hX2 hbl hbA hS (vp_in_nI (show i + 1 < L by omega) (by omega)) dL_law_645 ?_
  refine lv_as (y := xs (i + 1)) (by rw [nI_clamp (by omega)]) ?_
  refine lv_aload_n hx hb dL_law_646 rfl (lv_at hl 0 rfl) ?_
  refine lv_iload_n hx hb dL_law_647 rfl (lv_at hl 3 rfl) ?_
  refine lv_iconst (v := 2) hx hb dL_law_648 (by decide) ?_
  refine lv_iadd hx hb dL_law_649 ?_
  refine lv_as (y := nI (i + 2)) (nI_add i 2) ?_
  refine va_sld hx hb hX2 hbl hbA hS (vp_in_nI (show i + 2 < L by omega) (by omega)) dL_law_650 ?_
  refine lv_as (y := xs (i + 2)) (by rw [nI_clamp (by omega)]) ?_
  refine g_wrI (o := 0) (m1 := 55) (by omega) (shL_X G ad) hI hP hS (g_runV (As := [.int (xs (i + 1)), .int (xs (i + 2))]) (rest := []) ky_yX6_leave lk_RL_72 C hX (gS_b0 hI hS) (hP.sub (sh1 := shX G (fun q_ => ad (0 + q_))) 0 55 (by omega) (shL_X G ad)) 44 (c_yX6_leave l G (fun q_ => ad (0 + q_)) (hI.sub (m := 55) 0 (by omega)) (mget σ 0) (xs (i + 1)) (xs (i + 2)) N hN hs) (by decide) (shX_44 G (fun q_ => ad (0 + q_)) _) ⟨rfl, rfl, by decide, by decide⟩ rfl hl.1 rfl (Nat.le_of_ble_eq_true rfl) ⟨Nat.le_of_ble_eq_true rfl, Nat.le_of_ble_eq_true rfl⟩ dL_law_651) (fun H locs hP hS => ?_)
  obtain ⟨σ1, e1⟩ : ∃ σ1, σ1 = mput σ 0 55 (x_leave (mget σ 0) (xs (i + 1)) (xs (i + 2))).2 := ⟨_, rfl⟩
  rw [← e1] at hP
  have hm : mget σ1 55 = mget σ 55 := by rw [e1]; exact mg_M
  refine lv_aload_n hx hb dL_law_654 rfl (lv_at hl 2 rfl) ?_
  refine lv_aload_n hx hb dL_law_655 rfl (lv_at hl 0 rfl) ?_
  refine lv_iload_n hx hb dL_law_656 rfl (lv_at hl 3 rfl) ?_
  refine lv_iconst (v := 1) hx hb dL_law_657 (by decide) ?_
  refine lv_iadd hx hb dL_law_658 ?_
  refine lv_as (y := nI (i + 1)) (nI_add i 1) ?_
  refine va_sld hx hb hX2 hbl hbA hS (vp_in_nI (show i + 1 < L by omega) (by omega)) dL_law_659 ?_
  refine lv_as (y := xs (i + 1)) (by rw [nI_clamp (by omega)]) ?_
  refine lv_aload_n hx hb dL_law_660 rfl (lv_at hl 0 rfl) ?_
  refine lv_iload_n hx hb dL_law_661 rfl (lv_at hl 3 rfl) ?_
  refine lv_iconst (v := 2) hx hb dL_law_662 (by decide) ?_
  refine lv_iadd hx hb dL_law_663 ?_
  refine lv_as (y := nI (i + 2)) (nI_add i 2) ?_
  refine va_sld hx hb hX2 hbl hbA hS (vp_in_nI (show i + 2 < L by omega) (by omega)) dL_law_664 ?_
  refine lv_as (y := xs (i + 2)) (by rw [nI_clamp (by omega)]) ?_
  refine g_wrI (o := 55) (m1 := 11) (by omega) (shL_M G ad) hI hP hS (g_runV (As := [.int (xs (i + 1)), .int (xs (i + 2))]) (rest := [.int (x_leave (mget σ 0) (xs (i + 1)) (xs (i + 2))).1]) ky_yX7_leave lk_RL_75 C hX (gS_b0 hI hS) (hP.sub (sh1 := shM G (fun q_ => ad (55 + q_))) 55 11 (by omega) (shL_M G ad)) 0 (c_yX7_leave l G (fun q_ => ad (55 + q_)) (hI.sub (m := 11) 55 (by omega)) (mget σ1 55) (xs (i + 1)) (xs (i + 2)) N hN (by rw [hm]; exact hsM) (by rw [hm]; exact hdM)) (by decide) (shM_0 G (fun q_ => ad (55 + q_)) _) ⟨rfl, rfl, by decide, by decide⟩ rfl hl.1 rfl (Nat.le_of_ble_eq_true rfl) ⟨Nat.le_of_ble_eq_true rfl, Nat.le_of_ble_eq_true rfl⟩ dL_law_665) (fun H locs hP hS => ?_)
  have hq := eq_leave hR2 (xs (i + 1)) (xs (i + 2))
  rw [← hm] at hq
  exact lv_icmp_eq (tgt := 1399) hx hb dL_law_668 (by decide) (fun c_ => by have hn := RL_next (σ := σ) hq.2; rw [← e1] at hn; exact next _ H locs hn hP hS) (fun c_ => absurd hq.1 c_)

set_option maxHeartbeats 4000000 in
theorem law_c15 {p : Program} {l : Launch} {e : Env} {s : State} {m : MethodId} {below : List Frame} {meth : Method} {c : Code} {G : gG} {ad : Nat → Nat} {b L : Nat} {xs : Nat → Int32} (hL : L ≤ 3072) (C0 : lw_At p s m meth c b L xs) (hX : gX G s) (hb0 : G.2.2.1 = s.heap.size) (hI : gI G.2.2.1 66 ad) (i : Nat) (hi : i + 6 ≤ L) (σ : gM) (hR : RL2 σ) (H : Heap) (locs : List Loc) (ls : Array Slot) (hP : gP G.1 66 ad (gE (shL G ad) σ) H) (hS : va_S (gA 66 ad) s.heap H locs) (hl : lv_has ls 4 [(0, .ref b), (1, .ref (ad 44)), (2, .ref (ad 55)), (3, .int (nI i))]) (next : ∀ (σ : gM) (H : Heap) (locs : List Loc), RL2 σ → gP G.1 66 ad (gE (shL G ad) σ) H → va_S (gA 66 ad) s.heap H locs → W p l e room_1 s m #[Value.ref b] below meth c H locs 600000 7302250 (lw_Z below #[Value.ref b] s) (F0 m 1399 ls [])) : W p l e room_1 s m #[Value.ref b] below meth c H locs 600000 7302250 (lw_Z below #[Value.ref b] s) (F0 m 673 ls []) := by
  obtain ⟨hx, hb, hr, hml, hown, hts, hX2, hbl, hlocks, hgv⟩ := C0
  have C : CallFix p m c code 4 s #[Value.ref b] Tb RL := ⟨hx, hb, hml, hown, fun w hw => hts w (List.mem_filter.mp hw).1⟩
  have hbA : ¬ gA 66 ad b := fun q => by have := gA.b0 hI q; omega
  have hR2 : R (mget σ 0) (mget σ 55) := hR
  obtain ⟨N, hN, hs, hsM, hdM⟩ := rf_N hR2
  obtain ⟨T, hT, ht, htM⟩ := rf_T hR2
  have hszX := rf_SX hR2
  have hszM := rf_SM hR2
  obtain ⟨K, hK, hkK⟩ := rf_K hR2
  have hspM := rf_P hR2
  refine lv_aload_n hx hb dL_law_673 rfl (lv_at hl 1 rfl) ?_
  refine lv_aload_n hx hb dL_law_674 rfl (lv_at hl 0 rfl) ?_
  refine lv_iload_n hx hb dL_law_675 rfl (lv_at hl 3 rfl) ?_
  refine lv_iconst (v := 1) hx hb dL_law_676 (by decide) ?_
  refine lv_iadd hx hb dL_law_677 ?_
  refine lv_as (y := nI (i + 1)) (nI_add i 1) ?_
  refine va_sld hx hb hX2 hbl hbA hS (vp_in_nI (show i + 1 < L by omega) (by omega)) dL_law_678 ?_
  refine lv_as (y := xs (i + 1)) (by rw [nI_clamp (by omega)]) ?_
  refine lv_aload_n hx hb dL_law_679 rfl (lv_at hl 0 rfl) ?_
  refine lv_iload_n hx hb dL_law_680 rfl (lv_at hl 3 rfl) ?_
  refine lv_iconst (v := 2) hx hb dL_law_681 (by decide) ?_
  refine lv_iadd hx hb dL_law_682 ?_
  refine lv_as (y := nI (i + 2)) (nI_add i 2) ?_
  refine va_sld hx hb hX2 hbl hbA hS (vp_in_nI (show i + 2 < L by omega) (by omega)) dL_law_683 ?_
  refine lv_as (y := xs (i + 2)) (by rw [nI_clamp (by omega)]) ?_
  refine lv_aload_n hx hb dL_law_684 rfl (lv_at hl 0 rfl) ?_
  refine lv_iload_n hx hb dL_law_685 rfl (lv_at hl 3 rfl) ?_
  refine lv_iconst (v := 3) hx hb dL_law_686 (by decide) ?_
  refine lv_iadd hx hb dL_law_687 ?_
  refine lv_as (y := nI (i + 3)) (nI_add i 3) ?_
  refine va_sld hx hb hX2 hbl hbA hS (vp_in_nI (show i + 3 < L by omega) (by omega)) dL_law_688 ?_
  refine lv_as (y := xs (i + 3)) (by rw [nI_clamp (by omega)]) ?_
  refine g_wrI (o := 0) (m1 := 55) (by omega) (shL_X G ad) hI hP hS (g_runV (As := [.int (xs (i + 1)), .int (xs (i + 2)), .int (xs (i + 3))]) (rest := []) ky_yX6_openFor lk_RL_76 C hX (gS_b0 hI hS) (hP.sub (sh1 := shX G (fun q_ => ad (0 + q_))) 0 55 (by omega) (shL_X G ad)) 44 (c_yX6_openFor l G (fun q_ => ad (0 + q_)) (hI.sub (m := 55) 0 (by omega)) (mget σ 0) (xs (i + 1)) (xs (i + 2)) (xs (i + 3)) N hN hs) (by decide) (shX_44 G (fun q_ => ad (0 + q_)) _) ⟨rfl, rfl, by decide, by decide⟩ rfl hl.1 rfl (Nat.le_of_ble_eq_true rfl) ⟨Nat.le_of_ble_eq_true rfl, Nat.le_of_ble_eq_true rfl⟩ dL_law_689) (fun H locs hP hS => ?_)
  obtain ⟨σ1, e1⟩ : ∃ σ1, σ1 = mput σ 0 55 (x_openFor (mget σ 0) (xs (i + 1)) (xs (i + 2)) (xs (i + 3))).2 := ⟨_, rfl⟩
  rw [← e1] at hP
  have hm : mget σ1 55 = mget σ 55 := by rw [e1]; exact mg_M
  refine lv_aload_n hx hb dL_law_692 rfl (lv_at hl 2 rfl) ?_
  refine lv_aload_n hx hb dL_law_693 rfl (lv_at hl 0 rfl) ?_
  refine lv_iload_n hx hb dL_law_694 rfl (lv_at hl 3 rfl) ?_
  refine lv_iconst (v := 1) hx hb dL_law_695 (by decide) ?_
  refine lv_iadd hx hb dL_law_696 ?_
  refine lv_as (y := nI (i + 1)) (nI_add i 1) ?_
  refine va_sld hx hb hX2 hbl hbA hS (vp_in_nI (show i + 1 < L by omega) (by omega)) dL_law_697 ?_
  refine lv_as (y := xs (i + 1)) (by rw [nI_clamp (by omega)]) ?_
  refine lv_aload_n hx hb dL_law_698 rfl (lv_at hl 0 rfl) ?_
  refine lv_iload_n hx hb dL_law_699 rfl (lv_at hl 3 rfl) ?_
  refine lv_iconst (v := 2) hx hb dL_law_700 (by decide) ?_
  refine lv_iadd hx hb dL_law_701 ?_
  refine lv_as (y := nI (i + 2)) (nI_add i 2) ?_
  refine va_sld hx hb hX2 hbl hbA hS (vp_in_nI (show i + 2 < L by omega) (by omega)) dL_law_702 ?_
  refine lv_as (y := xs (i + 2)) (by rw [nI_clamp (by omega)]) ?_
  refine lv_aload_n hx hb dL_law_703 rfl (lv_at hl 0 rfl) ?_
  refine lv_iload_n hx hb dL_law_704 rfl (lv_at hl 3 rfl) ?_
  refine lv_iconst (v := 3) hx hb dL_law_705 (by decide) ?_
  refine lv_iadd hx hb dL_law_706 ?_
  refine lv_as (y := nI (i + 3)) (nI_add i 3) ?_
  refine va_sld hx hb hX2 hbl hbA hS (vp_in_nI (show i + 3 < L by omega) (by omega)) dL_law_707 ?_
  refine lv_as (y := xs (i + 3)) (by rw [nI_clamp (by omega)]) ?_
  refine g_wrI (o := 55) (m1 := 11) (by omega) (shL_M G ad) hI hP hS (g_runV (As := [.int (xs (i + 1)), .int (xs (i + 2)), .int (xs (i + 3))]) (rest := [.int (x_openFor (mget σ 0) (xs (i + 1)) (xs (i + 2)) (xs (i + 3))).1]) ky_yX7_openFor lk_RL_79 C hX (gS_b0 hI hS) (hP.sub (sh1 := shM G (fun q_ => ad (55 + q_))) 55 11 (by omega) (shL_M G ad)) 0 (c_yX7_openFor l G (fun q_ => ad (55 + q_)) (hI.sub (m := 11) 55 (by omega)) (mget σ1 55) (xs (i + 1)) (xs (i + 2)) (xs (i + 3)) N hN (by rw [hm]; exact hsM) (by rw [hm]; exact hdM)) (by decide) (shM_0 G (fun q_ => ad (55 + q_)) _) ⟨rfl, rfl, by decide, by decide⟩ rfl hl.1 rfl (Nat.le_of_ble_eq_true rfl) ⟨Nat.le_of_ble_eq_true rfl, Nat.le_of_ble_eq_true rfl⟩ dL_law_708) (fun H locs hP hS => ?_)
  have hq := eq_openFor hR2 (xs (i + 1)) (xs (i + 2)) (xs (i + 3))
  rw [← hm] at hq
  exact lv_icmp_eq (tgt := 1399) hx hb dL_law_711 (by decide) (fun c_ => by have hn := RL_next (σ := σ) hq.2; rw [← e1] at hn; exact next _ H locs hn hP hS) (fun c_ => absurd hq.1 c_)

set_option maxHeartbeats 4000000 in
theorem law_c16 {p : Program} {l : Launch} {e : Env} {s : State} {m : MethodId} {below : List Frame} {meth : Method} {c : Code} {G : gG} {ad : Nat → Nat} {b L : Nat} {xs : Nat → Int32} (hL : L ≤ 3072) (C0 : lw_At p s m meth c b L xs) (hX : gX G s) (hb0 : G.2.2.1 = s.heap.size) (hI : gI G.2.2.1 66 ad) (i : Nat) (hi : i + 6 ≤ L) (σ : gM) (hR : RL2 σ) (H : Heap) (locs : List Loc) (ls : Array Slot) (hP : gP G.1 66 ad (gE (shL G ad) σ) H) (hS : va_S (gA 66 ad) s.heap H locs) (hl : lv_has ls 4 [(0, .ref b), (1, .ref (ad 44)), (2, .ref (ad 55)), (3, .int (nI i))]) (next : ∀ (σ : gM) (H : Heap) (locs : List Loc), RL2 σ → gP G.1 66 ad (gE (shL G ad) σ) H → va_S (gA 66 ad) s.heap H locs → W p l e room_1 s m #[Value.ref b] below meth c H locs 600000 7302250 (lw_Z below #[Value.ref b] s) (F0 m 1399 ls [])) : W p l e room_1 s m #[Value.ref b] below meth c H locs 600000 7302250 (lw_Z below #[Value.ref b] s) (F0 m 716 ls []) := by
  obtain ⟨hx, hb, hr, hml, hown, hts, hX2, hbl, hlocks, hgv⟩ := C0
  have C : CallFix p m c code 4 s #[Value.ref b] Tb RL := ⟨hx, hb, hml, hown, fun w hw => hts w (List.mem_filter.mp hw).1⟩
  have hbA : ¬ gA 66 ad b := fun q => by have := gA.b0 hI q; omega
  have hR2 : R (mget σ 0) (mget σ 55) := hR
  obtain ⟨N, hN, hs, hsM, hdM⟩ := rf_N hR2
  obtain ⟨T, hT, ht, htM⟩ := rf_T hR2
  have hszX := rf_SX hR2
  have hszM := rf_SM hR2
  obtain ⟨K, hK, hkK⟩ := rf_K hR2
  have hspM := rf_P hR2
  refine lv_aload_n hx hb dL_law_716 rfl (lv_at hl 1 rfl) ?_
  refine lv_aload_n hx hb dL_law_717 rfl (lv_at hl 0 rfl) ?_
  refine lv_iload_n hx hb dL_law_718 rfl (lv_at hl 3 rfl) ?_
  refine lv_iconst (v := 1) hx hb dL_law_719 (by decide) ?_
  refine lv_iadd hx hb dL_law_720 ?_
  refine lv_as (y := nI (i + 1)) (nI_add i 1) ?_
  refine va_sld hx hb hX2 hbl hbA hS (vp_in_nI (show i + 1 < L by omega) (by omega)) dL_law_721 ?_
  refine lv_as (y := xs (i + 1)) (by rw [nI_clamp (by omega)]) ?_
  refine lv_aload_n hx hb dL_law_722 rfl (lv_at hl 0 rfl) ?_
  refine lv_iload_n hx hb dL_law_723 rfl (lv_at hl 3 rfl) ?_
  refine lv_iconst (v := 2) hx hb dL_law_724 (by decide) ?_
  refine lv_iadd hx hb dL_law_725 ?_
  refine lv_as (y := nI (i + 2)) (nI_add i 2) ?_
  refine va_sld hx hb hX2 hbl hbA hS (vp_in_nI (show i + 2 < L by omega) (by omega)) dL_law_726 ?_
  refine lv_as (y := xs (i + 2)) (by rw [nI_clamp (by omega)]) ?_
  refine g_wrI (o := 0) (m1 := 55) (by omega) (shL_X G ad) hI hP hS (g_runV (As := [.int (xs (i + 1)), .int (xs (i + 2))]) (rest := []) ky_yX6_kindFor lk_RL_80 C hX (gS_b0 hI hS) (hP.sub (sh1 := shX G (fun q_ => ad (0 + q_))) 0 55 (by omega) (shL_X G ad)) 44 (c_yX6_kindFor l G (fun q_ => ad (0 + q_)) (hI.sub (m := 55) 0 (by omega)) (mget σ 0) (xs (i + 1)) (xs (i + 2)) N hN hs) (by decide) (shX_44 G (fun q_ => ad (0 + q_)) _) ⟨rfl, rfl, by decide, by decide⟩ rfl hl.1 rfl (Nat.le_of_ble_eq_true rfl) ⟨Nat.le_of_ble_eq_true rfl, Nat.le_of_ble_eq_true rfl⟩ dL_law_727) (fun H locs hP hS => ?_)
  obtain ⟨σ1, e1⟩ : ∃ σ1, σ1 = mput σ 0 55 (x_kindFor (mget σ 0) (xs (i + 1)) (xs (i + 2))).2 := ⟨_, rfl⟩
  rw [← e1] at hP
  have hm : mget σ1 55 = mget σ 55 := by rw [e1]; exact mg_M
  refine lv_aload_n hx hb dL_law_730 rfl (lv_at hl 2 rfl) ?_
  refine lv_aload_n hx hb dL_law_731 rfl (lv_at hl 0 rfl) ?_
  refine lv_iload_n hx hb dL_law_732 rfl (lv_at hl 3 rfl) ?_
  refine lv_iconst (v := 1) hx hb dL_law_733 (by decide) ?_
  refine lv_iadd hx hb dL_law_734 ?_
  refine lv_as (y := nI (i + 1)) (nI_add i 1) ?_
  refine va_sld hx hb hX2 hbl hbA hS (vp_in_nI (show i + 1 < L by omega) (by omega)) dL_law_735 ?_
  refine lv_as (y := xs (i + 1)) (by rw [nI_clamp (by omega)]) ?_
  refine lv_aload_n hx hb dL_law_736 rfl (lv_at hl 0 rfl) ?_
  refine lv_iload_n hx hb dL_law_737 rfl (lv_at hl 3 rfl) ?_
  refine lv_iconst (v := 2) hx hb dL_law_738 (by decide) ?_
  refine lv_iadd hx hb dL_law_739 ?_
  refine lv_as (y := nI (i + 2)) (nI_add i 2) ?_
  refine va_sld hx hb hX2 hbl hbA hS (vp_in_nI (show i + 2 < L by omega) (by omega)) dL_law_740 ?_
  refine lv_as (y := xs (i + 2)) (by rw [nI_clamp (by omega)]) ?_
  refine g_wrI (o := 55) (m1 := 11) (by omega) (shL_M G ad) hI hP hS (g_runV (As := [.int (xs (i + 1)), .int (xs (i + 2))]) (rest := [.int (x_kindFor (mget σ 0) (xs (i + 1)) (xs (i + 2))).1]) ky_yX7_kindFor lk_RL_83 C hX (gS_b0 hI hS) (hP.sub (sh1 := shM G (fun q_ => ad (55 + q_))) 55 11 (by omega) (shL_M G ad)) 0 (c_yX7_kindFor l G (fun q_ => ad (55 + q_)) (hI.sub (m := 11) 55 (by omega)) (mget σ1 55) (xs (i + 1)) (xs (i + 2)) N hN (by rw [hm]; exact hsM) (by rw [hm]; exact hdM)) (by decide) (shM_0 G (fun q_ => ad (55 + q_)) _) ⟨rfl, rfl, by decide, by decide⟩ rfl hl.1 rfl (Nat.le_of_ble_eq_true rfl) ⟨Nat.le_of_ble_eq_true rfl, Nat.le_of_ble_eq_true rfl⟩ dL_law_741) (fun H locs hP hS => ?_)
  have hq := eq_kindFor hR2 (xs (i + 1)) (xs (i + 2))
  rw [← hm] at hq
  exact lv_icmp_eq (tgt := 1399) hx hb dL_law_744 (by decide) (fun c_ => by have hn := RL_next (σ := σ) hq.2; rw [← e1] at hn; exact next _ H locs hn hP hS) (fun c_ => absurd hq.1 c_)

set_option maxHeartbeats 4000000 in
theorem law_c17 {p : Program} {l : Launch} {e : Env} {s : State} {m : MethodId} {below : List Frame} {meth : Method} {c : Code} {G : gG} {ad : Nat → Nat} {b L : Nat} {xs : Nat → Int32} (hL : L ≤ 3072) (C0 : lw_At p s m meth c b L xs) (hX : gX G s) (hb0 : G.2.2.1 = s.heap.size) (hI : gI G.2.2.1 66 ad) (i : Nat) (hi : i + 6 ≤ L) (σ : gM) (hR : RL2 σ) (H : Heap) (locs : List Loc) (ls : Array Slot) (hP : gP G.1 66 ad (gE (shL G ad) σ) H) (hS : va_S (gA 66 ad) s.heap H locs) (hl : lv_has ls 4 [(0, .ref b), (1, .ref (ad 44)), (2, .ref (ad 55)), (3, .int (nI i))]) (next : ∀ (σ : gM) (H : Heap) (locs : List Loc), RL2 σ → gP G.1 66 ad (gE (shL G ad) σ) H → va_S (gA 66 ad) s.heap H locs → W p l e room_1 s m #[Value.ref b] below meth c H locs 600000 7302250 (lw_Z below #[Value.ref b] s) (F0 m 1399 ls [])) : W p l e room_1 s m #[Value.ref b] below meth c H locs 600000 7302250 (lw_Z below #[Value.ref b] s) (F0 m 749 ls []) := by
  obtain ⟨hx, hb, hr, hml, hown, hts, hX2, hbl, hlocks, hgv⟩ := C0
  have C : CallFix p m c code 4 s #[Value.ref b] Tb RL := ⟨hx, hb, hml, hown, fun w hw => hts w (List.mem_filter.mp hw).1⟩
  have hbA : ¬ gA 66 ad b := fun q => by have := gA.b0 hI q; omega
  have hR2 : R (mget σ 0) (mget σ 55) := hR
  obtain ⟨N, hN, hs, hsM, hdM⟩ := rf_N hR2
  obtain ⟨T, hT, ht, htM⟩ := rf_T hR2
  have hszX := rf_SX hR2
  have hszM := rf_SM hR2
  obtain ⟨K, hK, hkK⟩ := rf_K hR2
  have hspM := rf_P hR2
  refine lv_aload_n hx hb dL_law_749 rfl (lv_at hl 1 rfl) ?_
  refine lv_aload_n hx hb dL_law_750 rfl (lv_at hl 0 rfl) ?_
  refine lv_iload_n hx hb dL_law_751 rfl (lv_at hl 3 rfl) ?_
  refine lv_iconst (v := 1) hx hb dL_law_752 (by decide) ?_
  refine lv_iadd hx hb dL_law_753 ?_
  refine lv_as (y := nI (i + 1)) (nI_add i 1) ?_
  refine va_sld hx hb hX2 hbl hbA hS (vp_in_nI (show i + 1 < L by omega) (by omega)) dL_law_754 ?_
  refine lv_as (y := xs (i + 1)) (by rw [nI_clamp (by omega)]) ?_
  refine g_wrI (o := 0) (m1 := 55) (by omega) (shL_X G ad) hI hP hS (g_runV (As := [.int (xs (i + 1))]) (rest := []) ky_yX6_lower lk_RL_84 C hX (gS_b0 hI hS) (hP.sub (sh1 := shX G (fun q_ => ad (0 + q_))) 0 55 (by omega) (shL_X G ad)) 44 (c_yX6_lower l G (fun q_ => ad (0 + q_)) (hI.sub (m := 55) 0 (by omega)) (mget σ 0) (xs (i + 1)) N hN hs) (by decide) (shX_44 G (fun q_ => ad (0 + q_)) _) ⟨rfl, rfl, by decide, by decide⟩ rfl hl.1 rfl (Nat.le_of_ble_eq_true rfl) ⟨Nat.le_of_ble_eq_true rfl, Nat.le_of_ble_eq_true rfl⟩ dL_law_755) (fun H locs hP hS => ?_)
  obtain ⟨σ1, e1⟩ : ∃ σ1, σ1 = mput σ 0 55 (x_lower (mget σ 0) (xs (i + 1))).2 := ⟨_, rfl⟩
  rw [← e1] at hP
  have hm : mget σ1 55 = mget σ 55 := by rw [e1]; exact mg_M
  refine lv_aload_n hx hb dL_law_758 rfl (lv_at hl 2 rfl) ?_
  refine lv_aload_n hx hb dL_law_759 rfl (lv_at hl 0 rfl) ?_
  refine lv_iload_n hx hb dL_law_760 rfl (lv_at hl 3 rfl) ?_
  refine lv_iconst (v := 1) hx hb dL_law_761 (by decide) ?_
  refine lv_iadd hx hb dL_law_762 ?_
  refine lv_as (y := nI (i + 1)) (nI_add i 1) ?_
  refine va_sld hx hb hX2 hbl hbA hS (vp_in_nI (show i + 1 < L by omega) (by omega)) dL_law_763 ?_
  refine lv_as (y := xs (i + 1)) (by rw [nI_clamp (by omega)]) ?_
  refine g_wrI (o := 55) (m1 := 11) (by omega) (shL_M G ad) hI hP hS (g_runV (As := [.int (xs (i + 1))]) (rest := [.int (x_lower (mget σ 0) (xs (i + 1))).1]) ky_yX7_lower lk_RL_87 C hX (gS_b0 hI hS) (hP.sub (sh1 := shM G (fun q_ => ad (55 + q_))) 55 11 (by omega) (shL_M G ad)) 0 (c_yX7_lower l G (fun q_ => ad (55 + q_)) (hI.sub (m := 11) 55 (by omega)) (mget σ1 55) (xs (i + 1)) N hN (by rw [hm]; exact hsM)) (by decide) (shM_0 G (fun q_ => ad (55 + q_)) _) ⟨rfl, rfl, by decide, by decide⟩ rfl hl.1 rfl (Nat.le_of_ble_eq_true rfl) ⟨Nat.le_of_ble_eq_true rfl, Nat.le_of_ble_eq_true rfl⟩ dL_law_764) (fun H locs hP hS => ?_)
  have hq := eq_lower hR2 (xs (i + 1))
  rw [← hm] at hq
  exact lv_icmp_eq (tgt := 1399) hx hb dL_law_767 (by decide) (fun c_ => by have hn := RL_next (σ := σ) hq.2; rw [← e1] at hn; exact next _ H locs hn hP hS) (fun c_ => absurd hq.1 c_)

set_option maxHeartbeats 4000000 in
theorem law_c18 {p : Program} {l : Launch} {e : Env} {s : State} {m : MethodId} {below : List Frame} {meth : Method} {c : Code} {G : gG} {ad : Nat → Nat} {b L : Nat} {xs : Nat → Int32} (hL : L ≤ 3072) (C0 : lw_At p s m meth c b L xs) (hX : gX G s) (hb0 : G.2.2.1 = s.heap.size) (hI : gI G.2.2.1 66 ad) (i : Nat) (hi : i + 6 ≤ L) (σ : gM) (hR : RL2 σ) (H : Heap) (locs : List Loc) (ls : Array Slot) (hP : gP G.1 66 ad (gE (shL G ad) σ) H) (hS : va_S (gA 66 ad) s.heap H locs) (hl : lv_has ls 4 [(0, .ref b), (1, .ref (ad 44)), (2, .ref (ad 55)), (3, .int (nI i))]) (next : ∀ (σ : gM) (H : Heap) (locs : List Loc), RL2 σ → gP G.1 66 ad (gE (shL G ad) σ) H → va_S (gA 66 ad) s.heap H locs → W p l e room_1 s m #[Value.ref b] below meth c H locs 600000 7302250 (lw_Z below #[Value.ref b] s) (F0 m 1399 ls [])) : W p l e room_1 s m #[Value.ref b] below meth c H locs 600000 7302250 (lw_Z below #[Value.ref b] s) (F0 m 772 ls []) := by
  obtain ⟨hx, hb, hr, hml, hown, hts, hX2, hbl, hlocks, hgv⟩ := C0
  have C : CallFix p m c code 4 s #[Value.ref b] Tb RL := ⟨hx, hb, hml, hown, fun w hw => hts w (List.mem_filter.mp hw).1⟩
  have hbA : ¬ gA 66 ad b := fun q => by have := gA.b0 hI q; omega
  have hR2 : R (mget σ 0) (mget σ 55) := hR
  obtain ⟨N, hN, hs, hsM, hdM⟩ := rf_N hR2
  obtain ⟨T, hT, ht, htM⟩ := rf_T hR2
  have hszX := rf_SX hR2
  have hszM := rf_SM hR2
  obtain ⟨K, hK, hkK⟩ := rf_K hR2
  have hspM := rf_P hR2
  refine lv_aload_n hx hb dL_law_772 rfl (lv_at hl 1 rfl) ?_
  refine lv_aload_n hx hb dL_law_773 rfl (lv_at hl 0 rfl) ?_
  refine lv_iload_n hx hb dL_law_774 rfl (lv_at hl 3 rfl) ?_
  refine lv_iconst (v := 1) hx hb dL_law_775 (by decide) ?_
  refine lv_iadd hx hb dL_law_776 ?_
  refine lv_as (y := nI (i + 1)) (nI_add i 1) ?_
  refine va_sld hx hb hX2 hbl hbA hS (vp_in_nI (show i + 1 < L by omega) (by omega)) dL_law_777 ?_
  refine lv_as (y := xs (i + 1)) (by rw [nI_clamp (by omega)]) ?_
  refine g_wrI (o := 0) (m1 := 55) (by omega) (shL_X G ad) hI hP hS (g_runV (As := [.int (xs (i + 1))]) (rest := []) ky_yX6_cover lk_RL_88 C hX (gS_b0 hI hS) (hP.sub (sh1 := shX G (fun q_ => ad (0 + q_))) 0 55 (by omega) (shL_X G ad)) 44 (c_yX6_cover l G (fun q_ => ad (0 + q_)) (hI.sub (m := 55) 0 (by omega)) (mget σ 0) (xs (i + 1)) N hN hs) (by decide) (shX_44 G (fun q_ => ad (0 + q_)) _) ⟨rfl, rfl, by decide, by decide⟩ rfl hl.1 rfl (Nat.le_of_ble_eq_true rfl) ⟨Nat.le_of_ble_eq_true rfl, Nat.le_of_ble_eq_true rfl⟩ dL_law_778) (fun H locs hP hS => ?_)
  obtain ⟨σ1, e1⟩ : ∃ σ1, σ1 = mput σ 0 55 (x_cover (mget σ 0) (xs (i + 1))).2 := ⟨_, rfl⟩
  rw [← e1] at hP
  have hm : mget σ1 55 = mget σ 55 := by rw [e1]; exact mg_M
  refine lv_aload_n hx hb dL_law_781 rfl (lv_at hl 2 rfl) ?_
  refine lv_aload_n hx hb dL_law_782 rfl (lv_at hl 0 rfl) ?_
  refine lv_iload_n hx hb dL_law_783 rfl (lv_at hl 3 rfl) ?_
  refine lv_iconst (v := 1) hx hb dL_law_784 (by decide) ?_
  refine lv_iadd hx hb dL_law_785 ?_
  refine lv_as (y := nI (i + 1)) (nI_add i 1) ?_
  refine va_sld hx hb hX2 hbl hbA hS (vp_in_nI (show i + 1 < L by omega) (by omega)) dL_law_786 ?_
  refine lv_as (y := xs (i + 1)) (by rw [nI_clamp (by omega)]) ?_
  refine g_wrI (o := 55) (m1 := 11) (by omega) (shL_M G ad) hI hP hS (g_runV (As := [.int (xs (i + 1))]) (rest := [.int (x_cover (mget σ 0) (xs (i + 1))).1]) ky_yX7_cover lk_RL_91 C hX (gS_b0 hI hS) (hP.sub (sh1 := shM G (fun q_ => ad (55 + q_))) 55 11 (by omega) (shL_M G ad)) 0 (c_yX7_cover l G (fun q_ => ad (55 + q_)) (hI.sub (m := 11) 55 (by omega)) (mget σ1 55) (xs (i + 1)) N hN (by rw [hm]; exact hsM)) (by decide) (shM_0 G (fun q_ => ad (55 + q_)) _) ⟨rfl, rfl, by decide, by decide⟩ rfl hl.1 rfl (Nat.le_of_ble_eq_true rfl) ⟨Nat.le_of_ble_eq_true rfl, Nat.le_of_ble_eq_true rfl⟩ dL_law_787) (fun H locs hP hS => ?_)
  have hq := eq_cover hR2 (xs (i + 1))
  rw [← hm] at hq
  exact lv_icmp_eq (tgt := 1399) hx hb dL_law_790 (by decide) (fun c_ => by have hn := RL_next (σ := σ) hq.2; rw [← e1] at hn; exact next _ H locs hn hP hS) (fun c_ => absurd hq.1 c_)

set_option maxHeartbeats 4000000 in
theorem law_c19 {p : Program} {l : Launch} {e : Env} {s : State} {m : MethodId} {below : List Frame} {meth : Method} {c : Code} {G : gG} {ad : Nat → Nat} {b L : Nat} {xs : Nat → Int32} (hL : L ≤ 3072) (C0 : lw_At p s m meth c b L xs) (hX : gX G s) (hb0 : G.2.2.1 = s.heap.size) (hI : gI G.2.2.1 66 ad) (i : Nat) (hi : i + 6 ≤ L) (σ : gM) (hR : RL2 σ) (H : Heap) (locs : List Loc) (ls : Array Slot) (hP : gP G.1 66 ad (gE (shL G ad) σ) H) (hS : va_S (gA 66 ad) s.heap H locs) (hl : lv_has ls 4 [(0, .ref b), (1, .ref (ad 44)), (2, .ref (ad 55)), (3, .int (nI i))]) (next : ∀ (σ : gM) (H : Heap) (locs : List Loc), RL2 σ → gP G.1 66 ad (gE (shL G ad) σ) H → va_S (gA 66 ad) s.heap H locs → W p l e room_1 s m #[Value.ref b] below meth c H locs 600000 7302250 (lw_Z below #[Value.ref b] s) (F0 m 1399 ls [])) : W p l e room_1 s m #[Value.ref b] below meth c H locs 600000 7302250 (lw_Z below #[Value.ref b] s) (F0 m 795 ls []) := by
  obtain ⟨hx, hb, hr, hml, hown, hts, hX2, hbl, hlocks, hgv⟩ := C0
  have C : CallFix p m c code 4 s #[Value.ref b] Tb RL := ⟨hx, hb, hml, hown, fun w hw => hts w (List.mem_filter.mp hw).1⟩
  have hbA : ¬ gA 66 ad b := fun q => by have := gA.b0 hI q; omega
  have hR2 : R (mget σ 0) (mget σ 55) := hR
  obtain ⟨N, hN, hs, hsM, hdM⟩ := rf_N hR2
  obtain ⟨T, hT, ht, htM⟩ := rf_T hR2
  have hszX := rf_SX hR2
  have hszM := rf_SM hR2
  obtain ⟨K, hK, hkK⟩ := rf_K hR2
  have hspM := rf_P hR2
  refine lv_aload_n hx hb dL_law_795 rfl (lv_at hl 1 rfl) ?_
  refine lv_aload_n hx hb dL_law_796 rfl (lv_at hl 0 rfl) ?_
  refine lv_iload_n hx hb dL_law_797 rfl (lv_at hl 3 rfl) ?_
  refine lv_iconst (v := 1) hx hb dL_law_798 (by decide) ?_
  refine lv_iadd hx hb dL_law_799 ?_
  refine lv_as (y := nI (i + 1)) (nI_add i 1) ?_
  refine va_sld hx hb hX2 hbl hbA hS (vp_in_nI (show i + 1 < L by omega) (by omega)) dL_law_800 ?_
  refine lv_as (y := xs (i + 1)) (by rw [nI_clamp (by omega)]) ?_
  refine lv_aload_n hx hb dL_law_801 rfl (lv_at hl 0 rfl) ?_
  refine lv_iload_n hx hb dL_law_802 rfl (lv_at hl 3 rfl) ?_
  refine lv_iconst (v := 2) hx hb dL_law_803 (by decide) ?_
  refine lv_iadd hx hb dL_law_804 ?_
  refine lv_as (y := nI (i + 2)) (nI_add i 2) ?_
  refine va_sld hx hb hX2 hbl hbA hS (vp_in_nI (show i + 2 < L by omega) (by omega)) dL_law_805 ?_
  refine lv_as (y := xs (i + 2)) (by rw [nI_clamp (by omega)]) ?_
  refine lv_aload_n hx hb dL_law_806 rfl (lv_at hl 0 rfl) ?_
  refine lv_iload_n hx hb dL_law_807 rfl (lv_at hl 3 rfl) ?_
  refine lv_iconst (v := 3) hx hb dL_law_808 (by decide) ?_
  refine lv_iadd hx hb dL_law_809 ?_
  refine lv_as (y := nI (i + 3)) (nI_add i 3) ?_
  refine va_sld hx hb hX2 hbl hbA hS (vp_in_nI (show i + 3 < L by omega) (by omega)) dL_law_810 ?_
  refine lv_as (y := xs (i + 3)) (by rw [nI_clamp (by omega)]) ?_
  refine g_wrI (o := 0) (m1 := 55) (by omega) (shL_X G ad) hI hP hS (g_runV (As := [.int (xs (i + 1)), .int (xs (i + 2)), .int (xs (i + 3))]) (rest := []) ky_yX6_away lk_RL_92 C hX (gS_b0 hI hS) (hP.sub (sh1 := shX G (fun q_ => ad (0 + q_))) 0 55 (by omega) (shL_X G ad)) 44 (c_yX6_away l G (fun q_ => ad (0 + q_)) (hI.sub (m := 55) 0 (by omega)) (mget σ 0) (xs (i + 1)) (xs (i + 2)) (xs (i + 3)) N hN hs) (by decide) (shX_44 G (fun q_ => ad (0 + q_)) _) ⟨rfl, rfl, by decide, by decide⟩ rfl hl.1 rfl (Nat.le_of_ble_eq_true rfl) ⟨Nat.le_of_ble_eq_true rfl, Nat.le_of_ble_eq_true rfl⟩ dL_law_811) (fun H locs hP hS => ?_)
  obtain ⟨σ1, e1⟩ : ∃ σ1, σ1 = mput σ 0 55 (x_away (mget σ 0) (xs (i + 1)) (xs (i + 2)) (xs (i + 3))).2 := ⟨_, rfl⟩
  rw [← e1] at hP
  have hm : mget σ1 55 = mget σ 55 := by rw [e1]; exact mg_M
  refine lv_aload_n hx hb dL_law_814 rfl (lv_at hl 2 rfl) ?_
  refine lv_aload_n hx hb dL_law_815 rfl (lv_at hl 0 rfl) ?_
  refine lv_iload_n hx hb dL_law_816 rfl (lv_at hl 3 rfl) ?_
  refine lv_iconst (v := 1) hx hb dL_law_817 (by decide) ?_
  refine lv_iadd hx hb dL_law_818 ?_
  refine lv_as (y := nI (i + 1)) (nI_add i 1) ?_
  refine va_sld hx hb hX2 hbl hbA hS (vp_in_nI (show i + 1 < L by omega) (by omega)) dL_law_819 ?_
  refine lv_as (y := xs (i + 1)) (by rw [nI_clamp (by omega)]) ?_
  refine lv_aload_n hx hb dL_law_820 rfl (lv_at hl 0 rfl) ?_
  refine lv_iload_n hx hb dL_law_821 rfl (lv_at hl 3 rfl) ?_
  refine lv_iconst (v := 2) hx hb dL_law_822 (by decide) ?_
  refine lv_iadd hx hb dL_law_823 ?_
  refine lv_as (y := nI (i + 2)) (nI_add i 2) ?_
  refine va_sld hx hb hX2 hbl hbA hS (vp_in_nI (show i + 2 < L by omega) (by omega)) dL_law_824 ?_
  refine lv_as (y := xs (i + 2)) (by rw [nI_clamp (by omega)]) ?_
  refine lv_aload_n hx hb dL_law_825 rfl (lv_at hl 0 rfl) ?_
  refine lv_iload_n hx hb dL_law_826 rfl (lv_at hl 3 rfl) ?_
  refine lv_iconst (v := 3) hx hb dL_law_827 (by decide) ?_
  refine lv_iadd hx hb dL_law_828 ?_
  refine lv_as (y := nI (i + 3)) (nI_add i 3) ?_
  refine va_sld hx hb hX2 hbl hbA hS (vp_in_nI (show i + 3 < L by omega) (by omega)) dL_law_829 ?_
  refine lv_as (y := xs (i + 3)) (by rw [nI_clamp (by omega)]) ?_
  refine g_wrI (o := 55) (m1 := 11) (by omega) (shL_M G ad) hI hP hS (g_runV (As := [.int (xs (i + 1)), .int (xs (i + 2)), .int (xs (i + 3))]) (rest := [.int (x_away (mget σ 0) (xs (i + 1)) (xs (i + 2)) (xs (i + 3))).1]) ky_yX7_away lk_RL_95 C hX (gS_b0 hI hS) (hP.sub (sh1 := shM G (fun q_ => ad (55 + q_))) 55 11 (by omega) (shL_M G ad)) 0 (c_yX7_away l G (fun q_ => ad (55 + q_)) (hI.sub (m := 11) 55 (by omega)) (mget σ1 55) (xs (i + 1)) (xs (i + 2)) (xs (i + 3)) N hN (by rw [hm]; exact hsM) (by rw [hm]; exact hdM)) (by decide) (shM_0 G (fun q_ => ad (55 + q_)) _) ⟨rfl, rfl, by decide, by decide⟩ rfl hl.1 rfl (Nat.le_of_ble_eq_true rfl) ⟨Nat.le_of_ble_eq_true rfl, Nat.le_of_ble_eq_true rfl⟩ dL_law_830) (fun H locs hP hS => ?_)
  have hq := eq_away hR2 (xs (i + 1)) (xs (i + 2)) (xs (i + 3))
  rw [← hm] at hq
  exact lv_icmp_eq (tgt := 1399) hx hb dL_law_833 (by decide) (fun c_ => by have hn := RL_next (σ := σ) hq.2; rw [← e1] at hn; exact next _ H locs hn hP hS) (fun c_ => absurd hq.1 c_)

set_option maxHeartbeats 4000000 in
theorem law_c20 {p : Program} {l : Launch} {e : Env} {s : State} {m : MethodId} {below : List Frame} {meth : Method} {c : Code} {G : gG} {ad : Nat → Nat} {b L : Nat} {xs : Nat → Int32} (hL : L ≤ 3072) (C0 : lw_At p s m meth c b L xs) (hX : gX G s) (hb0 : G.2.2.1 = s.heap.size) (hI : gI G.2.2.1 66 ad) (i : Nat) (hi : i + 6 ≤ L) (σ : gM) (hR : RL2 σ) (H : Heap) (locs : List Loc) (ls : Array Slot) (hP : gP G.1 66 ad (gE (shL G ad) σ) H) (hS : va_S (gA 66 ad) s.heap H locs) (hl : lv_has ls 4 [(0, .ref b), (1, .ref (ad 44)), (2, .ref (ad 55)), (3, .int (nI i))]) (next : ∀ (σ : gM) (H : Heap) (locs : List Loc), RL2 σ → gP G.1 66 ad (gE (shL G ad) σ) H → va_S (gA 66 ad) s.heap H locs → W p l e room_1 s m #[Value.ref b] below meth c H locs 600000 7302250 (lw_Z below #[Value.ref b] s) (F0 m 1399 ls [])) : W p l e room_1 s m #[Value.ref b] below meth c H locs 600000 7302250 (lw_Z below #[Value.ref b] s) (F0 m 838 ls []) := by
  obtain ⟨hx, hb, hr, hml, hown, hts, hX2, hbl, hlocks, hgv⟩ := C0
  have C : CallFix p m c code 4 s #[Value.ref b] Tb RL := ⟨hx, hb, hml, hown, fun w hw => hts w (List.mem_filter.mp hw).1⟩
  have hbA : ¬ gA 66 ad b := fun q => by have := gA.b0 hI q; omega
  have hR2 : R (mget σ 0) (mget σ 55) := hR
  obtain ⟨N, hN, hs, hsM, hdM⟩ := rf_N hR2
  obtain ⟨T, hT, ht, htM⟩ := rf_T hR2
  have hszX := rf_SX hR2
  have hszM := rf_SM hR2
  obtain ⟨K, hK, hkK⟩ := rf_K hR2
  have hspM := rf_P hR2
  refine lv_aload_n hx hb dL_law_838 rfl (lv_at hl 1 rfl) ?_
  refine lv_aload_n hx hb dL_law_839 rfl (lv_at hl 0 rfl) ?_
  refine lv_iload_n hx hb dL_law_840 rfl (lv_at hl 3 rfl) ?_
  refine lv_iconst (v := 1) hx hb dL_law_841 (by decide) ?_
  refine lv_iadd hx hb dL_law_842 ?_
  refine lv_as (y := nI (i + 1)) (nI_add i 1) ?_
  refine va_sld hx hb hX2 hbl hbA hS (vp_in_nI (show i + 1 < L by omega) (by omega)) dL_law_843 ?_
  refine lv_as (y := xs (i + 1)) (by rw [nI_clamp (by omega)]) ?_
  refine lv_aload_n hx hb dL_law_844 rfl (lv_at hl 0 rfl) ?_
  refine lv_iload_n hx hb dL_law_845 rfl (lv_at hl 3 rfl) ?_
  refine lv_iconst (v := 2) hx hb dL_law_846 (by decide) ?_
  refine lv_iadd hx hb dL_law_847 ?_
  refine lv_as (y := nI (i + 2)) (nI_add i 2) ?_
  refine va_sld hx hb hX2 hbl hbA hS (vp_in_nI (show i + 2 < L by omega) (by omega)) dL_law_848 ?_
  refine lv_as (y := xs (i + 2)) (by rw [nI_clamp (by omega)]) ?_
  refine g_wrI (o := 0) (m1 := 55) (by omega) (shL_X G ad) hI hP hS (g_runV (As := [.int (xs (i + 1)), .int (xs (i + 2))]) (rest := []) ky_yX6_fits lk_RL_96 C hX (gS_b0 hI hS) (hP.sub (sh1 := shX G (fun q_ => ad (0 + q_))) 0 55 (by omega) (shL_X G ad)) 44 (c_yX6_fits l G (fun q_ => ad (0 + q_)) (hI.sub (m := 55) 0 (by omega)) (mget σ 0) (xs (i + 1)) (xs (i + 2)) N hN hs hszX) (by decide) (shX_44 G (fun q_ => ad (0 + q_)) _) ⟨rfl, rfl, by decide, by decide⟩ rfl hl.1 rfl (Nat.le_of_ble_eq_true rfl) ⟨Nat.le_of_ble_eq_true rfl, Nat.le_of_ble_eq_true rfl⟩ dL_law_849) (fun H locs hP hS => ?_)
  obtain ⟨σ1, e1⟩ : ∃ σ1, σ1 = mput σ 0 55 (x_fits (mget σ 0) (xs (i + 1)) (xs (i + 2))).2 := ⟨_, rfl⟩
  rw [← e1] at hP
  have hm : mget σ1 55 = mget σ 55 := by rw [e1]; exact mg_M
  refine lv_aload_n hx hb dL_law_852 rfl (lv_at hl 2 rfl) ?_
  refine lv_aload_n hx hb dL_law_853 rfl (lv_at hl 0 rfl) ?_
  refine lv_iload_n hx hb dL_law_854 rfl (lv_at hl 3 rfl) ?_
  refine lv_iconst (v := 1) hx hb dL_law_855 (by decide) ?_
  refine lv_iadd hx hb dL_law_856 ?_
  refine lv_as (y := nI (i + 1)) (nI_add i 1) ?_
  refine va_sld hx hb hX2 hbl hbA hS (vp_in_nI (show i + 1 < L by omega) (by omega)) dL_law_857 ?_
  refine lv_as (y := xs (i + 1)) (by rw [nI_clamp (by omega)]) ?_
  refine lv_aload_n hx hb dL_law_858 rfl (lv_at hl 0 rfl) ?_
  refine lv_iload_n hx hb dL_law_859 rfl (lv_at hl 3 rfl) ?_
  refine lv_iconst (v := 2) hx hb dL_law_860 (by decide) ?_
  refine lv_iadd hx hb dL_law_861 ?_
  refine lv_as (y := nI (i + 2)) (nI_add i 2) ?_
  refine va_sld hx hb hX2 hbl hbA hS (vp_in_nI (show i + 2 < L by omega) (by omega)) dL_law_862 ?_
  refine lv_as (y := xs (i + 2)) (by rw [nI_clamp (by omega)]) ?_
  refine g_wrI (o := 55) (m1 := 11) (by omega) (shL_M G ad) hI hP hS (g_runV (As := [.int (xs (i + 1)), .int (xs (i + 2))]) (rest := [.int (x_fits (mget σ 0) (xs (i + 1)) (xs (i + 2))).1]) ky_yX7_fits lk_RL_99 C hX (gS_b0 hI hS) (hP.sub (sh1 := shM G (fun q_ => ad (55 + q_))) 55 11 (by omega) (shL_M G ad)) 0 (c_yX7_fits l G (fun q_ => ad (55 + q_)) (hI.sub (m := 11) 55 (by omega)) (mget σ1 55) (xs (i + 1)) (xs (i + 2)) N hN (by rw [hm]; exact hsM) (by rw [hm]; exact hdM) (by rw [hm]; exact hszM)) (by decide) (shM_0 G (fun q_ => ad (55 + q_)) _) ⟨rfl, rfl, by decide, by decide⟩ rfl hl.1 rfl (Nat.le_of_ble_eq_true rfl) ⟨Nat.le_of_ble_eq_true rfl, Nat.le_of_ble_eq_true rfl⟩ dL_law_863) (fun H locs hP hS => ?_)
  have hq := eq_fits hR2 (xs (i + 1)) (xs (i + 2))
  rw [← hm] at hq
  exact lv_icmp_eq (tgt := 1399) hx hb dL_law_866 (by decide) (fun c_ => by have hn := RL_next (σ := σ) hq.2; rw [← e1] at hn; exact next _ H locs hn hP hS) (fun c_ => absurd hq.1 c_)

set_option maxHeartbeats 4000000 in
theorem law_c21 {p : Program} {l : Launch} {e : Env} {s : State} {m : MethodId} {below : List Frame} {meth : Method} {c : Code} {G : gG} {ad : Nat → Nat} {b L : Nat} {xs : Nat → Int32} (hL : L ≤ 3072) (C0 : lw_At p s m meth c b L xs) (hX : gX G s) (hb0 : G.2.2.1 = s.heap.size) (hI : gI G.2.2.1 66 ad) (i : Nat) (hi : i + 6 ≤ L) (σ : gM) (hR : RL2 σ) (H : Heap) (locs : List Loc) (ls : Array Slot) (hP : gP G.1 66 ad (gE (shL G ad) σ) H) (hS : va_S (gA 66 ad) s.heap H locs) (hl : lv_has ls 4 [(0, .ref b), (1, .ref (ad 44)), (2, .ref (ad 55)), (3, .int (nI i))]) (next : ∀ (σ : gM) (H : Heap) (locs : List Loc), RL2 σ → gP G.1 66 ad (gE (shL G ad) σ) H → va_S (gA 66 ad) s.heap H locs → W p l e room_1 s m #[Value.ref b] below meth c H locs 600000 7302250 (lw_Z below #[Value.ref b] s) (F0 m 1399 ls [])) : W p l e room_1 s m #[Value.ref b] below meth c H locs 600000 7302250 (lw_Z below #[Value.ref b] s) (F0 m 871 ls []) := by
  obtain ⟨hx, hb, hr, hml, hown, hts, hX2, hbl, hlocks, hgv⟩ := C0
  have C : CallFix p m c code 4 s #[Value.ref b] Tb RL := ⟨hx, hb, hml, hown, fun w hw => hts w (List.mem_filter.mp hw).1⟩
  have hbA : ¬ gA 66 ad b := fun q => by have := gA.b0 hI q; omega
  have hR2 : R (mget σ 0) (mget σ 55) := hR
  obtain ⟨N, hN, hs, hsM, hdM⟩ := rf_N hR2
  obtain ⟨T, hT, ht, htM⟩ := rf_T hR2
  have hszX := rf_SX hR2
  have hszM := rf_SM hR2
  obtain ⟨K, hK, hkK⟩ := rf_K hR2
  have hspM := rf_P hR2
  refine lv_aload_n hx hb dL_law_871 rfl (lv_at hl 1 rfl) ?_
  refine lv_aload_n hx hb dL_law_872 rfl (lv_at hl 0 rfl) ?_
  refine lv_iload_n hx hb dL_law_873 rfl (lv_at hl 3 rfl) ?_
  refine lv_iconst (v := 1) hx hb dL_law_874 (by decide) ?_
  refine lv_iadd hx hb dL_law_875 ?_
  refine lv_as (y := nI (i + 1)) (nI_add i 1) ?_
  refine va_sld hx hb hX2 hbl hbA hS (vp_in_nI (show i + 1 < L by omega) (by omega)) dL_law_876 ?_
  refine lv_as (y := xs (i + 1)) (by rw [nI_clamp (by omega)]) ?_
  refine lv_aload_n hx hb dL_law_877 rfl (lv_at hl 0 rfl) ?_
  refine lv_iload_n hx hb dL_law_878 rfl (lv_at hl 3 rfl) ?_
  refine lv_iconst (v := 2) hx hb dL_law_879 (by decide) ?_
  refine lv_iadd hx hb dL_law_880 ?_
  refine lv_as (y := nI (i + 2)) (nI_add i 2) ?_
  refine va_sld hx hb hX2 hbl hbA hS (vp_in_nI (show i + 2 < L by omega) (by omega)) dL_law_881 ?_
  refine lv_as (y := xs (i + 2)) (by rw [nI_clamp (by omega)]) ?_
  refine g_wrI (o := 0) (m1 := 55) (by omega) (shL_X G ad) hI hP hS (g_runV (As := [.int (xs (i + 1)), .int (xs (i + 2))]) (rest := []) ky_yX6_kinds lk_RL_100 C hX (gS_b0 hI hS) (hP.sub (sh1 := shX G (fun q_ => ad (0 + q_))) 0 55 (by omega) (shL_X G ad)) 44 (c_yX6_kinds l G (fun q_ => ad (0 + q_)) (hI.sub (m := 55) 0 (by omega)) (mget σ 0) (xs (i + 1)) (xs (i + 2)) N hN hs hszX) (by decide) (shX_44 G (fun q_ => ad (0 + q_)) _) ⟨rfl, rfl, by decide, by decide⟩ rfl hl.1 rfl (Nat.le_of_ble_eq_true rfl) ⟨Nat.le_of_ble_eq_true rfl, Nat.le_of_ble_eq_true rfl⟩ dL_law_882) (fun H locs hP hS => ?_)
  obtain ⟨σ1, e1⟩ : ∃ σ1, σ1 = mput σ 0 55 (x_kinds (mget σ 0) (xs (i + 1)) (xs (i + 2))).2 := ⟨_, rfl⟩
  rw [← e1] at hP
  have hm : mget σ1 55 = mget σ 55 := by rw [e1]; exact mg_M
  refine lv_aload_n hx hb dL_law_885 rfl (lv_at hl 2 rfl) ?_
  refine lv_aload_n hx hb dL_law_886 rfl (lv_at hl 0 rfl) ?_
  refine lv_iload_n hx hb dL_law_887 rfl (lv_at hl 3 rfl) ?_
  refine lv_iconst (v := 1) hx hb dL_law_888 (by decide) ?_
  refine lv_iadd hx hb dL_law_889 ?_
  refine lv_as (y := nI (i + 1)) (nI_add i 1) ?_
  refine va_sld hx hb hX2 hbl hbA hS (vp_in_nI (show i + 1 < L by omega) (by omega)) dL_law_890 ?_
  refine lv_as (y := xs (i + 1)) (by rw [nI_clamp (by omega)]) ?_
  refine lv_aload_n hx hb dL_law_891 rfl (lv_at hl 0 rfl) ?_
  refine lv_iload_n hx hb dL_law_892 rfl (lv_at hl 3 rfl) ?_
  refine lv_iconst (v := 2) hx hb dL_law_893 (by decide) ?_
  refine lv_iadd hx hb dL_law_894 ?_
  refine lv_as (y := nI (i + 2)) (nI_add i 2) ?_
  refine va_sld hx hb hX2 hbl hbA hS (vp_in_nI (show i + 2 < L by omega) (by omega)) dL_law_895 ?_
  refine lv_as (y := xs (i + 2)) (by rw [nI_clamp (by omega)]) ?_
  refine g_wrI (o := 55) (m1 := 11) (by omega) (shL_M G ad) hI hP hS (g_runV (As := [.int (xs (i + 1)), .int (xs (i + 2))]) (rest := [.int (x_kinds (mget σ 0) (xs (i + 1)) (xs (i + 2))).1]) ky_yX7_kinds lk_RL_103 C hX (gS_b0 hI hS) (hP.sub (sh1 := shM G (fun q_ => ad (55 + q_))) 55 11 (by omega) (shL_M G ad)) 0 (c_yX7_kinds l G (fun q_ => ad (55 + q_)) (hI.sub (m := 11) 55 (by omega)) (mget σ1 55) (xs (i + 1)) (xs (i + 2)) N hN (by rw [hm]; exact hsM) (by rw [hm]; exact hdM) (by rw [hm]; exact hszM)) (by decide) (shM_0 G (fun q_ => ad (55 + q_)) _) ⟨rfl, rfl, by decide, by decide⟩ rfl hl.1 rfl (Nat.le_of_ble_eq_true rfl) ⟨Nat.le_of_ble_eq_true rfl, Nat.le_of_ble_eq_true rfl⟩ dL_law_896) (fun H locs hP hS => ?_)
  have hq := eq_kinds hR2 (xs (i + 1)) (xs (i + 2))
  rw [← hm] at hq
  exact lv_icmp_eq (tgt := 1399) hx hb dL_law_899 (by decide) (fun c_ => by have hn := RL_next (σ := σ) hq.2; rw [← e1] at hn; exact next _ H locs hn hP hS) (fun c_ => absurd hq.1 c_)

set_option maxHeartbeats 4000000 in
theorem law_c22 {p : Program} {l : Launch} {e : Env} {s : State} {m : MethodId} {below : List Frame} {meth : Method} {c : Code} {G : gG} {ad : Nat → Nat} {b L : Nat} {xs : Nat → Int32} (hL : L ≤ 3072) (C0 : lw_At p s m meth c b L xs) (hX : gX G s) (hb0 : G.2.2.1 = s.heap.size) (hI : gI G.2.2.1 66 ad) (i : Nat) (hi : i + 6 ≤ L) (σ : gM) (hR : RL2 σ) (H : Heap) (locs : List Loc) (ls : Array Slot) (hP : gP G.1 66 ad (gE (shL G ad) σ) H) (hS : va_S (gA 66 ad) s.heap H locs) (hl : lv_has ls 4 [(0, .ref b), (1, .ref (ad 44)), (2, .ref (ad 55)), (3, .int (nI i))]) (next : ∀ (σ : gM) (H : Heap) (locs : List Loc), RL2 σ → gP G.1 66 ad (gE (shL G ad) σ) H → va_S (gA 66 ad) s.heap H locs → W p l e room_1 s m #[Value.ref b] below meth c H locs 600000 7302250 (lw_Z below #[Value.ref b] s) (F0 m 1399 ls [])) : W p l e room_1 s m #[Value.ref b] below meth c H locs 600000 7302250 (lw_Z below #[Value.ref b] s) (F0 m 904 ls []) := by
  obtain ⟨hx, hb, hr, hml, hown, hts, hX2, hbl, hlocks, hgv⟩ := C0
  have C : CallFix p m c code 4 s #[Value.ref b] Tb RL := ⟨hx, hb, hml, hown, fun w hw => hts w (List.mem_filter.mp hw).1⟩
  have hbA : ¬ gA 66 ad b := fun q => by have := gA.b0 hI q; omega
  have hR2 : R (mget σ 0) (mget σ 55) := hR
  obtain ⟨N, hN, hs, hsM, hdM⟩ := rf_N hR2
  obtain ⟨T, hT, ht, htM⟩ := rf_T hR2
  have hszX := rf_SX hR2
  have hszM := rf_SM hR2
  obtain ⟨K, hK, hkK⟩ := rf_K hR2
  have hspM := rf_P hR2
  refine lv_aload_n hx hb dL_law_904 rfl (lv_at hl 1 rfl) ?_
  refine lv_aload_n hx hb dL_law_905 rfl (lv_at hl 0 rfl) ?_
  refine lv_iload_n hx hb dL_law_906 rfl (lv_at hl 3 rfl) ?_
  refine lv_iconst (v := 1) hx hb dL_law_907 (by decide) ?_
  refine lv_iadd hx hb dL_law_908 ?_
  refine lv_as (y := nI (i + 1)) (nI_add i 1) ?_
  refine va_sld hx hb hX2 hbl hbA hS (vp_in_nI (show i + 1 < L by omega) (by omega)) dL_law_909 ?_
  refine lv_as (y := xs (i + 1)) (by rw [nI_clamp (by omega)]) ?_
  refine g_wrI (o := 0) (m1 := 55) (by omega) (shL_X G ad) hI hP hS (g_runV (As := [.int (xs (i + 1))]) (rest := []) ky_yX6_talk lk_RL_104 C hX (gS_b0 hI hS) (hP.sub (sh1 := shX G (fun q_ => ad (0 + q_))) 0 55 (by omega) (shL_X G ad)) 44 (c_yX6_talk l G (fun q_ => ad (0 + q_)) (hI.sub (m := 55) 0 (by omega)) (mget σ 0) (xs (i + 1)) N hN hs) (by decide) (shX_44 G (fun q_ => ad (0 + q_)) _) ⟨rfl, rfl, by decide, by decide⟩ rfl hl.1 rfl (Nat.le_of_ble_eq_true rfl) ⟨Nat.le_of_ble_eq_true rfl, Nat.le_of_ble_eq_true rfl⟩ dL_law_910) (fun H locs hP hS => ?_)
  obtain ⟨σ1, e1⟩ : ∃ σ1, σ1 = mput σ 0 55 (x_talk (mget σ 0) (xs (i + 1))).2 := ⟨_, rfl⟩
  rw [← e1] at hP
  have hm : mget σ1 55 = mget σ 55 := by rw [e1]; exact mg_M
  refine lv_aload_n hx hb dL_law_913 rfl (lv_at hl 2 rfl) ?_
  refine lv_aload_n hx hb dL_law_914 rfl (lv_at hl 0 rfl) ?_
  refine lv_iload_n hx hb dL_law_915 rfl (lv_at hl 3 rfl) ?_
  refine lv_iconst (v := 1) hx hb dL_law_916 (by decide) ?_
  refine lv_iadd hx hb dL_law_917 ?_
  refine lv_as (y := nI (i + 1)) (nI_add i 1) ?_
  refine va_sld hx hb hX2 hbl hbA hS (vp_in_nI (show i + 1 < L by omega) (by omega)) dL_law_918 ?_
  refine lv_as (y := xs (i + 1)) (by rw [nI_clamp (by omega)]) ?_
  refine g_wrI (o := 55) (m1 := 11) (by omega) (shL_M G ad) hI hP hS (g_runV (As := [.int (xs (i + 1))]) (rest := [.int (x_talk (mget σ 0) (xs (i + 1))).1]) ky_yX7_talk lk_RL_107 C hX (gS_b0 hI hS) (hP.sub (sh1 := shM G (fun q_ => ad (55 + q_))) 55 11 (by omega) (shL_M G ad)) 0 (c_yX7_talk l G (fun q_ => ad (55 + q_)) (hI.sub (m := 11) 55 (by omega)) (mget σ1 55) (xs (i + 1)) N hN (by rw [hm]; exact hsM) (by rw [hm]; exact hdM)) (by decide) (shM_0 G (fun q_ => ad (55 + q_)) _) ⟨rfl, rfl, by decide, by decide⟩ rfl hl.1 rfl (Nat.le_of_ble_eq_true rfl) ⟨Nat.le_of_ble_eq_true rfl, Nat.le_of_ble_eq_true rfl⟩ dL_law_919) (fun H locs hP hS => ?_)
  have hq := eq_talk hR2 (xs (i + 1))
  rw [← hm] at hq
  exact lv_icmp_eq (tgt := 1399) hx hb dL_law_922 (by decide) (fun c_ => by have hn := RL_next (σ := σ) hq.2; rw [← e1] at hn; exact next _ H locs hn hP hS) (fun c_ => absurd hq.1 c_)

set_option maxHeartbeats 4000000 in
theorem law_c23 {p : Program} {l : Launch} {e : Env} {s : State} {m : MethodId} {below : List Frame} {meth : Method} {c : Code} {G : gG} {ad : Nat → Nat} {b L : Nat} {xs : Nat → Int32} (hL : L ≤ 3072) (C0 : lw_At p s m meth c b L xs) (hX : gX G s) (hb0 : G.2.2.1 = s.heap.size) (hI : gI G.2.2.1 66 ad) (i : Nat) (hi : i + 6 ≤ L) (σ : gM) (hR : RL2 σ) (H : Heap) (locs : List Loc) (ls : Array Slot) (hP : gP G.1 66 ad (gE (shL G ad) σ) H) (hS : va_S (gA 66 ad) s.heap H locs) (hl : lv_has ls 4 [(0, .ref b), (1, .ref (ad 44)), (2, .ref (ad 55)), (3, .int (nI i))]) (next : ∀ (σ : gM) (H : Heap) (locs : List Loc), RL2 σ → gP G.1 66 ad (gE (shL G ad) σ) H → va_S (gA 66 ad) s.heap H locs → W p l e room_1 s m #[Value.ref b] below meth c H locs 600000 7302250 (lw_Z below #[Value.ref b] s) (F0 m 1399 ls [])) : W p l e room_1 s m #[Value.ref b] below meth c H locs 600000 7302250 (lw_Z below #[Value.ref b] s) (F0 m 927 ls []) := by
  obtain ⟨hx, hb, hr, hml, hown, hts, hX2, hbl, hlocks, hgv⟩ := C0
  have C : CallFix p m c code 4 s #[Value.ref b] Tb RL := ⟨hx, hb, hml, hown, fun w hw => hts w (List.mem_filter.mp hw).1⟩
  have hbA : ¬ gA 66 ad b := fun q => by have := gA.b0 hI q; omega
  have hR2 : R (mget σ 0) (mget σ 55) := hR
  obtain ⟨N, hN, hs, hsM, hdM⟩ := rf_N hR2
  obtain ⟨T, hT, ht, htM⟩ := rf_T hR2
  have hszX := rf_SX hR2
  have hszM := rf_SM hR2
  obtain ⟨K, hK, hkK⟩ := rf_K hR2
  have hspM := rf_P hR2
  refine lv_aload_n hx hb dL_law_927 rfl (lv_at hl 1 rfl) ?_
  refine lv_aload_n hx hb dL_law_928 rfl (lv_at hl 0 rfl) ?_
  refine lv_iload_n hx hb dL_law_929 rfl (lv_at hl 3 rfl) ?_
  refine lv_iconst (v := 1) hx hb dL_law_930 (by decide) ?_
  refine lv_iadd hx hb dL_law_931 ?_
  refine lv_as (y := nI (i + 1)) (nI_add i 1) ?_
  refine va_sld hx hb hX2 hbl hbA hS (vp_in_nI (show i + 1 < L by omega) (by omega)) dL_law_932 ?_
  refine lv_as (y := xs (i + 1)) (by rw [nI_clamp (by omega)]) ?_
  refine lv_aload_n hx hb dL_law_933 rfl (lv_at hl 0 rfl) ?_
  refine lv_iload_n hx hb dL_law_934 rfl (lv_at hl 3 rfl) ?_
  refine lv_iconst (v := 2) hx hb dL_law_935 (by decide) ?_
  refine lv_iadd hx hb dL_law_936 ?_
  refine lv_as (y := nI (i + 2)) (nI_add i 2) ?_
  refine va_sld hx hb hX2 hbl hbA hS (vp_in_nI (show i + 2 < L by omega) (by omega)) dL_law_937 ?_
  refine lv_as (y := xs (i + 2)) (by rw [nI_clamp (by omega)]) ?_
  refine lv_aload_n hx hb dL_law_938 rfl (lv_at hl 0 rfl) ?_
  refine lv_iload_n hx hb dL_law_939 rfl (lv_at hl 3 rfl) ?_
  refine lv_iconst (v := 3) hx hb dL_law_940 (by decide) ?_
  refine lv_iadd hx hb dL_law_941 ?_
  refine lv_as (y := nI (i + 3)) (nI_add i 3) ?_
  refine va_sld hx hb hX2 hbl hbA hS (vp_in_nI (show i + 3 < L by omega) (by omega)) dL_law_942 ?_
  refine lv_as (y := xs (i + 3)) (by rw [nI_clamp (by omega)]) ?_
  refine g_wrL (o := 0) (m1 := 55) (by omega) (shL_X G ad) hI hP hS (g_runV (As := [.int (xs (i + 1)), .int (xs (i + 2)), .int (xs (i + 3))]) (rest := []) ky_yX6_odds lk_RL_108 C hX (gS_b0 hI hS) (hP.sub (sh1 := shX G (fun q_ => ad (0 + q_))) 0 55 (by omega) (shL_X G ad)) 44 (c_yX6_odds l G (fun q_ => ad (0 + q_)) (hI.sub (m := 55) 0 (by omega)) (mget σ 0) (xs (i + 1)) (xs (i + 2)) (xs (i + 3)) N hN hs) (by decide) (shX_44 G (fun q_ => ad (0 + q_)) _) ⟨rfl, rfl, by decide, by decide⟩ rfl hl.1 rfl (Nat.le_of_ble_eq_true rfl) ⟨Nat.le_of_ble_eq_true rfl, Nat.le_of_ble_eq_true rfl⟩ dL_law_943) (fun H locs hP hS => ?_)
  obtain ⟨σ1, e1⟩ : ∃ σ1, σ1 = mput σ 0 55 (x_odds (mget σ 0) (xs (i + 1)) (xs (i + 2)) (xs (i + 3))).2 := ⟨_, rfl⟩
  rw [← e1] at hP
  have hm : mget σ1 55 = mget σ 55 := by rw [e1]; exact mg_M
  refine lv_aload_n hx hb dL_law_946 rfl (lv_at hl 2 rfl) ?_
  refine lv_aload_n hx hb dL_law_947 rfl (lv_at hl 0 rfl) ?_
  refine lv_iload_n hx hb dL_law_948 rfl (lv_at hl 3 rfl) ?_
  refine lv_iconst (v := 1) hx hb dL_law_949 (by decide) ?_
  refine lv_iadd hx hb dL_law_950 ?_
  refine lv_as (y := nI (i + 1)) (nI_add i 1) ?_
  refine va_sld hx hb hX2 hbl hbA hS (vp_in_nI (show i + 1 < L by omega) (by omega)) dL_law_951 ?_
  refine lv_as (y := xs (i + 1)) (by rw [nI_clamp (by omega)]) ?_
  refine lv_aload_n hx hb dL_law_952 rfl (lv_at hl 0 rfl) ?_
  refine lv_iload_n hx hb dL_law_953 rfl (lv_at hl 3 rfl) ?_
  refine lv_iconst (v := 2) hx hb dL_law_954 (by decide) ?_
  refine lv_iadd hx hb dL_law_955 ?_
  refine lv_as (y := nI (i + 2)) (nI_add i 2) ?_
  refine va_sld hx hb hX2 hbl hbA hS (vp_in_nI (show i + 2 < L by omega) (by omega)) dL_law_956 ?_
  refine lv_as (y := xs (i + 2)) (by rw [nI_clamp (by omega)]) ?_
  refine lv_aload_n hx hb dL_law_957 rfl (lv_at hl 0 rfl) ?_
  refine lv_iload_n hx hb dL_law_958 rfl (lv_at hl 3 rfl) ?_
  refine lv_iconst (v := 3) hx hb dL_law_959 (by decide) ?_
  refine lv_iadd hx hb dL_law_960 ?_
  refine lv_as (y := nI (i + 3)) (nI_add i 3) ?_
  refine va_sld hx hb hX2 hbl hbA hS (vp_in_nI (show i + 3 < L by omega) (by omega)) dL_law_961 ?_
  refine lv_as (y := xs (i + 3)) (by rw [nI_clamp (by omega)]) ?_
  refine g_wrL (o := 55) (m1 := 11) (by omega) (shL_M G ad) hI hP hS (g_runV (As := [.int (xs (i + 1)), .int (xs (i + 2)), .int (xs (i + 3))]) (rest := [.long (x_odds (mget σ 0) (xs (i + 1)) (xs (i + 2)) (xs (i + 3))).1]) ky_yX7_odds lk_RL_112 C hX (gS_b0 hI hS) (hP.sub (sh1 := shM G (fun q_ => ad (55 + q_))) 55 11 (by omega) (shL_M G ad)) 0 (c_yX7_odds l G (fun q_ => ad (55 + q_)) (hI.sub (m := 11) 55 (by omega)) (mget σ1 55) (xs (i + 1)) (xs (i + 2)) (xs (i + 3)) N hN (by rw [hm]; exact hsM)) (by decide) (shM_0 G (fun q_ => ad (55 + q_)) _) ⟨rfl, rfl, by decide, by decide⟩ rfl hl.1 rfl (Nat.le_of_ble_eq_true rfl) ⟨Nat.le_of_ble_eq_true rfl, Nat.le_of_ble_eq_true rfl⟩ dL_law_962) (fun H locs hP hS => ?_)
  have hq := eq_odds hR2 (xs (i + 1)) (xs (i + 2)) (xs (i + 3))
  rw [← hm] at hq
  refine W.lcmp hx hb dL_law_965 ?_
  rw [hq.1]
  refine lv_if_eq (tgt := 1399) hx hb dL_law_966 (by decide) (fun c_ => by have hn := RL_next (σ := σ) hq.2; rw [← e1] at hn; exact next _ H locs hn hP hS) (fun c_ => absurd (lcmp_self _) c_)

set_option maxHeartbeats 4000000 in
theorem law_c24 {p : Program} {l : Launch} {e : Env} {s : State} {m : MethodId} {below : List Frame} {meth : Method} {c : Code} {G : gG} {ad : Nat → Nat} {b L : Nat} {xs : Nat → Int32} (hL : L ≤ 3072) (C0 : lw_At p s m meth c b L xs) (hX : gX G s) (hb0 : G.2.2.1 = s.heap.size) (hI : gI G.2.2.1 66 ad) (i : Nat) (hi : i + 6 ≤ L) (σ : gM) (hR : RL2 σ) (H : Heap) (locs : List Loc) (ls : Array Slot) (hP : gP G.1 66 ad (gE (shL G ad) σ) H) (hS : va_S (gA 66 ad) s.heap H locs) (hl : lv_has ls 4 [(0, .ref b), (1, .ref (ad 44)), (2, .ref (ad 55)), (3, .int (nI i))]) (next : ∀ (σ : gM) (H : Heap) (locs : List Loc), RL2 σ → gP G.1 66 ad (gE (shL G ad) σ) H → va_S (gA 66 ad) s.heap H locs → W p l e room_1 s m #[Value.ref b] below meth c H locs 600000 7302250 (lw_Z below #[Value.ref b] s) (F0 m 1399 ls [])) : W p l e room_1 s m #[Value.ref b] below meth c H locs 600000 7302250 (lw_Z below #[Value.ref b] s) (F0 m 971 ls []) := by
  obtain ⟨hx, hb, hr, hml, hown, hts, hX2, hbl, hlocks, hgv⟩ := C0
  have C : CallFix p m c code 4 s #[Value.ref b] Tb RL := ⟨hx, hb, hml, hown, fun w hw => hts w (List.mem_filter.mp hw).1⟩
  have hbA : ¬ gA 66 ad b := fun q => by have := gA.b0 hI q; omega
  have hR2 : R (mget σ 0) (mget σ 55) := hR
  obtain ⟨N, hN, hs, hsM, hdM⟩ := rf_N hR2
  obtain ⟨T, hT, ht, htM⟩ := rf_T hR2
  have hszX := rf_SX hR2
  have hszM := rf_SM hR2
  obtain ⟨K, hK, hkK⟩ := rf_K hR2
  have hspM := rf_P hR2
  refine lv_aload_n hx hb dL_law_971 rfl (lv_at hl 1 rfl) ?_
  refine lv_aload_n hx hb dL_law_972 rfl (lv_at hl 0 rfl) ?_
  refine lv_iload_n hx hb dL_law_973 rfl (lv_at hl 3 rfl) ?_
  refine lv_iconst (v := 1) hx hb dL_law_974 (by decide) ?_
  refine lv_iadd hx hb dL_law_975 ?_
  refine lv_as (y := nI (i + 1)) (nI_add i 1) ?_
  refine va_sld hx hb hX2 hbl hbA hS (vp_in_nI (show i + 1 < L by omega) (by omega)) dL_law_976 ?_
  refine lv_as (y := xs (i + 1)) (by rw [nI_clamp (by omega)]) ?_
  refine g_wrI (o := 0) (m1 := 55) (by omega) (shL_X G ad) hI hP hS (g_runV (As := [.int (xs (i + 1))]) (rest := []) ky_yX6_seed lk_RL_113 C hX (gS_b0 hI hS) (hP.sub (sh1 := shX G (fun q_ => ad (0 + q_))) 0 55 (by omega) (shL_X G ad)) 44 (c_yX6_seed l G (fun q_ => ad (0 + q_)) (hI.sub (m := 55) 0 (by omega)) (mget σ 0) (xs (i + 1)) ) (by decide) (shX_44 G (fun q_ => ad (0 + q_)) _) ⟨rfl, rfl, by decide, by decide⟩ rfl hl.1 rfl (Nat.le_of_ble_eq_true rfl) ⟨Nat.le_of_ble_eq_true rfl, Nat.le_of_ble_eq_true rfl⟩ dL_law_977) (fun H locs hP hS => ?_)
  obtain ⟨σ1, e1⟩ : ∃ σ1, σ1 = mput σ 0 55 (x_seed (mget σ 0) (xs (i + 1))).2 := ⟨_, rfl⟩
  rw [← e1] at hP
  have hm : mget σ1 55 = mget σ 55 := by rw [e1]; exact mg_M
  refine lv_aload_n hx hb dL_law_980 rfl (lv_at hl 2 rfl) ?_
  refine lv_aload_n hx hb dL_law_981 rfl (lv_at hl 0 rfl) ?_
  refine lv_iload_n hx hb dL_law_982 rfl (lv_at hl 3 rfl) ?_
  refine lv_iconst (v := 1) hx hb dL_law_983 (by decide) ?_
  refine lv_iadd hx hb dL_law_984 ?_
  refine lv_as (y := nI (i + 1)) (nI_add i 1) ?_
  refine va_sld hx hb hX2 hbl hbA hS (vp_in_nI (show i + 1 < L by omega) (by omega)) dL_law_985 ?_
  refine lv_as (y := xs (i + 1)) (by rw [nI_clamp (by omega)]) ?_
  refine g_wrI (o := 55) (m1 := 11) (by omega) (shL_M G ad) hI hP hS (g_runV (As := [.int (xs (i + 1))]) (rest := [.int (x_seed (mget σ 0) (xs (i + 1))).1]) ky_yX7_seed lk_RL_116 C hX (gS_b0 hI hS) (hP.sub (sh1 := shM G (fun q_ => ad (55 + q_))) 55 11 (by omega) (shL_M G ad)) 0 (c_yX7_seed l G (fun q_ => ad (55 + q_)) (hI.sub (m := 11) 55 (by omega)) (mget σ1 55) (xs (i + 1)) ) (by decide) (shM_0 G (fun q_ => ad (55 + q_)) _) ⟨rfl, rfl, by decide, by decide⟩ rfl hl.1 rfl (Nat.le_of_ble_eq_true rfl) ⟨Nat.le_of_ble_eq_true rfl, Nat.le_of_ble_eq_true rfl⟩ dL_law_986) (fun H locs hP hS => ?_)
  have hq := eq_seed hR2 (xs (i + 1))
  rw [← hm] at hq
  exact lv_icmp_eq (tgt := 1399) hx hb dL_law_989 (by decide) (fun c_ => by have hn := RL_next (σ := σ) hq.2; rw [← e1] at hn; exact next _ H locs hn hP hS) (fun c_ => absurd hq.1 c_)

set_option maxHeartbeats 4000000 in
theorem law_c25 {p : Program} {l : Launch} {e : Env} {s : State} {m : MethodId} {below : List Frame} {meth : Method} {c : Code} {G : gG} {ad : Nat → Nat} {b L : Nat} {xs : Nat → Int32} (hL : L ≤ 3072) (C0 : lw_At p s m meth c b L xs) (hX : gX G s) (hb0 : G.2.2.1 = s.heap.size) (hI : gI G.2.2.1 66 ad) (i : Nat) (hi : i + 6 ≤ L) (σ : gM) (hR : RL2 σ) (H : Heap) (locs : List Loc) (ls : Array Slot) (hP : gP G.1 66 ad (gE (shL G ad) σ) H) (hS : va_S (gA 66 ad) s.heap H locs) (hl : lv_has ls 4 [(0, .ref b), (1, .ref (ad 44)), (2, .ref (ad 55)), (3, .int (nI i))]) (next : ∀ (σ : gM) (H : Heap) (locs : List Loc), RL2 σ → gP G.1 66 ad (gE (shL G ad) σ) H → va_S (gA 66 ad) s.heap H locs → W p l e room_1 s m #[Value.ref b] below meth c H locs 600000 7302250 (lw_Z below #[Value.ref b] s) (F0 m 1399 ls [])) : W p l e room_1 s m #[Value.ref b] below meth c H locs 600000 7302250 (lw_Z below #[Value.ref b] s) (F0 m 994 ls []) := by
  obtain ⟨hx, hb, hr, hml, hown, hts, hX2, hbl, hlocks, hgv⟩ := C0
  have C : CallFix p m c code 4 s #[Value.ref b] Tb RL := ⟨hx, hb, hml, hown, fun w hw => hts w (List.mem_filter.mp hw).1⟩
  have hbA : ¬ gA 66 ad b := fun q => by have := gA.b0 hI q; omega
  have hR2 : R (mget σ 0) (mget σ 55) := hR
  obtain ⟨N, hN, hs, hsM, hdM⟩ := rf_N hR2
  obtain ⟨T, hT, ht, htM⟩ := rf_T hR2
  have hszX := rf_SX hR2
  have hszM := rf_SM hR2
  obtain ⟨K, hK, hkK⟩ := rf_K hR2
  have hspM := rf_P hR2
  refine lv_aload_n hx hb dL_law_994 rfl (lv_at hl 1 rfl) ?_
  refine lv_aload_n hx hb dL_law_995 rfl (lv_at hl 0 rfl) ?_
  refine lv_iload_n hx hb dL_law_996 rfl (lv_at hl 3 rfl) ?_
  refine lv_iconst (v := 1) hx hb dL_law_997 (by decide) ?_
  refine lv_iadd hx hb dL_law_998 ?_
  refine lv_as (y := nI (i + 1)) (nI_add i 1) ?_
  refine va_sld hx hb hX2 hbl hbA hS (vp_in_nI (show i + 1 < L by omega) (by omega)) dL_law_999 ?_
  refine lv_as (y := xs (i + 1)) (by rw [nI_clamp (by omega)]) ?_
  refine lv_aload_n hx hb dL_law_1000 rfl (lv_at hl 0 rfl) ?_
  refine lv_iload_n hx hb dL_law_1001 rfl (lv_at hl 3 rfl) ?_
  refine lv_iconst (v := 2) hx hb dL_law_1002 (by decide) ?_
  refine lv_iadd hx hb dL_law_1003 ?_
  refine lv_as (y := nI (i + 2)) (nI_add i 2) ?_
  refine va_sld hx hb hX2 hbl hbA hS (vp_in_nI (show i + 2 < L by omega) (by omega)) dL_law_1004 ?_
  refine lv_as (y := xs (i + 2)) (by rw [nI_clamp (by omega)]) ?_
  refine g_wrI (o := 0) (m1 := 55) (by omega) (shL_X G ad) hI hP hS (g_runV (As := [.int (xs (i + 1)), .int (xs (i + 2))]) (rest := []) ky_yX6_feed lk_RL_117 C hX (gS_b0 hI hS) (hP.sub (sh1 := shX G (fun q_ => ad (0 + q_))) 0 55 (by omega) (shL_X G ad)) 44 (c_yX6_feed l G (fun q_ => ad (0 + q_)) (hI.sub (m := 55) 0 (by omega)) (mget σ 0) (xs (i + 1)) (xs (i + 2)) T hT ht) (by decide) (shX_44 G (fun q_ => ad (0 + q_)) _) ⟨rfl, rfl, by decide, by decide⟩ rfl hl.1 rfl (Nat.le_of_ble_eq_true rfl) ⟨Nat.le_of_ble_eq_true rfl, Nat.le_of_ble_eq_true rfl⟩ dL_law_1005) (fun H locs hP hS => ?_)
  obtain ⟨σ1, e1⟩ : ∃ σ1, σ1 = mput σ 0 55 (x_feed (mget σ 0) (xs (i + 1)) (xs (i + 2))).2 := ⟨_, rfl⟩
  rw [← e1] at hP
  have hm : mget σ1 55 = mget σ 55 := by rw [e1]; exact mg_M
  refine lv_aload_n hx hb dL_law_1008 rfl (lv_at hl 2 rfl) ?_
  refine lv_aload_n hx hb dL_law_1009 rfl (lv_at hl 0 rfl) ?_
  refine lv_iload_n hx hb dL_law_1010 rfl (lv_at hl 3 rfl) ?_
  refine lv_iconst (v := 1) hx hb dL_law_1011 (by decide) ?_
  refine lv_iadd hx hb dL_law_1012 ?_
  refine lv_as (y := nI (i + 1)) (nI_add i 1) ?_
  refine va_sld hx hb hX2 hbl hbA hS (vp_in_nI (show i + 1 < L by omega) (by omega)) dL_law_1013 ?_
  refine lv_as (y := xs (i + 1)) (by rw [nI_clamp (by omega)]) ?_
  refine lv_aload_n hx hb dL_law_1014 rfl (lv_at hl 0 rfl) ?_
  refine lv_iload_n hx hb dL_law_1015 rfl (lv_at hl 3 rfl) ?_
  refine lv_iconst (v := 2) hx hb dL_law_1016 (by decide) ?_
  refine lv_iadd hx hb dL_law_1017 ?_
  refine lv_as (y := nI (i + 2)) (nI_add i 2) ?_
  refine va_sld hx hb hX2 hbl hbA hS (vp_in_nI (show i + 2 < L by omega) (by omega)) dL_law_1018 ?_
  refine lv_as (y := xs (i + 2)) (by rw [nI_clamp (by omega)]) ?_
  refine g_wrI (o := 55) (m1 := 11) (by omega) (shL_M G ad) hI hP hS (g_runV (As := [.int (xs (i + 1)), .int (xs (i + 2))]) (rest := [.int (x_feed (mget σ 0) (xs (i + 1)) (xs (i + 2))).1]) ky_yX7_feed lk_RL_120 C hX (gS_b0 hI hS) (hP.sub (sh1 := shM G (fun q_ => ad (55 + q_))) 55 11 (by omega) (shL_M G ad)) 0 (c_yX7_feed l G (fun q_ => ad (55 + q_)) (hI.sub (m := 11) 55 (by omega)) (mget σ1 55) (xs (i + 1)) (xs (i + 2)) T hT (by rw [hm]; exact htM)) (by decide) (shM_0 G (fun q_ => ad (55 + q_)) _) ⟨rfl, rfl, by decide, by decide⟩ rfl hl.1 rfl (Nat.le_of_ble_eq_true rfl) ⟨Nat.le_of_ble_eq_true rfl, Nat.le_of_ble_eq_true rfl⟩ dL_law_1019) (fun H locs hP hS => ?_)
  have hq := eq_feed hR2 (xs (i + 1)) (xs (i + 2))
  rw [← hm] at hq
  exact lv_icmp_eq (tgt := 1399) hx hb dL_law_1022 (by decide) (fun c_ => by have hn := RL_next (σ := σ) hq.2; rw [← e1] at hn; exact next _ H locs hn hP hS) (fun c_ => absurd hq.1 c_)

set_option maxHeartbeats 4000000 in
theorem law_c26 {p : Program} {l : Launch} {e : Env} {s : State} {m : MethodId} {below : List Frame} {meth : Method} {c : Code} {G : gG} {ad : Nat → Nat} {b L : Nat} {xs : Nat → Int32} (hL : L ≤ 3072) (C0 : lw_At p s m meth c b L xs) (hX : gX G s) (hb0 : G.2.2.1 = s.heap.size) (hI : gI G.2.2.1 66 ad) (i : Nat) (hi : i + 6 ≤ L) (σ : gM) (hR : RL2 σ) (H : Heap) (locs : List Loc) (ls : Array Slot) (hP : gP G.1 66 ad (gE (shL G ad) σ) H) (hS : va_S (gA 66 ad) s.heap H locs) (hl : lv_has ls 4 [(0, .ref b), (1, .ref (ad 44)), (2, .ref (ad 55)), (3, .int (nI i))]) (next : ∀ (σ : gM) (H : Heap) (locs : List Loc), RL2 σ → gP G.1 66 ad (gE (shL G ad) σ) H → va_S (gA 66 ad) s.heap H locs → W p l e room_1 s m #[Value.ref b] below meth c H locs 600000 7302250 (lw_Z below #[Value.ref b] s) (F0 m 1399 ls [])) : W p l e room_1 s m #[Value.ref b] below meth c H locs 600000 7302250 (lw_Z below #[Value.ref b] s) (F0 m 1027 ls []) := by
  obtain ⟨hx, hb, hr, hml, hown, hts, hX2, hbl, hlocks, hgv⟩ := C0
  have C : CallFix p m c code 4 s #[Value.ref b] Tb RL := ⟨hx, hb, hml, hown, fun w hw => hts w (List.mem_filter.mp hw).1⟩
  have hbA : ¬ gA 66 ad b := fun q => by have := gA.b0 hI q; omega
  have hR2 : R (mget σ 0) (mget σ 55) := hR
  obtain ⟨N, hN, hs, hsM, hdM⟩ := rf_N hR2
  obtain ⟨T, hT, ht, htM⟩ := rf_T hR2
  have hszX := rf_SX hR2
  have hszM := rf_SM hR2
  obtain ⟨K, hK, hkK⟩ := rf_K hR2
  have hspM := rf_P hR2
  refine lv_aload_n hx hb dL_law_1027 rfl (lv_at hl 1 rfl) ?_
  refine g_wrI (o := 0) (m1 := 55) (by omega) (shL_X G ad) hI hP hS (g_runV (As := []) (rest := []) ky_yX6_wipe lk_RL_121 C hX (gS_b0 hI hS) (hP.sub (sh1 := shX G (fun q_ => ad (0 + q_))) 0 55 (by omega) (shL_X G ad)) 44 (c_yX6_wipe l G (fun q_ => ad (0 + q_)) (hI.sub (m := 55) 0 (by omega)) (mget σ 0)  ) (by decide) (shX_44 G (fun q_ => ad (0 + q_)) _) ⟨rfl, rfl, by decide, by decide⟩ rfl hl.1 rfl (Nat.le_of_ble_eq_true rfl) ⟨Nat.le_of_ble_eq_true rfl, Nat.le_of_ble_eq_true rfl⟩ dL_law_1028) (fun H locs hP hS => ?_)
  obtain ⟨σ1, e1⟩ : ∃ σ1, σ1 = mput σ 0 55 (x_wipe (mget σ 0) ).2 := ⟨_, rfl⟩
  rw [← e1] at hP
  have hm : mget σ1 55 = mget σ 55 := by rw [e1]; exact mg_M
  refine lv_aload_n hx hb dL_law_1031 rfl (lv_at hl 2 rfl) ?_
  refine g_wrI (o := 55) (m1 := 11) (by omega) (shL_M G ad) hI hP hS (g_runV (As := []) (rest := [.int (x_wipe (mget σ 0) ).1]) ky_yX7_wipe lk_RL_125 C hX (gS_b0 hI hS) (hP.sub (sh1 := shM G (fun q_ => ad (55 + q_))) 55 11 (by omega) (shL_M G ad)) 0 (c_yX7_wipe l G (fun q_ => ad (55 + q_)) (hI.sub (m := 11) 55 (by omega)) (mget σ1 55)  ) (by decide) (shM_0 G (fun q_ => ad (55 + q_)) _) ⟨rfl, rfl, by decide, by decide⟩ rfl hl.1 rfl (Nat.le_of_ble_eq_true rfl) ⟨Nat.le_of_ble_eq_true rfl, Nat.le_of_ble_eq_true rfl⟩ dL_law_1032) (fun H locs hP hS => ?_)
  have hq := eq_wipe hR2 
  rw [← hm] at hq
  exact lv_icmp_eq (tgt := 1399) hx hb dL_law_1035 (by decide) (fun c_ => by have hn := RL_next (σ := σ) hq.2; rw [← e1] at hn; exact next _ H locs hn hP hS) (fun c_ => absurd hq.1 c_)

set_option maxHeartbeats 4000000 in
theorem law_c27 {p : Program} {l : Launch} {e : Env} {s : State} {m : MethodId} {below : List Frame} {meth : Method} {c : Code} {G : gG} {ad : Nat → Nat} {b L : Nat} {xs : Nat → Int32} (hL : L ≤ 3072) (C0 : lw_At p s m meth c b L xs) (hX : gX G s) (hb0 : G.2.2.1 = s.heap.size) (hI : gI G.2.2.1 66 ad) (i : Nat) (hi : i + 6 ≤ L) (σ : gM) (hR : RL2 σ) (H : Heap) (locs : List Loc) (ls : Array Slot) (hP : gP G.1 66 ad (gE (shL G ad) σ) H) (hS : va_S (gA 66 ad) s.heap H locs) (hl : lv_has ls 4 [(0, .ref b), (1, .ref (ad 44)), (2, .ref (ad 55)), (3, .int (nI i))]) (next : ∀ (σ : gM) (H : Heap) (locs : List Loc), RL2 σ → gP G.1 66 ad (gE (shL G ad) σ) H → va_S (gA 66 ad) s.heap H locs → W p l e room_1 s m #[Value.ref b] below meth c H locs 600000 7302250 (lw_Z below #[Value.ref b] s) (F0 m 1399 ls [])) : W p l e room_1 s m #[Value.ref b] below meth c H locs 600000 7302250 (lw_Z below #[Value.ref b] s) (F0 m 1040 ls []) := by
  obtain ⟨hx, hb, hr, hml, hown, hts, hX2, hbl, hlocks, hgv⟩ := C0
  have C : CallFix p m c code 4 s #[Value.ref b] Tb RL := ⟨hx, hb, hml, hown, fun w hw => hts w (List.mem_filter.mp hw).1⟩
  have hbA : ¬ gA 66 ad b := fun q => by have := gA.b0 hI q; omega
  have hR2 : R (mget σ 0) (mget σ 55) := hR
  obtain ⟨N, hN, hs, hsM, hdM⟩ := rf_N hR2
  obtain ⟨T, hT, ht, htM⟩ := rf_T hR2
  have hszX := rf_SX hR2
  have hszM := rf_SM hR2
  obtain ⟨K, hK, hkK⟩ := rf_K hR2
  have hspM := rf_P hR2
  obtain ⟨L2, hL2, hrs, hrn⟩ := rf_tok hR2
  refine lv_aload_n hx hb dL_law_1040 rfl (lv_at hl 1 rfl) ?_
  refine g_wrI (o := 0) (m1 := 55) (by omega) (shL_X G ad) hI hP hS (g_runV (As := []) (rest := []) ky_yX6_text lk_RL_126 C hX (gS_b0 hI hS) (hP.sub (sh1 := shX G (fun q_ => ad (0 + q_))) 0 55 (by omega) (shL_X G ad)) 44 (c_yX6_text l G (fun q_ => ad (0 + q_)) (hI.sub (m := 55) 0 (by omega)) (mget σ 0)  N T L2 hN hs hT ht hL2 hrs hrn) (by decide) (shX_44 G (fun q_ => ad (0 + q_)) _) ⟨rfl, rfl, by decide, by decide⟩ rfl hl.1 rfl (Nat.le_of_ble_eq_true rfl) ⟨Nat.le_of_ble_eq_true rfl, Nat.le_of_ble_eq_true rfl⟩ dL_law_1041) (fun H locs hP hS => ?_)
  obtain ⟨σ1, e1⟩ : ∃ σ1, σ1 = mput σ 0 55 (x_text (mget σ 0) ).2 := ⟨_, rfl⟩
  rw [← e1] at hP
  have hm : mget σ1 55 = mget σ 55 := by rw [e1]; exact mg_M
  refine lv_aload_n hx hb dL_law_1044 rfl (lv_at hl 2 rfl) ?_
  refine g_wrI (o := 55) (m1 := 11) (by omega) (shL_M G ad) hI hP hS (g_runV (As := []) (rest := [.int (x_text (mget σ 0) ).1]) ky_yX7_text lk_RL_129 C hX (gS_b0 hI hS) (hP.sub (sh1 := shM G (fun q_ => ad (55 + q_))) 55 11 (by omega) (shL_M G ad)) 0 (c_yX7_text l G (fun q_ => ad (55 + q_)) (hI.sub (m := 11) 55 (by omega)) (mget σ1 55)  N T hN (by rw [hm]; exact hsM) hT (by rw [hm]; exact htM)) (by decide) (shM_0 G (fun q_ => ad (55 + q_)) _) ⟨rfl, rfl, by decide, by decide⟩ rfl hl.1 rfl (Nat.le_of_ble_eq_true rfl) ⟨Nat.le_of_ble_eq_true rfl, Nat.le_of_ble_eq_true rfl⟩ dL_law_1045) (fun H locs hP hS => ?_)
  have hq := eq_text hR2 
  rw [← hm] at hq
  exact lv_icmp_eq (tgt := 1399) hx hb dL_law_1048 (by decide) (fun c_ => by have hn := RL_next (σ := σ) hq.2; rw [← e1] at hn; exact next _ H locs hn hP hS) (fun c_ => absurd hq.1 c_)

set_option maxHeartbeats 4000000 in
theorem law_c28 {p : Program} {l : Launch} {e : Env} {s : State} {m : MethodId} {below : List Frame} {meth : Method} {c : Code} {G : gG} {ad : Nat → Nat} {b L : Nat} {xs : Nat → Int32} (hL : L ≤ 3072) (C0 : lw_At p s m meth c b L xs) (hX : gX G s) (hb0 : G.2.2.1 = s.heap.size) (hI : gI G.2.2.1 66 ad) (i : Nat) (hi : i + 6 ≤ L) (σ : gM) (hR : RL2 σ) (H : Heap) (locs : List Loc) (ls : Array Slot) (hP : gP G.1 66 ad (gE (shL G ad) σ) H) (hS : va_S (gA 66 ad) s.heap H locs) (hl : lv_has ls 4 [(0, .ref b), (1, .ref (ad 44)), (2, .ref (ad 55)), (3, .int (nI i))]) (next : ∀ (σ : gM) (H : Heap) (locs : List Loc), RL2 σ → gP G.1 66 ad (gE (shL G ad) σ) H → va_S (gA 66 ad) s.heap H locs → W p l e room_1 s m #[Value.ref b] below meth c H locs 600000 7302250 (lw_Z below #[Value.ref b] s) (F0 m 1399 ls [])) : W p l e room_1 s m #[Value.ref b] below meth c H locs 600000 7302250 (lw_Z below #[Value.ref b] s) (F0 m 1053 ls []) := by
  obtain ⟨hx, hb, hr, hml, hown, hts, hX2, hbl, hlocks, hgv⟩ := C0
  have C : CallFix p m c code 4 s #[Value.ref b] Tb RL := ⟨hx, hb, hml, hown, fun w hw => hts w (List.mem_filter.mp hw).1⟩
  have hbA : ¬ gA 66 ad b := fun q => by have := gA.b0 hI q; omega
  have hR2 : R (mget σ 0) (mget σ 55) := hR
  obtain ⟨N, hN, hs, hsM, hdM⟩ := rf_N hR2
  obtain ⟨T, hT, ht, htM⟩ := rf_T hR2
  have hszX := rf_SX hR2
  have hszM := rf_SM hR2
  obtain ⟨K, hK, hkK⟩ := rf_K hR2
  have hspM := rf_P hR2
  refine lv_aload_n hx hb dL_law_1053 rfl (lv_at hl 1 rfl) ?_
  refine lv_aload_n hx hb dL_law_1054 rfl (lv_at hl 0 rfl) ?_
  refine lv_iload_n hx hb dL_law_1055 rfl (lv_at hl 3 rfl) ?_
  refine lv_iconst (v := 1) hx hb dL_law_1056 (by decide) ?_
  refine lv_iadd hx hb dL_law_1057 ?_
  refine lv_as (y := nI (i + 1)) (nI_add i 1) ?_
  refine va_sld hx hb hX2 hbl hbA hS (vp_in_nI (show i + 1 < L by omega) (by omega)) dL_law_1058 ?_
  refine lv_as (y := xs (i + 1)) (by rw [nI_clamp (by omega)]) ?_
  refine lv_aload_n hx hb dL_law_1059 rfl (lv_at hl 0 rfl) ?_
  refine lv_iload_n hx hb dL_law_1060 rfl (lv_at hl 3 rfl) ?_
  refine lv_iconst (v := 2) hx hb dL_law_1061 (by decide) ?_
  refine lv_iadd hx hb dL_law_1062 ?_
  refine lv_as (y := nI (i + 2)) (nI_add i 2) ?_
  refine va_sld hx hb hX2 hbl hbA hS (vp_in_nI (show i + 2 < L by omega) (by omega)) dL_law_1063 ?_
  refine lv_as (y := xs (i + 2)) (by rw [nI_clamp (by omega)]) ?_
  refine g_wrI (o := 0) (m1 := 55) (by omega) (shL_X G ad) hI hP hS (g_runV (As := [.int (xs (i + 1)), .int (xs (i + 2))]) (rest := []) ky_yX6_hold lk_RL_130 C hX (gS_b0 hI hS) (hP.sub (sh1 := shX G (fun q_ => ad (0 + q_))) 0 55 (by omega) (shL_X G ad)) 44 (c_yX6_hold l G (fun q_ => ad (0 + q_)) (hI.sub (m := 55) 0 (by omega)) (mget σ 0) (xs (i + 1)) (xs (i + 2)) N hN hs) (by decide) (shX_44 G (fun q_ => ad (0 + q_)) _) ⟨rfl, rfl, by decide, by decide⟩ rfl hl.1 rfl (Nat.le_of_ble_eq_true rfl) ⟨Nat.le_of_ble_eq_true rfl, Nat.le_of_ble_eq_true rfl⟩ dL_law_1064) (fun H locs hP hS => ?_)
  obtain ⟨σ1, e1⟩ : ∃ σ1, σ1 = mput σ 0 55 (x_hold (mget σ 0) (xs (i + 1)) (xs (i + 2))).2 := ⟨_, rfl⟩
  rw [← e1] at hP
  have hm : mget σ1 55 = mget σ 55 := by rw [e1]; exact mg_M
  refine lv_aload_n hx hb dL_law_1067 rfl (lv_at hl 2 rfl) ?_
  refine lv_aload_n hx hb dL_law_1068 rfl (lv_at hl 0 rfl) ?_
  refine lv_iload_n hx hb dL_law_1069 rfl (lv_at hl 3 rfl) ?_
  refine lv_iconst (v := 1) hx hb dL_law_1070 (by decide) ?_
  refine lv_iadd hx hb dL_law_1071 ?_
  refine lv_as (y := nI (i + 1)) (nI_add i 1) ?_
  refine va_sld hx hb hX2 hbl hbA hS (vp_in_nI (show i + 1 < L by omega) (by omega)) dL_law_1072 ?_
  refine lv_as (y := xs (i + 1)) (by rw [nI_clamp (by omega)]) ?_
  refine lv_aload_n hx hb dL_law_1073 rfl (lv_at hl 0 rfl) ?_
  refine lv_iload_n hx hb dL_law_1074 rfl (lv_at hl 3 rfl) ?_
  refine lv_iconst (v := 2) hx hb dL_law_1075 (by decide) ?_
  refine lv_iadd hx hb dL_law_1076 ?_
  refine lv_as (y := nI (i + 2)) (nI_add i 2) ?_
  refine va_sld hx hb hX2 hbl hbA hS (vp_in_nI (show i + 2 < L by omega) (by omega)) dL_law_1077 ?_
  refine lv_as (y := xs (i + 2)) (by rw [nI_clamp (by omega)]) ?_
  refine g_wrI (o := 55) (m1 := 11) (by omega) (shL_M G ad) hI hP hS (g_runV (As := [.int (xs (i + 1)), .int (xs (i + 2))]) (rest := [.int (x_hold (mget σ 0) (xs (i + 1)) (xs (i + 2))).1]) ky_yX7_hold lk_RL_133 C hX (gS_b0 hI hS) (hP.sub (sh1 := shM G (fun q_ => ad (55 + q_))) 55 11 (by omega) (shL_M G ad)) 0 (c_yX7_hold l G (fun q_ => ad (55 + q_)) (hI.sub (m := 11) 55 (by omega)) (mget σ1 55) (xs (i + 1)) (xs (i + 2)) N hN (by rw [hm]; exact hsM)) (by decide) (shM_0 G (fun q_ => ad (55 + q_)) _) ⟨rfl, rfl, by decide, by decide⟩ rfl hl.1 rfl (Nat.le_of_ble_eq_true rfl) ⟨Nat.le_of_ble_eq_true rfl, Nat.le_of_ble_eq_true rfl⟩ dL_law_1078) (fun H locs hP hS => ?_)
  have hq := eq_hold hR2 (xs (i + 1)) (xs (i + 2))
  rw [← hm] at hq
  exact lv_icmp_eq (tgt := 1399) hx hb dL_law_1081 (by decide) (fun c_ => by have hn := RL_next (σ := σ) hq.2; rw [← e1] at hn; exact next _ H locs hn hP hS) (fun c_ => absurd hq.1 c_)

set_option maxHeartbeats 4000000 in
theorem law_c29 {p : Program} {l : Launch} {e : Env} {s : State} {m : MethodId} {below : List Frame} {meth : Method} {c : Code} {G : gG} {ad : Nat → Nat} {b L : Nat} {xs : Nat → Int32} (hL : L ≤ 3072) (C0 : lw_At p s m meth c b L xs) (hX : gX G s) (hb0 : G.2.2.1 = s.heap.size) (hI : gI G.2.2.1 66 ad) (i : Nat) (hi : i + 6 ≤ L) (σ : gM) (hR : RL2 σ) (H : Heap) (locs : List Loc) (ls : Array Slot) (hP : gP G.1 66 ad (gE (shL G ad) σ) H) (hS : va_S (gA 66 ad) s.heap H locs) (hl : lv_has ls 4 [(0, .ref b), (1, .ref (ad 44)), (2, .ref (ad 55)), (3, .int (nI i))]) (next : ∀ (σ : gM) (H : Heap) (locs : List Loc), RL2 σ → gP G.1 66 ad (gE (shL G ad) σ) H → va_S (gA 66 ad) s.heap H locs → W p l e room_1 s m #[Value.ref b] below meth c H locs 600000 7302250 (lw_Z below #[Value.ref b] s) (F0 m 1399 ls [])) : W p l e room_1 s m #[Value.ref b] below meth c H locs 600000 7302250 (lw_Z below #[Value.ref b] s) (F0 m 1086 ls []) := by
  obtain ⟨hx, hb, hr, hml, hown, hts, hX2, hbl, hlocks, hgv⟩ := C0
  have C : CallFix p m c code 4 s #[Value.ref b] Tb RL := ⟨hx, hb, hml, hown, fun w hw => hts w (List.mem_filter.mp hw).1⟩
  have hbA : ¬ gA 66 ad b := fun q => by have := gA.b0 hI q; omega
  have hR2 : R (mget σ 0) (mget σ 55) := hR
  obtain ⟨N, hN, hs, hsM, hdM⟩ := rf_N hR2
  obtain ⟨T, hT, ht, htM⟩ := rf_T hR2
  have hszX := rf_SX hR2
  have hszM := rf_SM hR2
  obtain ⟨K, hK, hkK⟩ := rf_K hR2
  have hspM := rf_P hR2
  refine lv_aload_n hx hb dL_law_1086 rfl (lv_at hl 1 rfl) ?_
  refine lv_aload_n hx hb dL_law_1087 rfl (lv_at hl 0 rfl) ?_
  refine lv_iload_n hx hb dL_law_1088 rfl (lv_at hl 3 rfl) ?_
  refine lv_iconst (v := 1) hx hb dL_law_1089 (by decide) ?_
  refine lv_iadd hx hb dL_law_1090 ?_
  refine lv_as (y := nI (i + 1)) (nI_add i 1) ?_
  refine va_sld hx hb hX2 hbl hbA hS (vp_in_nI (show i + 1 < L by omega) (by omega)) dL_law_1091 ?_
  refine lv_as (y := xs (i + 1)) (by rw [nI_clamp (by omega)]) ?_
  refine lv_aload_n hx hb dL_law_1092 rfl (lv_at hl 0 rfl) ?_
  refine lv_iload_n hx hb dL_law_1093 rfl (lv_at hl 3 rfl) ?_
  refine lv_iconst (v := 2) hx hb dL_law_1094 (by decide) ?_
  refine lv_iadd hx hb dL_law_1095 ?_
  refine lv_as (y := nI (i + 2)) (nI_add i 2) ?_
  refine va_sld hx hb hX2 hbl hbA hS (vp_in_nI (show i + 2 < L by omega) (by omega)) dL_law_1096 ?_
  refine lv_as (y := xs (i + 2)) (by rw [nI_clamp (by omega)]) ?_
  refine g_wrI (o := 0) (m1 := 55) (by omega) (shL_X G ad) hI hP hS (g_runV (As := [.int (xs (i + 1)), .int (xs (i + 2))]) (rest := []) ky_yX6_as lk_RL_134 C hX (gS_b0 hI hS) (hP.sub (sh1 := shX G (fun q_ => ad (0 + q_))) 0 55 (by omega) (shL_X G ad)) 44 (c_yX6_as l G (fun q_ => ad (0 + q_)) (hI.sub (m := 55) 0 (by omega)) (mget σ 0) (xs (i + 1)) (xs (i + 2)) N hN hs) (by decide) (shX_44 G (fun q_ => ad (0 + q_)) _) ⟨rfl, rfl, by decide, by decide⟩ rfl hl.1 rfl (Nat.le_of_ble_eq_true rfl) ⟨Nat.le_of_ble_eq_true rfl, Nat.le_of_ble_eq_true rfl⟩ dL_law_1097) (fun H locs hP hS => ?_)
  obtain ⟨σ1, e1⟩ : ∃ σ1, σ1 = mput σ 0 55 (x_as (mget σ 0) (xs (i + 1)) (xs (i + 2))).2 := ⟨_, rfl⟩
  rw [← e1] at hP
  have hm : mget σ1 55 = mget σ 55 := by rw [e1]; exact mg_M
  refine lv_aload_n hx hb dL_law_1100 rfl (lv_at hl 2 rfl) ?_
  refine lv_aload_n hx hb dL_law_1101 rfl (lv_at hl 0 rfl) ?_
  refine lv_iload_n hx hb dL_law_1102 rfl (lv_at hl 3 rfl) ?_
  refine lv_iconst (v := 1) hx hb dL_law_1103 (by decide) ?_
  refine lv_iadd hx hb dL_law_1104 ?_
  refine lv_as (y := nI (i + 1)) (nI_add i 1) ?_
  refine va_sld hx hb hX2 hbl hbA hS (vp_in_nI (show i + 1 < L by omega) (by omega)) dL_law_1105 ?_
  refine lv_as (y := xs (i + 1)) (by rw [nI_clamp (by omega)]) ?_
  refine lv_aload_n hx hb dL_law_1106 rfl (lv_at hl 0 rfl) ?_
  refine lv_iload_n hx hb dL_law_1107 rfl (lv_at hl 3 rfl) ?_
  refine lv_iconst (v := 2) hx hb dL_law_1108 (by decide) ?_
  refine lv_iadd hx hb dL_law_1109 ?_
  refine lv_as (y := nI (i + 2)) (nI_add i 2) ?_
  refine va_sld hx hb hX2 hbl hbA hS (vp_in_nI (show i + 2 < L by omega) (by omega)) dL_law_1110 ?_
  refine lv_as (y := xs (i + 2)) (by rw [nI_clamp (by omega)]) ?_
  refine g_wrI (o := 55) (m1 := 11) (by omega) (shL_M G ad) hI hP hS (g_runV (As := [.int (xs (i + 1)), .int (xs (i + 2))]) (rest := [.int (x_as (mget σ 0) (xs (i + 1)) (xs (i + 2))).1]) ky_yX7_as lk_RL_137 C hX (gS_b0 hI hS) (hP.sub (sh1 := shM G (fun q_ => ad (55 + q_))) 55 11 (by omega) (shL_M G ad)) 0 (c_yX7_as l G (fun q_ => ad (55 + q_)) (hI.sub (m := 11) 55 (by omega)) (mget σ1 55) (xs (i + 1)) (xs (i + 2)) (by rw [hm]; exact hspM)) (by decide) (shM_0 G (fun q_ => ad (55 + q_)) _) ⟨rfl, rfl, by decide, by decide⟩ rfl hl.1 rfl (Nat.le_of_ble_eq_true rfl) ⟨Nat.le_of_ble_eq_true rfl, Nat.le_of_ble_eq_true rfl⟩ dL_law_1111) (fun H locs hP hS => ?_)
  have hq := eq_as hR2 (xs (i + 1)) (xs (i + 2))
  rw [← hm] at hq
  exact lv_icmp_eq (tgt := 1399) hx hb dL_law_1114 (by decide) (fun c_ => by have hn := RL_next (σ := σ) hq.2; rw [← e1] at hn; exact next _ H locs hn hP hS) (fun c_ => absurd hq.1 c_)

set_option maxHeartbeats 4000000 in
theorem law_c30 {p : Program} {l : Launch} {e : Env} {s : State} {m : MethodId} {below : List Frame} {meth : Method} {c : Code} {G : gG} {ad : Nat → Nat} {b L : Nat} {xs : Nat → Int32} (hL : L ≤ 3072) (C0 : lw_At p s m meth c b L xs) (hX : gX G s) (hb0 : G.2.2.1 = s.heap.size) (hI : gI G.2.2.1 66 ad) (i : Nat) (hi : i + 6 ≤ L) (σ : gM) (hR : RL2 σ) (H : Heap) (locs : List Loc) (ls : Array Slot) (hP : gP G.1 66 ad (gE (shL G ad) σ) H) (hS : va_S (gA 66 ad) s.heap H locs) (hl : lv_has ls 4 [(0, .ref b), (1, .ref (ad 44)), (2, .ref (ad 55)), (3, .int (nI i))]) (next : ∀ (σ : gM) (H : Heap) (locs : List Loc), RL2 σ → gP G.1 66 ad (gE (shL G ad) σ) H → va_S (gA 66 ad) s.heap H locs → W p l e room_1 s m #[Value.ref b] below meth c H locs 600000 7302250 (lw_Z below #[Value.ref b] s) (F0 m 1399 ls [])) : W p l e room_1 s m #[Value.ref b] below meth c H locs 600000 7302250 (lw_Z below #[Value.ref b] s) (F0 m 1119 ls []) := by
  obtain ⟨hx, hb, hr, hml, hown, hts, hX2, hbl, hlocks, hgv⟩ := C0
  have C : CallFix p m c code 4 s #[Value.ref b] Tb RL := ⟨hx, hb, hml, hown, fun w hw => hts w (List.mem_filter.mp hw).1⟩
  have hbA : ¬ gA 66 ad b := fun q => by have := gA.b0 hI q; omega
  have hR2 : R (mget σ 0) (mget σ 55) := hR
  obtain ⟨N, hN, hs, hsM, hdM⟩ := rf_N hR2
  obtain ⟨T, hT, ht, htM⟩ := rf_T hR2
  have hszX := rf_SX hR2
  have hszM := rf_SM hR2
  obtain ⟨K, hK, hkK⟩ := rf_K hR2
  have hspM := rf_P hR2
  refine lv_aload_n hx hb dL_law_1119 rfl (lv_at hl 1 rfl) ?_
  refine lv_aload_n hx hb dL_law_1120 rfl (lv_at hl 0 rfl) ?_
  refine lv_iload_n hx hb dL_law_1121 rfl (lv_at hl 3 rfl) ?_
  refine lv_iconst (v := 1) hx hb dL_law_1122 (by decide) ?_
  refine lv_iadd hx hb dL_law_1123 ?_
  refine lv_as (y := nI (i + 1)) (nI_add i 1) ?_
  refine va_sld hx hb hX2 hbl hbA hS (vp_in_nI (show i + 1 < L by omega) (by omega)) dL_law_1124 ?_
  refine lv_as (y := xs (i + 1)) (by rw [nI_clamp (by omega)]) ?_
  refine lv_aload_n hx hb dL_law_1125 rfl (lv_at hl 0 rfl) ?_
  refine lv_iload_n hx hb dL_law_1126 rfl (lv_at hl 3 rfl) ?_
  refine lv_iconst (v := 2) hx hb dL_law_1127 (by decide) ?_
  refine lv_iadd hx hb dL_law_1128 ?_
  refine lv_as (y := nI (i + 2)) (nI_add i 2) ?_
  refine va_sld hx hb hX2 hbl hbA hS (vp_in_nI (show i + 2 < L by omega) (by omega)) dL_law_1129 ?_
  refine lv_as (y := xs (i + 2)) (by rw [nI_clamp (by omega)]) ?_
  refine lv_aload_n hx hb dL_law_1130 rfl (lv_at hl 0 rfl) ?_
  refine lv_iload_n hx hb dL_law_1131 rfl (lv_at hl 3 rfl) ?_
  refine lv_iconst (v := 3) hx hb dL_law_1132 (by decide) ?_
  refine lv_iadd hx hb dL_law_1133 ?_
  refine lv_as (y := nI (i + 3)) (nI_add i 3) ?_
  refine va_sld hx hb hX2 hbl hbA hS (vp_in_nI (show i + 3 < L by omega) (by omega)) dL_law_1134 ?_
  refine lv_as (y := xs (i + 3)) (by rw [nI_clamp (by omega)]) ?_
  refine g_wrI (o := 0) (m1 := 55) (by omega) (shL_X G ad) hI hP hS (g_runV (As := [.int (xs (i + 1)), .int (xs (i + 2)), .int (xs (i + 3))]) (rest := []) ky_yX6_sheet lk_RL_138 C hX (gS_b0 hI hS) (hP.sub (sh1 := shX G (fun q_ => ad (0 + q_))) 0 55 (by omega) (shL_X G ad)) 44 (c_yX6_sheet l G (fun q_ => ad (0 + q_)) (hI.sub (m := 55) 0 (by omega)) (mget σ 0) (xs (i + 1)) (xs (i + 2)) (xs (i + 3)) ) (by decide) (shX_44 G (fun q_ => ad (0 + q_)) _) ⟨rfl, rfl, by decide, by decide⟩ rfl hl.1 rfl (Nat.le_of_ble_eq_true rfl) ⟨Nat.le_of_ble_eq_true rfl, Nat.le_of_ble_eq_true rfl⟩ dL_law_1135) (fun H locs hP hS => ?_)
  obtain ⟨σ1, e1⟩ : ∃ σ1, σ1 = mput σ 0 55 (x_sheet (mget σ 0) (xs (i + 1)) (xs (i + 2)) (xs (i + 3))).2 := ⟨_, rfl⟩
  rw [← e1] at hP
  have hm : mget σ1 55 = mget σ 55 := by rw [e1]; exact mg_M
  refine lv_aload_n hx hb dL_law_1138 rfl (lv_at hl 2 rfl) ?_
  refine lv_aload_n hx hb dL_law_1139 rfl (lv_at hl 0 rfl) ?_
  refine lv_iload_n hx hb dL_law_1140 rfl (lv_at hl 3 rfl) ?_
  refine lv_iconst (v := 1) hx hb dL_law_1141 (by decide) ?_
  refine lv_iadd hx hb dL_law_1142 ?_
  refine lv_as (y := nI (i + 1)) (nI_add i 1) ?_
  refine va_sld hx hb hX2 hbl hbA hS (vp_in_nI (show i + 1 < L by omega) (by omega)) dL_law_1143 ?_
  refine lv_as (y := xs (i + 1)) (by rw [nI_clamp (by omega)]) ?_
  refine lv_aload_n hx hb dL_law_1144 rfl (lv_at hl 0 rfl) ?_
  refine lv_iload_n hx hb dL_law_1145 rfl (lv_at hl 3 rfl) ?_
  refine lv_iconst (v := 2) hx hb dL_law_1146 (by decide) ?_
  refine lv_iadd hx hb dL_law_1147 ?_
  refine lv_as (y := nI (i + 2)) (nI_add i 2) ?_
  refine va_sld hx hb hX2 hbl hbA hS (vp_in_nI (show i + 2 < L by omega) (by omega)) dL_law_1148 ?_
  refine lv_as (y := xs (i + 2)) (by rw [nI_clamp (by omega)]) ?_
  refine lv_aload_n hx hb dL_law_1149 rfl (lv_at hl 0 rfl) ?_
  refine lv_iload_n hx hb dL_law_1150 rfl (lv_at hl 3 rfl) ?_
  refine lv_iconst (v := 3) hx hb dL_law_1151 (by decide) ?_
  refine lv_iadd hx hb dL_law_1152 ?_
  refine lv_as (y := nI (i + 3)) (nI_add i 3) ?_
  refine va_sld hx hb hX2 hbl hbA hS (vp_in_nI (show i + 3 < L by omega) (by omega)) dL_law_1153 ?_
  refine lv_as (y := xs (i + 3)) (by rw [nI_clamp (by omega)]) ?_
  refine g_wrI (o := 55) (m1 := 11) (by omega) (shL_M G ad) hI hP hS (g_runV (As := [.int (xs (i + 1)), .int (xs (i + 2)), .int (xs (i + 3))]) (rest := [.int (x_sheet (mget σ 0) (xs (i + 1)) (xs (i + 2)) (xs (i + 3))).1]) ky_yX7_sheet lk_RL_141 C hX (gS_b0 hI hS) (hP.sub (sh1 := shM G (fun q_ => ad (55 + q_))) 55 11 (by omega) (shL_M G ad)) 0 (c_yX7_sheet l G (fun q_ => ad (55 + q_)) (hI.sub (m := 11) 55 (by omega)) (mget σ1 55) (xs (i + 1)) (xs (i + 2)) (xs (i + 3)) ) (by decide) (shM_0 G (fun q_ => ad (55 + q_)) _) ⟨rfl, rfl, by decide, by decide⟩ rfl hl.1 rfl (Nat.le_of_ble_eq_true rfl) ⟨Nat.le_of_ble_eq_true rfl, Nat.le_of_ble_eq_true rfl⟩ dL_law_1154) (fun H locs hP hS => ?_)
  have hq := eq_sheet hR2 (xs (i + 1)) (xs (i + 2)) (xs (i + 3))
  rw [← hm] at hq
  exact lv_icmp_eq (tgt := 1399) hx hb dL_law_1157 (by decide) (fun c_ => by have hn := RL_next (σ := σ) hq.2; rw [← e1] at hn; exact next _ H locs hn hP hS) (fun c_ => absurd hq.1 c_)

set_option maxHeartbeats 4000000 in
theorem law_c31 {p : Program} {l : Launch} {e : Env} {s : State} {m : MethodId} {below : List Frame} {meth : Method} {c : Code} {G : gG} {ad : Nat → Nat} {b L : Nat} {xs : Nat → Int32} (hL : L ≤ 3072) (C0 : lw_At p s m meth c b L xs) (hX : gX G s) (hb0 : G.2.2.1 = s.heap.size) (hI : gI G.2.2.1 66 ad) (i : Nat) (hi : i + 6 ≤ L) (σ : gM) (hR : RL2 σ) (H : Heap) (locs : List Loc) (ls : Array Slot) (hP : gP G.1 66 ad (gE (shL G ad) σ) H) (hS : va_S (gA 66 ad) s.heap H locs) (hl : lv_has ls 4 [(0, .ref b), (1, .ref (ad 44)), (2, .ref (ad 55)), (3, .int (nI i))]) (next : ∀ (σ : gM) (H : Heap) (locs : List Loc), RL2 σ → gP G.1 66 ad (gE (shL G ad) σ) H → va_S (gA 66 ad) s.heap H locs → W p l e room_1 s m #[Value.ref b] below meth c H locs 600000 7302250 (lw_Z below #[Value.ref b] s) (F0 m 1399 ls [])) : W p l e room_1 s m #[Value.ref b] below meth c H locs 600000 7302250 (lw_Z below #[Value.ref b] s) (F0 m 1162 ls []) := by
  obtain ⟨hx, hb, hr, hml, hown, hts, hX2, hbl, hlocks, hgv⟩ := C0
  have C : CallFix p m c code 4 s #[Value.ref b] Tb RL := ⟨hx, hb, hml, hown, fun w hw => hts w (List.mem_filter.mp hw).1⟩
  have hbA : ¬ gA 66 ad b := fun q => by have := gA.b0 hI q; omega
  have hR2 : R (mget σ 0) (mget σ 55) := hR
  obtain ⟨N, hN, hs, hsM, hdM⟩ := rf_N hR2
  obtain ⟨T, hT, ht, htM⟩ := rf_T hR2
  have hszX := rf_SX hR2
  have hszM := rf_SM hR2
  obtain ⟨K, hK, hkK⟩ := rf_K hR2
  have hspM := rf_P hR2
  refine lv_aload_n hx hb dL_law_1162 rfl (lv_at hl 1 rfl) ?_
  refine lv_aload_n hx hb dL_law_1163 rfl (lv_at hl 0 rfl) ?_
  refine lv_iload_n hx hb dL_law_1164 rfl (lv_at hl 3 rfl) ?_
  refine lv_iconst (v := 1) hx hb dL_law_1165 (by decide) ?_
  refine lv_iadd hx hb dL_law_1166 ?_
  refine lv_as (y := nI (i + 1)) (nI_add i 1) ?_
  refine va_sld hx hb hX2 hbl hbA hS (vp_in_nI (show i + 1 < L by omega) (by omega)) dL_law_1167 ?_
  refine lv_as (y := xs (i + 1)) (by rw [nI_clamp (by omega)]) ?_
  refine lv_aload_n hx hb dL_law_1168 rfl (lv_at hl 0 rfl) ?_
  refine lv_iload_n hx hb dL_law_1169 rfl (lv_at hl 3 rfl) ?_
  refine lv_iconst (v := 2) hx hb dL_law_1170 (by decide) ?_
  refine lv_iadd hx hb dL_law_1171 ?_
  refine lv_as (y := nI (i + 2)) (nI_add i 2) ?_
  refine va_sld hx hb hX2 hbl hbA hS (vp_in_nI (show i + 2 < L by omega) (by omega)) dL_law_1172 ?_
  refine lv_as (y := xs (i + 2)) (by rw [nI_clamp (by omega)]) ?_
  refine lv_aload_n hx hb dL_law_1173 rfl (lv_at hl 0 rfl) ?_
  refine lv_iload_n hx hb dL_law_1174 rfl (lv_at hl 3 rfl) ?_
  refine lv_iconst (v := 3) hx hb dL_law_1175 (by decide) ?_
  refine lv_iadd hx hb dL_law_1176 ?_
  refine lv_as (y := nI (i + 3)) (nI_add i 3) ?_
  refine va_sld hx hb hX2 hbl hbA hS (vp_in_nI (show i + 3 < L by omega) (by omega)) dL_law_1177 ?_
  refine lv_as (y := xs (i + 3)) (by rw [nI_clamp (by omega)]) ?_
  refine g_wrI (o := 0) (m1 := 55) (by omega) (shL_X G ad) hI hP hS (g_runV (As := [.int (xs (i + 1)), .int (xs (i + 2)), .int (xs (i + 3))]) (rest := []) ky_yX6_write lk_RL_142 C hX (gS_b0 hI hS) (hP.sub (sh1 := shX G (fun q_ => ad (0 + q_))) 0 55 (by omega) (shL_X G ad)) 44 (c_yX6_write l G (fun q_ => ad (0 + q_)) (hI.sub (m := 55) 0 (by omega)) (mget σ 0) (xs (i + 1)) (xs (i + 2)) (xs (i + 3)) hszX) (by decide) (shX_44 G (fun q_ => ad (0 + q_)) _) ⟨rfl, rfl, by decide, by decide⟩ rfl hl.1 rfl (Nat.le_of_ble_eq_true rfl) ⟨Nat.le_of_ble_eq_true rfl, Nat.le_of_ble_eq_true rfl⟩ dL_law_1178) (fun H locs hP hS => ?_)
  obtain ⟨σ1, e1⟩ : ∃ σ1, σ1 = mput σ 0 55 (x_write (mget σ 0) (xs (i + 1)) (xs (i + 2)) (xs (i + 3))).2 := ⟨_, rfl⟩
  rw [← e1] at hP
  have hm : mget σ1 55 = mget σ 55 := by rw [e1]; exact mg_M
  refine lv_aload_n hx hb dL_law_1181 rfl (lv_at hl 2 rfl) ?_
  refine lv_aload_n hx hb dL_law_1182 rfl (lv_at hl 0 rfl) ?_
  refine lv_iload_n hx hb dL_law_1183 rfl (lv_at hl 3 rfl) ?_
  refine lv_iconst (v := 1) hx hb dL_law_1184 (by decide) ?_
  refine lv_iadd hx hb dL_law_1185 ?_
  refine lv_as (y := nI (i + 1)) (nI_add i 1) ?_
  refine va_sld hx hb hX2 hbl hbA hS (vp_in_nI (show i + 1 < L by omega) (by omega)) dL_law_1186 ?_
  refine lv_as (y := xs (i + 1)) (by rw [nI_clamp (by omega)]) ?_
  refine lv_aload_n hx hb dL_law_1187 rfl (lv_at hl 0 rfl) ?_
  refine lv_iload_n hx hb dL_law_1188 rfl (lv_at hl 3 rfl) ?_
  refine lv_iconst (v := 2) hx hb dL_law_1189 (by decide) ?_
  refine lv_iadd hx hb dL_law_1190 ?_
  refine lv_as (y := nI (i + 2)) (nI_add i 2) ?_
  refine va_sld hx hb hX2 hbl hbA hS (vp_in_nI (show i + 2 < L by omega) (by omega)) dL_law_1191 ?_
  refine lv_as (y := xs (i + 2)) (by rw [nI_clamp (by omega)]) ?_
  refine lv_aload_n hx hb dL_law_1192 rfl (lv_at hl 0 rfl) ?_
  refine lv_iload_n hx hb dL_law_1193 rfl (lv_at hl 3 rfl) ?_
  refine lv_iconst (v := 3) hx hb dL_law_1194 (by decide) ?_
  refine lv_iadd hx hb dL_law_1195 ?_
  refine lv_as (y := nI (i + 3)) (nI_add i 3) ?_
  refine va_sld hx hb hX2 hbl hbA hS (vp_in_nI (show i + 3 < L by omega) (by omega)) dL_law_1196 ?_
  refine lv_as (y := xs (i + 3)) (by rw [nI_clamp (by omega)]) ?_
  refine g_wrI (o := 55) (m1 := 11) (by omega) (shL_M G ad) hI hP hS (g_runV (As := [.int (xs (i + 1)), .int (xs (i + 2)), .int (xs (i + 3))]) (rest := [.int (x_write (mget σ 0) (xs (i + 1)) (xs (i + 2)) (xs (i + 3))).1]) ky_yX7_write lk_RL_145 C hX (gS_b0 hI hS) (hP.sub (sh1 := shM G (fun q_ => ad (55 + q_))) 55 11 (by omega) (shL_M G ad)) 0 (c_yX7_write l G (fun q_ => ad (55 + q_)) (hI.sub (m := 11) 55 (by omega)) (mget σ1 55) (xs (i + 1)) (xs (i + 2)) (xs (i + 3)) (by rw [hm]; exact hszM)) (by decide) (shM_0 G (fun q_ => ad (55 + q_)) _) ⟨rfl, rfl, by decide, by decide⟩ rfl hl.1 rfl (Nat.le_of_ble_eq_true rfl) ⟨Nat.le_of_ble_eq_true rfl, Nat.le_of_ble_eq_true rfl⟩ dL_law_1197) (fun H locs hP hS => ?_)
  have hq := eq_write hR2 (xs (i + 1)) (xs (i + 2)) (xs (i + 3))
  rw [← hm] at hq
  exact lv_icmp_eq (tgt := 1399) hx hb dL_law_1200 (by decide) (fun c_ => by have hn := RL_next (σ := σ) hq.2; rw [← e1] at hn; exact next _ H locs hn hP hS) (fun c_ => absurd hq.1 c_)

set_option maxHeartbeats 4000000 in
theorem law_c32 {p : Program} {l : Launch} {e : Env} {s : State} {m : MethodId} {below : List Frame} {meth : Method} {c : Code} {G : gG} {ad : Nat → Nat} {b L : Nat} {xs : Nat → Int32} (hL : L ≤ 3072) (C0 : lw_At p s m meth c b L xs) (hX : gX G s) (hb0 : G.2.2.1 = s.heap.size) (hI : gI G.2.2.1 66 ad) (i : Nat) (hi : i + 6 ≤ L) (σ : gM) (hR : RL2 σ) (H : Heap) (locs : List Loc) (ls : Array Slot) (hP : gP G.1 66 ad (gE (shL G ad) σ) H) (hS : va_S (gA 66 ad) s.heap H locs) (hl : lv_has ls 4 [(0, .ref b), (1, .ref (ad 44)), (2, .ref (ad 55)), (3, .int (nI i))]) (next : ∀ (σ : gM) (H : Heap) (locs : List Loc), RL2 σ → gP G.1 66 ad (gE (shL G ad) σ) H → va_S (gA 66 ad) s.heap H locs → W p l e room_1 s m #[Value.ref b] below meth c H locs 600000 7302250 (lw_Z below #[Value.ref b] s) (F0 m 1399 ls [])) : W p l e room_1 s m #[Value.ref b] below meth c H locs 600000 7302250 (lw_Z below #[Value.ref b] s) (F0 m 1205 ls []) := by
  obtain ⟨hx, hb, hr, hml, hown, hts, hX2, hbl, hlocks, hgv⟩ := C0
  have C : CallFix p m c code 4 s #[Value.ref b] Tb RL := ⟨hx, hb, hml, hown, fun w hw => hts w (List.mem_filter.mp hw).1⟩
  have hbA : ¬ gA 66 ad b := fun q => by have := gA.b0 hI q; omega
  have hR2 : R (mget σ 0) (mget σ 55) := hR
  obtain ⟨N, hN, hs, hsM, hdM⟩ := rf_N hR2
  obtain ⟨T, hT, ht, htM⟩ := rf_T hR2
  have hszX := rf_SX hR2
  have hszM := rf_SM hR2
  obtain ⟨K, hK, hkK⟩ := rf_K hR2
  have hspM := rf_P hR2
  refine lv_aload_n hx hb dL_law_1205 rfl (lv_at hl 1 rfl) ?_
  refine lv_aload_n hx hb dL_law_1206 rfl (lv_at hl 0 rfl) ?_
  refine lv_iload_n hx hb dL_law_1207 rfl (lv_at hl 3 rfl) ?_
  refine lv_iconst (v := 1) hx hb dL_law_1208 (by decide) ?_
  refine lv_iadd hx hb dL_law_1209 ?_
  refine lv_as (y := nI (i + 1)) (nI_add i 1) ?_
  refine va_sld hx hb hX2 hbl hbA hS (vp_in_nI (show i + 1 < L by omega) (by omega)) dL_law_1210 ?_
  refine lv_as (y := xs (i + 1)) (by rw [nI_clamp (by omega)]) ?_
  refine lv_aload_n hx hb dL_law_1211 rfl (lv_at hl 0 rfl) ?_
  refine lv_iload_n hx hb dL_law_1212 rfl (lv_at hl 3 rfl) ?_
  refine lv_iconst (v := 2) hx hb dL_law_1213 (by decide) ?_
  refine lv_iadd hx hb dL_law_1214 ?_
  refine lv_as (y := nI (i + 2)) (nI_add i 2) ?_
  refine va_sld hx hb hX2 hbl hbA hS (vp_in_nI (show i + 2 < L by omega) (by omega)) dL_law_1215 ?_
  refine lv_as (y := xs (i + 2)) (by rw [nI_clamp (by omega)]) ?_
  refine lv_aload_n hx hb dL_law_1216 rfl (lv_at hl 0 rfl) ?_
  refine lv_iload_n hx hb dL_law_1217 rfl (lv_at hl 3 rfl) ?_
  refine lv_iconst (v := 3) hx hb dL_law_1218 (by decide) ?_
  refine lv_iadd hx hb dL_law_1219 ?_
  refine lv_as (y := nI (i + 3)) (nI_add i 3) ?_
  refine va_sld hx hb hX2 hbl hbA hS (vp_in_nI (show i + 3 < L by omega) (by omega)) dL_law_1220 ?_
  refine lv_as (y := xs (i + 3)) (by rw [nI_clamp (by omega)]) ?_
  refine lv_aload_n hx hb dL_law_1221 rfl (lv_at hl 0 rfl) ?_
  refine lv_iload_n hx hb dL_law_1222 rfl (lv_at hl 3 rfl) ?_
  refine lv_iconst (v := 4) hx hb dL_law_1223 (by decide) ?_
  refine lv_iadd hx hb dL_law_1224 ?_
  refine lv_as (y := nI (i + 4)) (nI_add i 4) ?_
  refine va_sld hx hb hX2 hbl hbA hS (vp_in_nI (show i + 4 < L by omega) (by omega)) dL_law_1225 ?_
  refine lv_as (y := xs (i + 4)) (by rw [nI_clamp (by omega)]) ?_
  refine lv_aload_n hx hb dL_law_1226 rfl (lv_at hl 0 rfl) ?_
  refine lv_iload_n hx hb dL_law_1227 rfl (lv_at hl 3 rfl) ?_
  refine lv_iconst (v := 5) hx hb dL_law_1228 (by decide) ?_
  refine lv_iadd hx hb dL_law_1229 ?_
  refine lv_as (y := nI (i + 5)) (nI_add i 5) ?_
  refine va_sld hx hb hX2 hbl hbA hS (vp_in_nI (show i + 5 < L by omega) (by omega)) dL_law_1230 ?_
  refine lv_as (y := xs (i + 5)) (by rw [nI_clamp (by omega)]) ?_
  refine g_wrI (o := 0) (m1 := 55) (by omega) (shL_X G ad) hI hP hS (g_runV (As := [.int (xs (i + 1)), .int (xs (i + 2)), .int (xs (i + 3)), .int (xs (i + 4)), .int (xs (i + 5))]) (rest := []) ky_yX6_copy lk_RL_146 C hX (gS_b0 hI hS) (hP.sub (sh1 := shX G (fun q_ => ad (0 + q_))) 0 55 (by omega) (shL_X G ad)) 44 (c_yX6_copy l G (fun q_ => ad (0 + q_)) (hI.sub (m := 55) 0 (by omega)) (mget σ 0) (xs (i + 1)) (xs (i + 2)) (xs (i + 3)) (xs (i + 4)) (xs (i + 5)) hszX) (by decide) (shX_44 G (fun q_ => ad (0 + q_)) _) ⟨rfl, rfl, by decide, by decide⟩ rfl hl.1 rfl (Nat.le_of_ble_eq_true rfl) ⟨Nat.le_of_ble_eq_true rfl, Nat.le_of_ble_eq_true rfl⟩ dL_law_1231) (fun H locs hP hS => ?_)
  obtain ⟨σ1, e1⟩ : ∃ σ1, σ1 = mput σ 0 55 (x_copy (mget σ 0) (xs (i + 1)) (xs (i + 2)) (xs (i + 3)) (xs (i + 4)) (xs (i + 5))).2 := ⟨_, rfl⟩
  rw [← e1] at hP
  have hm : mget σ1 55 = mget σ 55 := by rw [e1]; exact mg_M
  refine lv_aload_n hx hb dL_law_1234 rfl (lv_at hl 2 rfl) ?_
  refine lv_aload_n hx hb dL_law_1235 rfl (lv_at hl 0 rfl) ?_
  refine lv_iload_n hx hb dL_law_1236 rfl (lv_at hl 3 rfl) ?_
  refine lv_iconst (v := 1) hx hb dL_law_1237 (by decide) ?_
  refine lv_iadd hx hb dL_law_1238 ?_
  refine lv_as (y := nI (i + 1)) (nI_add i 1) ?_
  refine va_sld hx hb hX2 hbl hbA hS (vp_in_nI (show i + 1 < L by omega) (by omega)) dL_law_1239 ?_
  refine lv_as (y := xs (i + 1)) (by rw [nI_clamp (by omega)]) ?_
  refine lv_aload_n hx hb dL_law_1240 rfl (lv_at hl 0 rfl) ?_
  refine lv_iload_n hx hb dL_law_1241 rfl (lv_at hl 3 rfl) ?_
  refine lv_iconst (v := 2) hx hb dL_law_1242 (by decide) ?_
  refine lv_iadd hx hb dL_law_1243 ?_
  refine lv_as (y := nI (i + 2)) (nI_add i 2) ?_
  refine va_sld hx hb hX2 hbl hbA hS (vp_in_nI (show i + 2 < L by omega) (by omega)) dL_law_1244 ?_
  refine lv_as (y := xs (i + 2)) (by rw [nI_clamp (by omega)]) ?_
  refine lv_aload_n hx hb dL_law_1245 rfl (lv_at hl 0 rfl) ?_
  refine lv_iload_n hx hb dL_law_1246 rfl (lv_at hl 3 rfl) ?_
  refine lv_iconst (v := 3) hx hb dL_law_1247 (by decide) ?_
  refine lv_iadd hx hb dL_law_1248 ?_
  refine lv_as (y := nI (i + 3)) (nI_add i 3) ?_
  refine va_sld hx hb hX2 hbl hbA hS (vp_in_nI (show i + 3 < L by omega) (by omega)) dL_law_1249 ?_
  refine lv_as (y := xs (i + 3)) (by rw [nI_clamp (by omega)]) ?_
  refine lv_aload_n hx hb dL_law_1250 rfl (lv_at hl 0 rfl) ?_
  refine lv_iload_n hx hb dL_law_1251 rfl (lv_at hl 3 rfl) ?_
  refine lv_iconst (v := 4) hx hb dL_law_1252 (by decide) ?_
  refine lv_iadd hx hb dL_law_1253 ?_
  refine lv_as (y := nI (i + 4)) (nI_add i 4) ?_
  refine va_sld hx hb hX2 hbl hbA hS (vp_in_nI (show i + 4 < L by omega) (by omega)) dL_law_1254 ?_
  refine lv_as (y := xs (i + 4)) (by rw [nI_clamp (by omega)]) ?_
  refine lv_aload_n hx hb dL_law_1255 rfl (lv_at hl 0 rfl) ?_
  refine lv_iload_n hx hb dL_law_1256 rfl (lv_at hl 3 rfl) ?_
  refine lv_iconst (v := 5) hx hb dL_law_1257 (by decide) ?_
  refine lv_iadd hx hb dL_law_1258 ?_
  refine lv_as (y := nI (i + 5)) (nI_add i 5) ?_
  refine va_sld hx hb hX2 hbl hbA hS (vp_in_nI (show i + 5 < L by omega) (by omega)) dL_law_1259 ?_
  refine lv_as (y := xs (i + 5)) (by rw [nI_clamp (by omega)]) ?_
  refine g_wrI (o := 55) (m1 := 11) (by omega) (shL_M G ad) hI hP hS (g_runV (As := [.int (xs (i + 1)), .int (xs (i + 2)), .int (xs (i + 3)), .int (xs (i + 4)), .int (xs (i + 5))]) (rest := [.int (x_copy (mget σ 0) (xs (i + 1)) (xs (i + 2)) (xs (i + 3)) (xs (i + 4)) (xs (i + 5))).1]) ky_yX7_copy lk_RL_150 C hX (gS_b0 hI hS) (hP.sub (sh1 := shM G (fun q_ => ad (55 + q_))) 55 11 (by omega) (shL_M G ad)) 0 (c_yX7_copy l G (fun q_ => ad (55 + q_)) (hI.sub (m := 11) 55 (by omega)) (mget σ1 55) (xs (i + 1)) (xs (i + 2)) (xs (i + 3)) (xs (i + 4)) (xs (i + 5)) (by rw [hm]; exact hszM)) (by decide) (shM_0 G (fun q_ => ad (55 + q_)) _) ⟨rfl, rfl, by decide, by decide⟩ rfl hl.1 rfl (Nat.le_of_ble_eq_true rfl) ⟨Nat.le_of_ble_eq_true rfl, Nat.le_of_ble_eq_true rfl⟩ dL_law_1260) (fun H locs hP hS => ?_)
  have hq := eq_copy hR2 (xs (i + 1)) (xs (i + 2)) (xs (i + 3)) (xs (i + 4)) (xs (i + 5))
  rw [← hm] at hq
  exact lv_icmp_eq (tgt := 1399) hx hb dL_law_1263 (by decide) (fun c_ => by have hn := RL_next (σ := σ) hq.2; rw [← e1] at hn; exact next _ H locs hn hP hS) (fun c_ => absurd hq.1 c_)

set_option maxHeartbeats 4000000 in
theorem law_c33 {p : Program} {l : Launch} {e : Env} {s : State} {m : MethodId} {below : List Frame} {meth : Method} {c : Code} {G : gG} {ad : Nat → Nat} {b L : Nat} {xs : Nat → Int32} (hL : L ≤ 3072) (C0 : lw_At p s m meth c b L xs) (hX : gX G s) (hb0 : G.2.2.1 = s.heap.size) (hI : gI G.2.2.1 66 ad) (i : Nat) (hi : i + 6 ≤ L) (σ : gM) (hR : RL2 σ) (H : Heap) (locs : List Loc) (ls : Array Slot) (hP : gP G.1 66 ad (gE (shL G ad) σ) H) (hS : va_S (gA 66 ad) s.heap H locs) (hl : lv_has ls 4 [(0, .ref b), (1, .ref (ad 44)), (2, .ref (ad 55)), (3, .int (nI i))]) (next : ∀ (σ : gM) (H : Heap) (locs : List Loc), RL2 σ → gP G.1 66 ad (gE (shL G ad) σ) H → va_S (gA 66 ad) s.heap H locs → W p l e room_1 s m #[Value.ref b] below meth c H locs 600000 7302250 (lw_Z below #[Value.ref b] s) (F0 m 1399 ls [])) : W p l e room_1 s m #[Value.ref b] below meth c H locs 600000 7302250 (lw_Z below #[Value.ref b] s) (F0 m 1268 ls []) := by
  obtain ⟨hx, hb, hr, hml, hown, hts, hX2, hbl, hlocks, hgv⟩ := C0
  have C : CallFix p m c code 4 s #[Value.ref b] Tb RL := ⟨hx, hb, hml, hown, fun w hw => hts w (List.mem_filter.mp hw).1⟩
  have hbA : ¬ gA 66 ad b := fun q => by have := gA.b0 hI q; omega
  have hR2 : R (mget σ 0) (mget σ 55) := hR
  obtain ⟨N, hN, hs, hsM, hdM⟩ := rf_N hR2
  obtain ⟨T, hT, ht, htM⟩ := rf_T hR2
  have hszX := rf_SX hR2
  have hszM := rf_SM hR2
  obtain ⟨K, hK, hkK⟩ := rf_K hR2
  have hspM := rf_P hR2
  refine lv_aload_n hx hb dL_law_1268 rfl (lv_at hl 1 rfl) ?_
  refine lv_aload_n hx hb dL_law_1269 rfl (lv_at hl 0 rfl) ?_
  refine lv_iload_n hx hb dL_law_1270 rfl (lv_at hl 3 rfl) ?_
  refine lv_iconst (v := 1) hx hb dL_law_1271 (by decide) ?_
  refine lv_iadd hx hb dL_law_1272 ?_
  refine lv_as (y := nI (i + 1)) (nI_add i 1) ?_
  refine va_sld hx hb hX2 hbl hbA hS (vp_in_nI (show i + 1 < L by omega) (by omega)) dL_law_1273 ?_
  refine lv_as (y := xs (i + 1)) (by rw [nI_clamp (by omega)]) ?_
  refine g_wrI (o := 0) (m1 := 55) (by omega) (shL_X G ad) hI hP hS (g_runV (As := [.int (xs (i + 1))]) (rest := []) ky_yX6_load lk_RL_151 C hX (gS_b0 hI hS) (hP.sub (sh1 := shX G (fun q_ => ad (0 + q_))) 0 55 (by omega) (shL_X G ad)) 44 (c_yX6_load l G (fun q_ => ad (0 + q_)) (hI.sub (m := 55) 0 (by omega)) (mget σ 0) (xs (i + 1)) hszX) (by decide) (shX_44 G (fun q_ => ad (0 + q_)) _) ⟨rfl, rfl, by decide, by decide⟩ rfl hl.1 rfl (Nat.le_of_ble_eq_true rfl) ⟨Nat.le_of_ble_eq_true rfl, Nat.le_of_ble_eq_true rfl⟩ dL_law_1274) (fun H locs hP hS => ?_)
  obtain ⟨σ1, e1⟩ : ∃ σ1, σ1 = mput σ 0 55 (x_load (mget σ 0) (xs (i + 1))).2 := ⟨_, rfl⟩
  rw [← e1] at hP
  have hm : mget σ1 55 = mget σ 55 := by rw [e1]; exact mg_M
  refine lv_aload_n hx hb dL_law_1277 rfl (lv_at hl 2 rfl) ?_
  refine lv_aload_n hx hb dL_law_1278 rfl (lv_at hl 0 rfl) ?_
  refine lv_iload_n hx hb dL_law_1279 rfl (lv_at hl 3 rfl) ?_
  refine lv_iconst (v := 1) hx hb dL_law_1280 (by decide) ?_
  refine lv_iadd hx hb dL_law_1281 ?_
  refine lv_as (y := nI (i + 1)) (nI_add i 1) ?_
  refine va_sld hx hb hX2 hbl hbA hS (vp_in_nI (show i + 1 < L by omega) (by omega)) dL_law_1282 ?_
  refine lv_as (y := xs (i + 1)) (by rw [nI_clamp (by omega)]) ?_
  refine g_wrI (o := 55) (m1 := 11) (by omega) (shL_M G ad) hI hP hS (g_runV (As := [.int (xs (i + 1))]) (rest := [.int (x_load (mget σ 0) (xs (i + 1))).1]) ky_yX7_load lk_RL_154 C hX (gS_b0 hI hS) (hP.sub (sh1 := shM G (fun q_ => ad (55 + q_))) 55 11 (by omega) (shL_M G ad)) 0 (c_yX7_load l G (fun q_ => ad (55 + q_)) (hI.sub (m := 11) 55 (by omega)) (mget σ1 55) (xs (i + 1)) ) (by decide) (shM_0 G (fun q_ => ad (55 + q_)) _) ⟨rfl, rfl, by decide, by decide⟩ rfl hl.1 rfl (Nat.le_of_ble_eq_true rfl) ⟨Nat.le_of_ble_eq_true rfl, Nat.le_of_ble_eq_true rfl⟩ dL_law_1283) (fun H locs hP hS => ?_)
  have hq := eq_load hR2 (xs (i + 1))
  rw [← hm] at hq
  exact lv_icmp_eq (tgt := 1399) hx hb dL_law_1286 (by decide) (fun c_ => by have hn := RL_next (σ := σ) hq.2; rw [← e1] at hn; exact next _ H locs hn hP hS) (fun c_ => absurd hq.1 c_)

set_option maxHeartbeats 4000000 in
theorem law_c34 {p : Program} {l : Launch} {e : Env} {s : State} {m : MethodId} {below : List Frame} {meth : Method} {c : Code} {G : gG} {ad : Nat → Nat} {b L : Nat} {xs : Nat → Int32} (hL : L ≤ 3072) (C0 : lw_At p s m meth c b L xs) (hX : gX G s) (hb0 : G.2.2.1 = s.heap.size) (hI : gI G.2.2.1 66 ad) (i : Nat) (hi : i + 6 ≤ L) (σ : gM) (hR : RL2 σ) (H : Heap) (locs : List Loc) (ls : Array Slot) (hP : gP G.1 66 ad (gE (shL G ad) σ) H) (hS : va_S (gA 66 ad) s.heap H locs) (hl : lv_has ls 4 [(0, .ref b), (1, .ref (ad 44)), (2, .ref (ad 55)), (3, .int (nI i))]) (next : ∀ (σ : gM) (H : Heap) (locs : List Loc), RL2 σ → gP G.1 66 ad (gE (shL G ad) σ) H → va_S (gA 66 ad) s.heap H locs → W p l e room_1 s m #[Value.ref b] below meth c H locs 600000 7302250 (lw_Z below #[Value.ref b] s) (F0 m 1399 ls [])) : W p l e room_1 s m #[Value.ref b] below meth c H locs 600000 7302250 (lw_Z below #[Value.ref b] s) (F0 m 1291 ls []) := by
  obtain ⟨hx, hb, hr, hml, hown, hts, hX2, hbl, hlocks, hgv⟩ := C0
  have C : CallFix p m c code 4 s #[Value.ref b] Tb RL := ⟨hx, hb, hml, hown, fun w hw => hts w (List.mem_filter.mp hw).1⟩
  have hbA : ¬ gA 66 ad b := fun q => by have := gA.b0 hI q; omega
  have hR2 : R (mget σ 0) (mget σ 55) := hR
  obtain ⟨N, hN, hs, hsM, hdM⟩ := rf_N hR2
  obtain ⟨T, hT, ht, htM⟩ := rf_T hR2
  have hszX := rf_SX hR2
  have hszM := rf_SM hR2
  obtain ⟨K, hK, hkK⟩ := rf_K hR2
  have hspM := rf_P hR2
  refine lv_aload_n hx hb dL_law_1291 rfl (lv_at hl 1 rfl) ?_
  refine lv_aload_n hx hb dL_law_1292 rfl (lv_at hl 0 rfl) ?_
  refine lv_iload_n hx hb dL_law_1293 rfl (lv_at hl 3 rfl) ?_
  refine lv_iconst (v := 1) hx hb dL_law_1294 (by decide) ?_
  refine lv_iadd hx hb dL_law_1295 ?_
  refine lv_as (y := nI (i + 1)) (nI_add i 1) ?_
  refine va_sld hx hb hX2 hbl hbA hS (vp_in_nI (show i + 1 < L by omega) (by omega)) dL_law_1296 ?_
  refine lv_as (y := xs (i + 1)) (by rw [nI_clamp (by omega)]) ?_
  refine g_wrI (o := 0) (m1 := 55) (by omega) (shL_X G ad) hI hP hS (g_runV (As := [.int (xs (i + 1))]) (rest := []) ky_yX6_judge lk_RL_155 C hX (gS_b0 hI hS) (hP.sub (sh1 := shX G (fun q_ => ad (0 + q_))) 0 55 (by omega) (shL_X G ad)) 44 (c_yX6_judge l G (fun q_ => ad (0 + q_)) (hI.sub (m := 55) 0 (by omega)) (mget σ 0) (xs (i + 1)) N hN hs hszX) (by decide) (shX_44 G (fun q_ => ad (0 + q_)) _) ⟨rfl, rfl, by decide, by decide⟩ rfl hl.1 rfl (Nat.le_of_ble_eq_true rfl) ⟨Nat.le_of_ble_eq_true rfl, Nat.le_of_ble_eq_true rfl⟩ dL_law_1297) (fun H locs hP hS => ?_)
  obtain ⟨σ1, e1⟩ : ∃ σ1, σ1 = mput σ 0 55 (x_judge (mget σ 0) (xs (i + 1))).2 := ⟨_, rfl⟩
  rw [← e1] at hP
  have hm : mget σ1 55 = mget σ 55 := by rw [e1]; exact mg_M
  refine lv_aload_n hx hb dL_law_1300 rfl (lv_at hl 2 rfl) ?_
  refine lv_aload_n hx hb dL_law_1301 rfl (lv_at hl 0 rfl) ?_
  refine lv_iload_n hx hb dL_law_1302 rfl (lv_at hl 3 rfl) ?_
  refine lv_iconst (v := 1) hx hb dL_law_1303 (by decide) ?_
  refine lv_iadd hx hb dL_law_1304 ?_
  refine lv_as (y := nI (i + 1)) (nI_add i 1) ?_
  refine va_sld hx hb hX2 hbl hbA hS (vp_in_nI (show i + 1 < L by omega) (by omega)) dL_law_1305 ?_
  refine lv_as (y := xs (i + 1)) (by rw [nI_clamp (by omega)]) ?_
  refine g_wrI (o := 55) (m1 := 11) (by omega) (shL_M G ad) hI hP hS (g_runV (As := [.int (xs (i + 1))]) (rest := [.int (x_judge (mget σ 0) (xs (i + 1))).1]) ky_yX7_judge lk_RL_158 C hX (gS_b0 hI hS) (hP.sub (sh1 := shM G (fun q_ => ad (55 + q_))) 55 11 (by omega) (shL_M G ad)) 0 (c_yX7_judge l G (fun q_ => ad (55 + q_)) (hI.sub (m := 11) 55 (by omega)) (mget σ1 55) (xs (i + 1)) N hN (by rw [hm]; exact hsM) (by rw [hm]; exact hszM)) (by decide) (shM_0 G (fun q_ => ad (55 + q_)) _) ⟨rfl, rfl, by decide, by decide⟩ rfl hl.1 rfl (Nat.le_of_ble_eq_true rfl) ⟨Nat.le_of_ble_eq_true rfl, Nat.le_of_ble_eq_true rfl⟩ dL_law_1306) (fun H locs hP hS => ?_)
  have hq := eq_judge hR2 (xs (i + 1))
  rw [← hm] at hq
  exact lv_icmp_eq (tgt := 1399) hx hb dL_law_1309 (by decide) (fun c_ => by have hn := RL_next (σ := σ) hq.2; rw [← e1] at hn; exact next _ H locs hn hP hS) (fun c_ => absurd hq.1 c_)

set_option maxHeartbeats 4000000 in
theorem law_c35 {p : Program} {l : Launch} {e : Env} {s : State} {m : MethodId} {below : List Frame} {meth : Method} {c : Code} {G : gG} {ad : Nat → Nat} {b L : Nat} {xs : Nat → Int32} (hL : L ≤ 3072) (C0 : lw_At p s m meth c b L xs) (hX : gX G s) (hb0 : G.2.2.1 = s.heap.size) (hI : gI G.2.2.1 66 ad) (i : Nat) (hi : i + 6 ≤ L) (σ : gM) (hR : RL2 σ) (H : Heap) (locs : List Loc) (ls : Array Slot) (hP : gP G.1 66 ad (gE (shL G ad) σ) H) (hS : va_S (gA 66 ad) s.heap H locs) (hl : lv_has ls 4 [(0, .ref b), (1, .ref (ad 44)), (2, .ref (ad 55)), (3, .int (nI i))]) (next : ∀ (σ : gM) (H : Heap) (locs : List Loc), RL2 σ → gP G.1 66 ad (gE (shL G ad) σ) H → va_S (gA 66 ad) s.heap H locs → W p l e room_1 s m #[Value.ref b] below meth c H locs 600000 7302250 (lw_Z below #[Value.ref b] s) (F0 m 1399 ls [])) : W p l e room_1 s m #[Value.ref b] below meth c H locs 600000 7302250 (lw_Z below #[Value.ref b] s) (F0 m 1314 ls []) := by
  obtain ⟨hx, hb, hr, hml, hown, hts, hX2, hbl, hlocks, hgv⟩ := C0
  have C : CallFix p m c code 4 s #[Value.ref b] Tb RL := ⟨hx, hb, hml, hown, fun w hw => hts w (List.mem_filter.mp hw).1⟩
  have hbA : ¬ gA 66 ad b := fun q => by have := gA.b0 hI q; omega
  have hR2 : R (mget σ 0) (mget σ 55) := hR
  obtain ⟨N, hN, hs, hsM, hdM⟩ := rf_N hR2
  obtain ⟨T, hT, ht, htM⟩ := rf_T hR2
  have hszX := rf_SX hR2
  have hszM := rf_SM hR2
  obtain ⟨K, hK, hkK⟩ := rf_K hR2
  have hspM := rf_P hR2
  refine lv_aload_n hx hb dL_law_1314 rfl (lv_at hl 1 rfl) ?_
  refine g_wrI (o := 0) (m1 := 55) (by omega) (shL_X G ad) hI hP hS (g_runV (As := []) (rest := []) ky_yX6_image lk_RL_159 C hX (gS_b0 hI hS) (hP.sub (sh1 := shX G (fun q_ => ad (0 + q_))) 0 55 (by omega) (shL_X G ad)) 44 (c_yX6_image l G (fun q_ => ad (0 + q_)) (hI.sub (m := 55) 0 (by omega)) (mget σ 0)  N hN hs) (by decide) (shX_44 G (fun q_ => ad (0 + q_)) _) ⟨rfl, rfl, by decide, by decide⟩ rfl hl.1 rfl (Nat.le_of_ble_eq_true rfl) ⟨Nat.le_of_ble_eq_true rfl, Nat.le_of_ble_eq_true rfl⟩ dL_law_1315) (fun H locs hP hS => ?_)
  obtain ⟨σ1, e1⟩ : ∃ σ1, σ1 = mput σ 0 55 (x_image (mget σ 0) ).2 := ⟨_, rfl⟩
  rw [← e1] at hP
  have hm : mget σ1 55 = mget σ 55 := by rw [e1]; exact mg_M
  refine lv_aload_n hx hb dL_law_1318 rfl (lv_at hl 2 rfl) ?_
  refine g_wrI (o := 55) (m1 := 11) (by omega) (shL_M G ad) hI hP hS (g_runV (As := []) (rest := [.int (x_image (mget σ 0) ).1]) ky_yX7_image lk_RL_162 C hX (gS_b0 hI hS) (hP.sub (sh1 := shM G (fun q_ => ad (55 + q_))) 55 11 (by omega) (shL_M G ad)) 0 (c_yX7_image l G (fun q_ => ad (55 + q_)) (hI.sub (m := 11) 55 (by omega)) (mget σ1 55)  ) (by decide) (shM_0 G (fun q_ => ad (55 + q_)) _) ⟨rfl, rfl, by decide, by decide⟩ rfl hl.1 rfl (Nat.le_of_ble_eq_true rfl) ⟨Nat.le_of_ble_eq_true rfl, Nat.le_of_ble_eq_true rfl⟩ dL_law_1319) (fun H locs hP hS => ?_)
  have hq := eq_image hR2 
  rw [← hm] at hq
  exact lv_icmp_eq (tgt := 1399) hx hb dL_law_1322 (by decide) (fun c_ => by have hn := RL_next (σ := σ) hq.2; rw [← e1] at hn; exact next _ H locs hn hP hS) (fun c_ => absurd hq.1 c_)

set_option maxHeartbeats 4000000 in
theorem law_c36 {p : Program} {l : Launch} {e : Env} {s : State} {m : MethodId} {below : List Frame} {meth : Method} {c : Code} {G : gG} {ad : Nat → Nat} {b L : Nat} {xs : Nat → Int32} (hL : L ≤ 3072) (C0 : lw_At p s m meth c b L xs) (hX : gX G s) (hb0 : G.2.2.1 = s.heap.size) (hI : gI G.2.2.1 66 ad) (i : Nat) (hi : i + 6 ≤ L) (σ : gM) (hR : RL2 σ) (H : Heap) (locs : List Loc) (ls : Array Slot) (hP : gP G.1 66 ad (gE (shL G ad) σ) H) (hS : va_S (gA 66 ad) s.heap H locs) (hl : lv_has ls 4 [(0, .ref b), (1, .ref (ad 44)), (2, .ref (ad 55)), (3, .int (nI i))]) (next : ∀ (σ : gM) (H : Heap) (locs : List Loc), RL2 σ → gP G.1 66 ad (gE (shL G ad) σ) H → va_S (gA 66 ad) s.heap H locs → W p l e room_1 s m #[Value.ref b] below meth c H locs 600000 7302250 (lw_Z below #[Value.ref b] s) (F0 m 1399 ls [])) : W p l e room_1 s m #[Value.ref b] below meth c H locs 600000 7302250 (lw_Z below #[Value.ref b] s) (F0 m 1327 ls []) := by
  obtain ⟨hx, hb, hr, hml, hown, hts, hX2, hbl, hlocks, hgv⟩ := C0
  have C : CallFix p m c code 4 s #[Value.ref b] Tb RL := ⟨hx, hb, hml, hown, fun w hw => hts w (List.mem_filter.mp hw).1⟩
  have hbA : ¬ gA 66 ad b := fun q => by have := gA.b0 hI q; omega
  have hR2 : R (mget σ 0) (mget σ 55) := hR
  obtain ⟨N, hN, hs, hsM, hdM⟩ := rf_N hR2
  obtain ⟨T, hT, ht, htM⟩ := rf_T hR2
  have hszX := rf_SX hR2
  have hszM := rf_SM hR2
  obtain ⟨K, hK, hkK⟩ := rf_K hR2
  have hspM := rf_P hR2
  refine lv_aload_n hx hb dL_law_1327 rfl (lv_at hl 1 rfl) ?_
  refine g_wrI (o := 0) (m1 := 55) (by omega) (shL_X G ad) hI hP hS (g_runV (As := []) (rest := []) ky_yX6_undo lk_RL_163 C hX (gS_b0 hI hS) (hP.sub (sh1 := shX G (fun q_ => ad (0 + q_))) 0 55 (by omega) (shL_X G ad)) 44 (c_yX6_undo l G (fun q_ => ad (0 + q_)) (hI.sub (m := 55) 0 (by omega)) (mget σ 0)  K hK hkK) (by decide) (shX_44 G (fun q_ => ad (0 + q_)) _) ⟨rfl, rfl, by decide, by decide⟩ rfl hl.1 rfl (Nat.le_of_ble_eq_true rfl) ⟨Nat.le_of_ble_eq_true rfl, Nat.le_of_ble_eq_true rfl⟩ dL_law_1328) (fun H locs hP hS => ?_)
  obtain ⟨σ1, e1⟩ : ∃ σ1, σ1 = mput σ 0 55 (x_undo (mget σ 0) ).2 := ⟨_, rfl⟩
  rw [← e1] at hP
  have hm : mget σ1 55 = mget σ 55 := by rw [e1]; exact mg_M
  refine lv_aload_n hx hb dL_law_1331 rfl (lv_at hl 2 rfl) ?_
  refine g_wrI (o := 55) (m1 := 11) (by omega) (shL_M G ad) hI hP hS (g_runV (As := []) (rest := [.int (x_undo (mget σ 0) ).1]) ky_yX7_undo lk_RL_166 C hX (gS_b0 hI hS) (hP.sub (sh1 := shM G (fun q_ => ad (55 + q_))) 55 11 (by omega) (shL_M G ad)) 0 (c_yX7_undo l G (fun q_ => ad (55 + q_)) (hI.sub (m := 11) 55 (by omega)) (mget σ1 55)  ) (by decide) (shM_0 G (fun q_ => ad (55 + q_)) _) ⟨rfl, rfl, by decide, by decide⟩ rfl hl.1 rfl (Nat.le_of_ble_eq_true rfl) ⟨Nat.le_of_ble_eq_true rfl, Nat.le_of_ble_eq_true rfl⟩ dL_law_1332) (fun H locs hP hS => ?_)
  have hq := eq_undo hR2 
  rw [← hm] at hq
  exact lv_icmp_eq (tgt := 1399) hx hb dL_law_1335 (by decide) (fun c_ => by have hn := RL_next (σ := σ) hq.2; rw [← e1] at hn; exact next _ H locs hn hP hS) (fun c_ => absurd hq.1 c_)

set_option maxHeartbeats 4000000 in
theorem law_c37 {p : Program} {l : Launch} {e : Env} {s : State} {m : MethodId} {below : List Frame} {meth : Method} {c : Code} {G : gG} {ad : Nat → Nat} {b L : Nat} {xs : Nat → Int32} (hL : L ≤ 3072) (C0 : lw_At p s m meth c b L xs) (hX : gX G s) (hb0 : G.2.2.1 = s.heap.size) (hI : gI G.2.2.1 66 ad) (i : Nat) (hi : i + 6 ≤ L) (σ : gM) (hR : RL2 σ) (H : Heap) (locs : List Loc) (ls : Array Slot) (hP : gP G.1 66 ad (gE (shL G ad) σ) H) (hS : va_S (gA 66 ad) s.heap H locs) (hl : lv_has ls 4 [(0, .ref b), (1, .ref (ad 44)), (2, .ref (ad 55)), (3, .int (nI i))]) (next : ∀ (σ : gM) (H : Heap) (locs : List Loc), RL2 σ → gP G.1 66 ad (gE (shL G ad) σ) H → va_S (gA 66 ad) s.heap H locs → W p l e room_1 s m #[Value.ref b] below meth c H locs 600000 7302250 (lw_Z below #[Value.ref b] s) (F0 m 1399 ls [])) : W p l e room_1 s m #[Value.ref b] below meth c H locs 600000 7302250 (lw_Z below #[Value.ref b] s) (F0 m 1340 ls []) := by
  obtain ⟨hx, hb, hr, hml, hown, hts, hX2, hbl, hlocks, hgv⟩ := C0
  have C : CallFix p m c code 4 s #[Value.ref b] Tb RL := ⟨hx, hb, hml, hown, fun w hw => hts w (List.mem_filter.mp hw).1⟩
  have hbA : ¬ gA 66 ad b := fun q => by have := gA.b0 hI q; omega
  have hR2 : R (mget σ 0) (mget σ 55) := hR
  obtain ⟨N, hN, hs, hsM, hdM⟩ := rf_N hR2
  obtain ⟨T, hT, ht, htM⟩ := rf_T hR2
  have hszX := rf_SX hR2
  have hszM := rf_SM hR2
  obtain ⟨K, hK, hkK⟩ := rf_K hR2
  have hspM := rf_P hR2
  refine lv_aload_n hx hb dL_law_1340 rfl (lv_at hl 1 rfl) ?_
  refine g_wrI (o := 0) (m1 := 55) (by omega) (shL_X G ad) hI hP hS (g_runV (As := []) (rest := []) ky_yX6_tear lk_RL_167 C hX (gS_b0 hI hS) (hP.sub (sh1 := shX G (fun q_ => ad (0 + q_))) 0 55 (by omega) (shL_X G ad)) 44 (c_yX6_tear l G (fun q_ => ad (0 + q_)) (hI.sub (m := 55) 0 (by omega)) (mget σ 0)  ) (by decide) (shX_44 G (fun q_ => ad (0 + q_)) _) ⟨rfl, rfl, by decide, by decide⟩ rfl hl.1 rfl (Nat.le_of_ble_eq_true rfl) ⟨Nat.le_of_ble_eq_true rfl, Nat.le_of_ble_eq_true rfl⟩ dL_law_1341) (fun H locs hP hS => ?_)
  obtain ⟨σ1, e1⟩ : ∃ σ1, σ1 = mput σ 0 55 (x_tear (mget σ 0) ).2 := ⟨_, rfl⟩
  rw [← e1] at hP
  have hm : mget σ1 55 = mget σ 55 := by rw [e1]; exact mg_M
  refine lv_aload_n hx hb dL_law_1344 rfl (lv_at hl 2 rfl) ?_
  refine g_wrI (o := 55) (m1 := 11) (by omega) (shL_M G ad) hI hP hS (g_runV (As := []) (rest := [.int (x_tear (mget σ 0) ).1]) ky_yX7_tear lk_RL_170 C hX (gS_b0 hI hS) (hP.sub (sh1 := shM G (fun q_ => ad (55 + q_))) 55 11 (by omega) (shL_M G ad)) 0 (c_yX7_tear l G (fun q_ => ad (55 + q_)) (hI.sub (m := 11) 55 (by omega)) (mget σ1 55)  ) (by decide) (shM_0 G (fun q_ => ad (55 + q_)) _) ⟨rfl, rfl, by decide, by decide⟩ rfl hl.1 rfl (Nat.le_of_ble_eq_true rfl) ⟨Nat.le_of_ble_eq_true rfl, Nat.le_of_ble_eq_true rfl⟩ dL_law_1345) (fun H locs hP hS => ?_)
  have hq := eq_tear hR2 
  rw [← hm] at hq
  exact lv_icmp_eq (tgt := 1399) hx hb dL_law_1348 (by decide) (fun c_ => by have hn := RL_next (σ := σ) hq.2; rw [← e1] at hn; exact next _ H locs hn hP hS) (fun c_ => absurd hq.1 c_)

set_option maxHeartbeats 4000000 in
theorem law_c38 {p : Program} {l : Launch} {e : Env} {s : State} {m : MethodId} {below : List Frame} {meth : Method} {c : Code} {G : gG} {ad : Nat → Nat} {b L : Nat} {xs : Nat → Int32} (hL : L ≤ 3072) (C0 : lw_At p s m meth c b L xs) (hX : gX G s) (hb0 : G.2.2.1 = s.heap.size) (hI : gI G.2.2.1 66 ad) (i : Nat) (hi : i + 6 ≤ L) (σ : gM) (hR : RL2 σ) (H : Heap) (locs : List Loc) (ls : Array Slot) (hP : gP G.1 66 ad (gE (shL G ad) σ) H) (hS : va_S (gA 66 ad) s.heap H locs) (hl : lv_has ls 4 [(0, .ref b), (1, .ref (ad 44)), (2, .ref (ad 55)), (3, .int (nI i))]) (next : ∀ (σ : gM) (H : Heap) (locs : List Loc), RL2 σ → gP G.1 66 ad (gE (shL G ad) σ) H → va_S (gA 66 ad) s.heap H locs → W p l e room_1 s m #[Value.ref b] below meth c H locs 600000 7302250 (lw_Z below #[Value.ref b] s) (F0 m 1399 ls [])) : W p l e room_1 s m #[Value.ref b] below meth c H locs 600000 7302250 (lw_Z below #[Value.ref b] s) (F0 m 1353 ls []) := by
  obtain ⟨hx, hb, hr, hml, hown, hts, hX2, hbl, hlocks, hgv⟩ := C0
  have C : CallFix p m c code 4 s #[Value.ref b] Tb RL := ⟨hx, hb, hml, hown, fun w hw => hts w (List.mem_filter.mp hw).1⟩
  have hbA : ¬ gA 66 ad b := fun q => by have := gA.b0 hI q; omega
  have hR2 : R (mget σ 0) (mget σ 55) := hR
  obtain ⟨N, hN, hs, hsM, hdM⟩ := rf_N hR2
  obtain ⟨T, hT, ht, htM⟩ := rf_T hR2
  have hszX := rf_SX hR2
  have hszM := rf_SM hR2
  obtain ⟨K, hK, hkK⟩ := rf_K hR2
  have hspM := rf_P hR2
  refine lv_aload_n hx hb dL_law_1353 rfl (lv_at hl 1 rfl) ?_
  refine lv_aload_n hx hb dL_law_1354 rfl (lv_at hl 0 rfl) ?_
  refine lv_iload_n hx hb dL_law_1355 rfl (lv_at hl 3 rfl) ?_
  refine lv_iconst (v := 1) hx hb dL_law_1356 (by decide) ?_
  refine lv_iadd hx hb dL_law_1357 ?_
  refine lv_as (y := nI (i + 1)) (nI_add i 1) ?_
  refine va_sld hx hb hX2 hbl hbA hS (vp_in_nI (show i + 1 < L by omega) (by omega)) dL_law_1358 ?_
  refine lv_as (y := xs (i + 1)) (by rw [nI_clamp (by omega)]) ?_
  refine g_wrI (o := 0) (m1 := 55) (by omega) (shL_X G ad) hI hP hS (g_runV (As := [.int (xs (i + 1))]) (rest := []) ky_yX6_count lk_RL_171 C hX (gS_b0 hI hS) (hP.sub (sh1 := shX G (fun q_ => ad (0 + q_))) 0 55 (by omega) (shL_X G ad)) 44 (c_yX6_count l G (fun q_ => ad (0 + q_)) (hI.sub (m := 55) 0 (by omega)) (mget σ 0) (xs (i + 1)) N hN hs) (by decide) (shX_44 G (fun q_ => ad (0 + q_)) _) ⟨rfl, rfl, by decide, by decide⟩ rfl hl.1 rfl (Nat.le_of_ble_eq_true rfl) ⟨Nat.le_of_ble_eq_true rfl, Nat.le_of_ble_eq_true rfl⟩ dL_law_1359) (fun H locs hP hS => ?_)
  obtain ⟨σ1, e1⟩ : ∃ σ1, σ1 = mput σ 0 55 (x_count (mget σ 0) (xs (i + 1))).2 := ⟨_, rfl⟩
  rw [← e1] at hP
  have hm : mget σ1 55 = mget σ 55 := by rw [e1]; exact mg_M
  refine lv_aload_n hx hb dL_law_1362 rfl (lv_at hl 2 rfl) ?_
  refine lv_aload_n hx hb dL_law_1363 rfl (lv_at hl 0 rfl) ?_
  refine lv_iload_n hx hb dL_law_1364 rfl (lv_at hl 3 rfl) ?_
  refine lv_iconst (v := 1) hx hb dL_law_1365 (by decide) ?_
  refine lv_iadd hx hb dL_law_1366 ?_
  refine lv_as (y := nI (i + 1)) (nI_add i 1) ?_
  refine va_sld hx hb hX2 hbl hbA hS (vp_in_nI (show i + 1 < L by omega) (by omega)) dL_law_1367 ?_
  refine lv_as (y := xs (i + 1)) (by rw [nI_clamp (by omega)]) ?_
  refine g_wrI (o := 55) (m1 := 11) (by omega) (shL_M G ad) hI hP hS (g_runV (As := [.int (xs (i + 1))]) (rest := [.int (x_count (mget σ 0) (xs (i + 1))).1]) ky_yX7_count lk_RL_174 C hX (gS_b0 hI hS) (hP.sub (sh1 := shM G (fun q_ => ad (55 + q_))) 55 11 (by omega) (shL_M G ad)) 0 (c_yX7_count l G (fun q_ => ad (55 + q_)) (hI.sub (m := 11) 55 (by omega)) (mget σ1 55) (xs (i + 1)) N hN (by rw [hm]; exact hsM)) (by decide) (shM_0 G (fun q_ => ad (55 + q_)) _) ⟨rfl, rfl, by decide, by decide⟩ rfl hl.1 rfl (Nat.le_of_ble_eq_true rfl) ⟨Nat.le_of_ble_eq_true rfl, Nat.le_of_ble_eq_true rfl⟩ dL_law_1368) (fun H locs hP hS => ?_)
  have hq := eq_count hR2 (xs (i + 1))
  rw [← hm] at hq
  exact lv_icmp_eq (tgt := 1399) hx hb dL_law_1371 (by decide) (fun c_ => by have hn := RL_next (σ := σ) hq.2; rw [← e1] at hn; exact next _ H locs hn hP hS) (fun c_ => absurd hq.1 c_)

set_option maxHeartbeats 4000000 in
theorem law_c39 {p : Program} {l : Launch} {e : Env} {s : State} {m : MethodId} {below : List Frame} {meth : Method} {c : Code} {G : gG} {ad : Nat → Nat} {b L : Nat} {xs : Nat → Int32} (hL : L ≤ 3072) (C0 : lw_At p s m meth c b L xs) (hX : gX G s) (hb0 : G.2.2.1 = s.heap.size) (hI : gI G.2.2.1 66 ad) (i : Nat) (hi : i + 6 ≤ L) (σ : gM) (hR : RL2 σ) (H : Heap) (locs : List Loc) (ls : Array Slot) (hP : gP G.1 66 ad (gE (shL G ad) σ) H) (hS : va_S (gA 66 ad) s.heap H locs) (hl : lv_has ls 4 [(0, .ref b), (1, .ref (ad 44)), (2, .ref (ad 55)), (3, .int (nI i))]) (next : ∀ (σ : gM) (H : Heap) (locs : List Loc), RL2 σ → gP G.1 66 ad (gE (shL G ad) σ) H → va_S (gA 66 ad) s.heap H locs → W p l e room_1 s m #[Value.ref b] below meth c H locs 600000 7302250 (lw_Z below #[Value.ref b] s) (F0 m 1399 ls [])) : W p l e room_1 s m #[Value.ref b] below meth c H locs 600000 7302250 (lw_Z below #[Value.ref b] s) (F0 m 1376 ls []) := by
  obtain ⟨hx, hb, hr, hml, hown, hts, hX2, hbl, hlocks, hgv⟩ := C0
  have C : CallFix p m c code 4 s #[Value.ref b] Tb RL := ⟨hx, hb, hml, hown, fun w hw => hts w (List.mem_filter.mp hw).1⟩
  have hbA : ¬ gA 66 ad b := fun q => by have := gA.b0 hI q; omega
  have hR2 : R (mget σ 0) (mget σ 55) := hR
  obtain ⟨N, hN, hs, hsM, hdM⟩ := rf_N hR2
  obtain ⟨T, hT, ht, htM⟩ := rf_T hR2
  have hszX := rf_SX hR2
  have hszM := rf_SM hR2
  obtain ⟨K, hK, hkK⟩ := rf_K hR2
  have hspM := rf_P hR2
  refine lv_aload_n hx hb dL_law_1376 rfl (lv_at hl 1 rfl) ?_
  refine lv_aload_n hx hb dL_law_1377 rfl (lv_at hl 0 rfl) ?_
  refine lv_iload_n hx hb dL_law_1378 rfl (lv_at hl 3 rfl) ?_
  refine lv_iconst (v := 1) hx hb dL_law_1379 (by decide) ?_
  refine lv_iadd hx hb dL_law_1380 ?_
  refine lv_as (y := nI (i + 1)) (nI_add i 1) ?_
  refine va_sld hx hb hX2 hbl hbA hS (vp_in_nI (show i + 1 < L by omega) (by omega)) dL_law_1381 ?_
  refine lv_as (y := xs (i + 1)) (by rw [nI_clamp (by omega)]) ?_
  refine g_wrI (o := 0) (m1 := 55) (by omega) (shL_X G ad) hI hP hS (g_runV (As := [.int (xs (i + 1))]) (rest := []) ky_yX6_status lk_RL_175 C hX (gS_b0 hI hS) (hP.sub (sh1 := shX G (fun q_ => ad (0 + q_))) 0 55 (by omega) (shL_X G ad)) 44 (c_yX6_status l G (fun q_ => ad (0 + q_)) (hI.sub (m := 55) 0 (by omega)) (mget σ 0) (xs (i + 1)) ) (by decide) (shX_44 G (fun q_ => ad (0 + q_)) _) ⟨rfl, rfl, by decide, by decide⟩ rfl hl.1 rfl (Nat.le_of_ble_eq_true rfl) ⟨Nat.le_of_ble_eq_true rfl, Nat.le_of_ble_eq_true rfl⟩ dL_law_1382) (fun H locs hP hS => ?_)
  obtain ⟨σ1, e1⟩ : ∃ σ1, σ1 = mput σ 0 55 (x_status (mget σ 0) (xs (i + 1))).2 := ⟨_, rfl⟩
  rw [← e1] at hP
  have hm : mget σ1 55 = mget σ 55 := by rw [e1]; exact mg_M
  refine lv_aload_n hx hb dL_law_1385 rfl (lv_at hl 2 rfl) ?_
  refine lv_aload_n hx hb dL_law_1386 rfl (lv_at hl 0 rfl) ?_
  refine lv_iload_n hx hb dL_law_1387 rfl (lv_at hl 3 rfl) ?_
  refine lv_iconst (v := 1) hx hb dL_law_1388 (by decide) ?_
  refine lv_iadd hx hb dL_law_1389 ?_
  refine lv_as (y := nI (i + 1)) (nI_add i 1) ?_
  refine va_sld hx hb hX2 hbl hbA hS (vp_in_nI (show i + 1 < L by omega) (by omega)) dL_law_1390 ?_
  refine lv_as (y := xs (i + 1)) (by rw [nI_clamp (by omega)]) ?_
  refine g_wrI (o := 55) (m1 := 11) (by omega) (shL_M G ad) hI hP hS (g_runV (As := [.int (xs (i + 1))]) (rest := [.int (x_status (mget σ 0) (xs (i + 1))).1]) ky_yX7_status lk_RL_178 C hX (gS_b0 hI hS) (hP.sub (sh1 := shM G (fun q_ => ad (55 + q_))) 55 11 (by omega) (shL_M G ad)) 0 (c_yX7_status l G (fun q_ => ad (55 + q_)) (hI.sub (m := 11) 55 (by omega)) (mget σ1 55) (xs (i + 1)) ) (by decide) (shM_0 G (fun q_ => ad (55 + q_)) _) ⟨rfl, rfl, by decide, by decide⟩ rfl hl.1 rfl (Nat.le_of_ble_eq_true rfl) ⟨Nat.le_of_ble_eq_true rfl, Nat.le_of_ble_eq_true rfl⟩ dL_law_1391) (fun H locs hP hS => ?_)
  have hq := eq_status hR2 (xs (i + 1))
  rw [← hm] at hq
  exact lv_icmp_eq (tgt := 1399) hx hb dL_law_1394 (by decide) (fun c_ => by have hn := RL_next (σ := σ) hq.2; rw [← e1] at hn; exact next _ H locs hn hP hS) (fun c_ => absurd hq.1 c_)
