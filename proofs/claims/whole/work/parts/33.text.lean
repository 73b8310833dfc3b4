
theorem tx_len7 {w : Nat} (h : w < 13) : tx_len.getD w 0 ≤ 7 := by
  have q : ∀ w, w < 13 → tx_len.getD w 0 ≤ 7 := by decide
  exact q w h
theorem tx_shr {w : Nat} (h : w < 13) : nI (tx_len.getD w 0) = jshr (nI (tx_len.getD w 0)) 0 := by
  have q : ∀ w, w < 13 → nI (tx_len.getD w 0) = jshr (nI (tx_len.getD w 0)) 0 := by decide
  exact q w h
def tx_c (w k : Nat) : Int32 := (tx_b.getD w []).getD k 0
theorem tx_ch {w k : Nat} (h : w < 13) (hk : k < tx_len.getD w 0) : tx_c w k = (((tx_c w k) &&& 255).toUInt32 % 65536).toInt32 := by
  have q : ∀ w, w < 13 → ∀ k, k < tx_len.getD w 0 → tx_c w k = (((tx_c w k) &&& 255).toUInt32 % 65536).toInt32 := by decide +kernel
  exact q w h k hk
theorem tx_cn {w k : Nat} (h : w < 13) (hk : k < tx_len.getD w 0) : narrow .char (.int (tx_c w k)) = .int (tx_c w k) := by
  rw [tx_ch h hk]
  exact pk_nc _
def vp_Sz : Array Value → State → Outcome → State → Prop := fun _ st o t => o = .returned none ∧ t.heap = st.heap
def vp_Sr (a : Nat) : Array Value → State → Outcome → State → Prop := fun _ st o t => o = .returned (some (.ref a)) ∧ t.heap = st.heap
def gStr (l : Launch) (y : MethodName) (b : ByteArray) (maxL : Nat) (ret : Option FieldType) (rm : Room) (G : gG) (av : List Value) (Qc : Array Value → State → Outcome → State → Prop) : Prop :=
  Met l y (tW y b maxL ret) rm (fun v U => v = av.toArray ∧ gX G U) Qc 0 0 (fun _ => False)
theorem gXb.blind (G : gG) (av : Array Value) : FrameBlind (fun v U => v = av ∧ gX G U) := fun a U g mk h => ⟨h.1, h.2.same rfl rfl⟩
section
variable {p : Program} {l : Launch} {e : Env} {R : Room} {s : State} {m : MethodId} {args : Array Value} {below : List Frame} {meth : Method} {c : Code} {H : Heap} {locs : List Loc} {cells slots : Nat} {Q : State → Prop} {cc : ByteArray} {pc : Nat} {ls : Array Slot} {rest : List Value} {G : gG} {own : String} {nL : Nat} {index : Nat}
variable {y : MethodName} {b : ByteArray} {maxL : Nat} {ret : Option FieldType} {na : Nat} {rm : Room} {Qc : Array Value → State → Outcome → State → Prop} {free : Addr → Prop} {As st0 : List Value}
/-- a call on a text -/
theorem g_runT (k1 : Cond.code y b maxL ret ∈ Tb) (k3 : Cond.instanceMethod y ∈ Tb) (k4 : Cond.selects "java/lang/String" y y ∈ Tb) (ki : Cond.initialized y.cls ∈ Tb) (kd : gYd y na) (LK : Cond.methodLink own index y ∈ Tb) (C : CallFix p m c cc nL s args Tb own) (hX : gX G s) (hS : va_S (fun q => G.2.2.1 ≤ q) s.heap H locs) {i : Nat} (hi : i < 13) (hM : gStr l y b maxL ret rm G (Value.ref (G.2.2.2.1 i) :: As) Qc) (hR : gRm rm R maxL) (hn : As.length = na) (hsz : ls.size = nL) (hst : st0 = As.reverse ++ .ref (G.2.2.2.1 i) :: rest) (hroom : (rest.map fun v => v.category).sum ≤ 8) (hcs : cells ≤ R.cells ∧ slots ≤ R.slots) (hdg : decode cc pc = .ok (.invokevirtual index, 3)) :
    va_Run p l e R s m args below meth c H locs cells slots 0 0 (F0 m pc ls st0) rest (Qc (Value.ref (G.2.2.2.1 i) :: As).toArray) (fun _ => False) := by
  subst hst
  have hts := C.2.2.2.2
  exact va_runV C hM ⟨callB_of na hts (tW_in k1) rfl hR.1 hR.2.1 (hts _ ki) (hts _ LK) kd hR.2.2, hts _ k3, hts _ k4⟩ ⟨gXb.blind G _, vk_recv hX.2.2.2.1 hi hS, fun U hU hW => ⟨rfl, hX.at hS hU hW⟩⟩ rfl hn hsz rfl (lv_room hroom) hdg hcs
theorem g_runX (KY : gYS y b maxL ret na) (LK : Cond.methodLink own index y ∈ Tb) (C : CallFix p m c cc nL s args Tb own) (hX : gX G s) (hS : va_S (fun q => G.2.2.1 ≤ q) s.heap H locs) (hM : gStr l y b maxL ret rm G As Qc) (hR : gRm rm R maxL) (hn : As.length = na) (hsz : ls.size = nL) (hst : st0 = As.reverse ++ rest) (hroom : (rest.map fun v => v.category).sum ≤ 8) (hcs : cells ≤ R.cells ∧ slots ≤ R.slots) (hdg : decode cc pc = .ok (.invokestatic index, 3)) :
    va_Run p l e R s m args below meth c H locs cells slots 0 0 (F0 m pc ls st0) rest (Qc As.toArray) (fun _ => False) := by
  subst hst
  have hts := C.2.2.2.2
  obtain ⟨k1', k2, k3, kd⟩ := KY
  exact va_runS C hM ⟨callB_of na hts (tW_in k1') rfl hR.1 hR.2.1 (hts _ k2) (hts _ LK) kd hR.2.2, hts _ k3⟩ ⟨gXb.blind G _, fun U hU hW => ⟨rfl, hX.at hS hU hW⟩⟩ rfl hn hsz rfl (lv_room hroom) hdg hcs
theorem g_rdV {a : Array Value} (hr : va_Run p l e R s m args below meth c H locs cells slots 0 0 (F0 m pc ls st0) rest (vp_Sz a) (fun _ => False)) (kk : W p l e R s m args below meth c H locs cells slots Q (F0 m (pc + 3) ls rest)) : W p l e R s m args below meth c H locs cells slots Q (F0 m pc ls st0) := by
  intro T hT X
  obtain ⟨v, st₀, t, T', L, h0, X', hL, e1, e2, ⟨hv, hh⟩, st⟩ := hr T hT X
  cases hv
  obtain ⟨t2, a1, b1⟩ := kk T' (by rw [e1, hh, h0]) (Stand.forget X' (fun q h => (hL q h).elim))
  exact ⟨t2, st t2 a1, b1⟩
theorem g_rdR {r : Nat} {a : Array Value} (hr : va_Run p l e R s m args below meth c H locs cells slots 0 0 (F0 m pc ls st0) rest (vp_Sr r a) (fun _ => False)) (kk : W p l e R s m args below meth c H locs cells slots Q (F0 m (pc + 3) ls (.ref r :: rest))) : W p l e R s m args below meth c H locs cells slots Q (F0 m pc ls st0) := by
  intro T hT X
  obtain ⟨v, st₀, t, T', L, h0, X', hL, e1, e2, ⟨hv, hh⟩, st⟩ := hr T hT X
  cases hv
  obtain ⟨t2, a1, b1⟩ := kk T' (by rw [e1, hh, h0]) (Stand.forget X' (fun q h => (hL q h).elim))
  exact ⟨t2, st t2 a1, b1⟩
end
def rm_yJ0_coder_7d493 : Room := { frames := 0, cells := 0, slots := 0, locals := 0 }
def rm_yJ0_isLatin1_aae02 : Room := { frames := 0, cells := 0, slots := 0, locals := 0 }
def rm_yJ3_checkIndex_8e157 : Room := { frames := 0, cells := 0, slots := 0, locals := 0 }
def rm_yJ0_length_8abf5 : Room := { frames := 1, cells := 0, slots := 0, locals := 20 }
def rm_yJ0_checkIndex_df160 : Room := { frames := 1, cells := 0, slots := 0, locals := 22 }
def rm_yJ1_charAt_3b067 : Room := { frames := 2, cells := 0, slots := 0, locals := 43 }
def rm_yJ0_charAt_5068e : Room := { frames := 3, cells := 0, slots := 0, locals := 64 }

set_option maxHeartbeats 1000000 in
theorem c_yJ0_coder_7d493 (l : Launch) (G : gG) (w : Nat) (hw : w < 13) : gStr l yJ0_coder_7d493 cJ0_coder_7d493 1 (some .byte) rm_yJ0_coder_7d493 G [.ref (G.2.2.2.1 w)] (vp_Si (fun x => x = 0)) := by
  refine g_start [.ref (G.2.2.2.1 w)] (by decide +kernel) (Nat.le_of_ble_eq_true rfl) ?_
  intro p e s m below meth c ls B hX hl
  obtain ⟨C, hr, hlk⟩ := B
  have hx := C.1
  have hb := C.2.1
  have hS : va_S (fun q => G.2.2.1 ≤ q) s.heap s.heap [] := va_S.rf
  have hl : lv_has ls 1 [(0, .ref (G.2.2.2.1 w))] := hl
  refine va_gets hx hb hX.2.2.2.2.2.1 hS C.2.2.2.1 (C.2.2.2.2 _ fs_RJ0_38) (fun _ h => h) dJ0_coder_7d493_0 ?_
  refine lv_if_eq (tgt := 13) hx hb dJ0_coder_7d493_3 (by decide) (fun c1 => ?_) (fun c1 => ?_)
  · exact absurd c1 (by decide)
  refine lv_aload_n hx hb dJ0_coder_7d493_6 rfl (lv_at hl 0 rfl) ?_
  refine vk_getf hx hb (hX.2.2.2.1.1 w hw).2.1 hS C.2.2.2.1 (C.2.2.2.2 _ fs_RJ0_15) (fun _ h => h) dJ0_coder_7d493_7 ?_
  refine lv_goto (tgt := 14) hx hb dJ0_coder_7d493_10 (by decide) ?_
  exact g_iret C hr hlk rfl rfl rfl rfl dJ0_coder_7d493_14
set_option maxHeartbeats 1000000 in
theorem c_yJ0_isLatin1_aae02 (l : Launch) (G : gG) (w : Nat) (hw : w < 13) : gStr l yJ0_isLatin1_aae02 cJ0_isLatin1_aae02 1 (some .boolean) rm_yJ0_isLatin1_aae02 G [.ref (G.2.2.2.1 w)] (vp_Si (fun x => x = 1)) := by
  refine g_start [.ref (G.2.2.2.1 w)] (by decide +kernel) (Nat.le_of_ble_eq_true rfl) ?_
  intro p e s m below meth c ls B hX hl
  obtain ⟨C, hr, hlk⟩ := B
  have hx := C.1
  have hb := C.2.1
  have hS : va_S (fun q => G.2.2.1 ≤ q) s.heap s.heap [] := va_S.rf
  have hl : lv_has ls 1 [(0, .ref (G.2.2.2.1 w))] := hl
  refine va_gets hx hb hX.2.2.2.2.2.1 hS C.2.2.2.1 (C.2.2.2.2 _ fs_RJ0_38) (fun _ h => h) dJ0_isLatin1_aae02_0 ?_
  refine lv_if_eq (tgt := 17) hx hb dJ0_isLatin1_aae02_3 (by decide) (fun c1 => ?_) (fun c1 => ?_)
  · exact absurd c1 (by decide)
  refine lv_aload_n hx hb dJ0_isLatin1_aae02_6 rfl (lv_at hl 0 rfl) ?_
  refine vk_getf hx hb (hX.2.2.2.1.1 w hw).2.1 hS C.2.2.2.1 (C.2.2.2.2 _ fs_RJ0_15) (fun _ h => h) dJ0_isLatin1_aae02_7 ?_
  refine lv_if_ne (tgt := 17) hx hb dJ0_isLatin1_aae02_10 (by decide) (fun c1 => ?_) (fun c1 => ?_)
  · exact absurd rfl c1
  refine lv_iconst (v := 1) hx hb dJ0_isLatin1_aae02_13 (by decide) ?_
  refine lv_goto (tgt := 18) hx hb dJ0_isLatin1_aae02_14 (by decide) ?_
  exact g_iret C hr hlk rfl rfl rfl rfl dJ0_isLatin1_aae02_18
set_option maxHeartbeats 1000000 in
theorem c_yJ0_length_8abf5 (l : Launch) (G : gG) (w : Nat) (hw : w < 13) : gStr l yJ0_length_8abf5 cJ0_length_8abf5 1 (some .int) rm_yJ0_length_8abf5 G [.ref (G.2.2.2.1 w)] (vp_Si (fun x => x = nI (tx_len.getD w 0))) := by
  refine g_start [.ref (G.2.2.2.1 w)] (by decide +kernel) (Nat.le_of_ble_eq_true rfl) ?_
  intro p e s m below meth c ls B hX hl
  obtain ⟨C, hr, hlk⟩ := B
  have hx := C.1
  have hb := C.2.1
  have hS : va_S (fun q => G.2.2.1 ≤ q) s.heap s.heap [] := va_S.rf
  have hl : lv_has ls 1 [(0, .ref (G.2.2.2.1 w))] := hl
  refine lv_aload_n hx hb dJ0_length_8abf5_0 rfl (lv_at hl 0 rfl) ?_
  refine vk_getf hx hb (hX.2.2.2.1.1 w hw).2.2.1 hS C.2.2.2.1 (C.2.2.2.2 _ fs_RJ0_9) (fun _ h => h) dJ0_length_8abf5_1 ?_
  refine va_tlen hx hb (hX.2.2.2.1.1 w hw).2.2.2 hS rfl dJ0_length_8abf5_4 ?_
  refine lv_aload_n hx hb dJ0_length_8abf5_5 rfl (lv_at hl 0 rfl) ?_
  refine g_rd (g_runT (As := []) (rest := [.int (nI (tx_len.getD w 0))]) kcode_yJ0_coder_7d493 kinst_yJ0_coder_7d493 ksel_yJ0_coder_7d493 ki_RJ0 kyd_yJ0_coder_7d493 lk_RJ0_335 C hX hS hw (c_yJ0_coder_7d493 l G w hw) ⟨rfl, rfl, by decide, by decide⟩ rfl hl.1 rfl (Nat.le_of_ble_eq_true rfl) ⟨Nat.zero_le _, Nat.zero_le _⟩ dJ0_length_8abf5_6) ?_
  refine g_ishr hx hb dJ0_length_8abf5_9 ?_
  exact g_iret C hr hlk rfl (tx_shr hw) rfl rfl dJ0_length_8abf5_10

set_option maxHeartbeats 1000000 in
theorem c_yJ3_checkIndex_8e157 (l : Launch) (k n : Nat) (hk : k < n) (hn : n < 2 ^ 31) (q : Value) (hq : q = .null ∨ ∃ t, q = .ref t) : gPure l yJ3_checkIndex_8e157 cJ3_checkIndex_8e157 3 (some .int) rm_yJ3_checkIndex_8e157 [.int (nI k), .int (nI n), q] (nI k) := by
  rcases hq with rfl | ⟨t, rfl⟩

  · refine g_start [.int (nI k), .int (nI n), .null] (by decide +kernel) (Nat.le_of_ble_eq_true rfl) ?_
    intro p e s m below meth c ls B _ hl
    obtain ⟨C, hr, hlk⟩ := B
    have hx := C.1
    have hb := C.2.1
    have hl : lv_has ls 3 [(0, .int (nI k)), (1, .int (nI n)), (2, .null)] := hl
    refine lv_iload_n hx hb dJ3_checkIndex_8e157_0 rfl (lv_at hl 0 rfl) ?_
    refine lv_if_lt (tgt := 9) hx hb dJ3_checkIndex_8e157_1 (by decide) (fun c1 => ?_) (fun c1 => ?_)
    · exact absurd c1 (nI_pos (by omega))
    refine lv_iload_n hx hb dJ3_checkIndex_8e157_4 rfl (lv_at hl 0 rfl) ?_
    refine lv_iload_n hx hb dJ3_checkIndex_8e157_5 rfl (lv_at hl 1 rfl) ?_
    refine lv_icmp_lt (tgt := 16) hx hb dJ3_checkIndex_8e157_6 (by decide) (fun c2 => ?_) (fun c2 => ?_)
    · refine lv_iload_n hx hb dJ3_checkIndex_8e157_16 rfl (lv_at hl 0 rfl) ?_
      exact g_iret C hr hlk rfl rfl rfl rfl dJ3_checkIndex_8e157_17
    · exact absurd (nI_lt hk hn) c2
  · refine g_start [.int (nI k), .int (nI n), .ref t] (by decide +kernel) (Nat.le_of_ble_eq_true rfl) ?_
    intro p e s m below meth c ls B _ hl
    obtain ⟨C, hr, hlk⟩ := B
    have hx := C.1
    have hb := C.2.1
    have hl : lv_has ls 3 [(0, .int (nI k)), (1, .int (nI n)), (2, .ref t)] := hl
    refine lv_iload_n hx hb dJ3_checkIndex_8e157_0 rfl (lv_at hl 0 rfl) ?_
    refine lv_if_lt (tgt := 9) hx hb dJ3_checkIndex_8e157_1 (by decide) (fun c1 => ?_) (fun c1 => ?_)
    · exact absurd c1 (nI_pos (by omega))
    refine lv_iload_n hx hb dJ3_checkIndex_8e157_4 rfl (lv_at hl 0 rfl) ?_
    refine lv_iload_n hx hb dJ3_checkIndex_8e157_5 rfl (lv_at hl 1 rfl) ?_
    refine lv_icmp_lt (tgt := 16) hx hb dJ3_checkIndex_8e157_6 (by decide) (fun c2 => ?_) (fun c2 => ?_)
    · refine lv_iload_n hx hb dJ3_checkIndex_8e157_16 rfl (lv_at hl 0 rfl) ?_
      exact g_iret C hr hlk rfl rfl rfl rfl dJ3_checkIndex_8e157_17
    · exact absurd (nI_lt hk hn) c2
set_option maxHeartbeats 1000000 in
theorem c_yJ0_checkIndex_df160 (l : Launch) (G : gG) (k n : Nat) (hk : k < n) (hn : n < 2 ^ 31) : gStr l yJ0_checkIndex_df160 cJ0_checkIndex_df160 2 none rm_yJ0_checkIndex_df160 G [.int (nI k), .int (nI n)] vp_Sz := by
  refine g_start [.int (nI k), .int (nI n)] (by decide +kernel) (Nat.le_of_ble_eq_true rfl) ?_
  intro p e s m below meth c ls B hX hl
  obtain ⟨C, hr, hlk⟩ := B
  have hx := C.1
  have hb := C.2.1
  have hS : va_S (fun q => G.2.2.1 ≤ q) s.heap s.heap [] := va_S.rf
  have hl : lv_has ls 2 [(0, .int (nI k)), (1, .int (nI n))] := hl
  refine lv_iload_n hx hb dJ0_checkIndex_df160_0 rfl (lv_at hl 0 rfl) ?_
  refine lv_iload_n hx hb dJ0_checkIndex_df160_1 rfl (lv_at hl 1 rfl) ?_
  have key : ∀ q : Value, (q = .null ∨ ∃ t, q = .ref t) → W p l e rm_yJ0_checkIndex_df160 s m ([.int (nI k), .int (nI n)] : List Value).toArray below meth c s.heap [] 0 0 (MQ below vp_Sz ([.int (nI k), .int (nI n)] : List Value).toArray s 0 0 (fun _ => False)) (F0 m 5 ls [q, .int (nI n), .int (nI k)]) := by
    intro q hq
    refine g_rd (g_runS (As := [.int (nI k), .int (nI n), q]) (rest := []) ky_yJ3_checkIndex_8e157 lk_RJ0_1059 C (c_yJ3_checkIndex_8e157 l k n hk hn q hq) ⟨rfl, rfl, by decide, by decide⟩ rfl hl.1 rfl (Nat.le_of_ble_eq_true rfl) ⟨Nat.zero_le _, Nat.zero_le _⟩ dJ0_checkIndex_df160_5) ?_
    refine lv_pop hx hb dJ0_checkIndex_df160_8 rfl ?_
    exact W.vret hx hb hr (fun t ht hW => ⟨rfl, ht⟩) (fun q hq => by cases hq) dJ0_checkIndex_df160_9 hlk
  rcases hX.2.2.2.2.2.2 with h | ⟨t, h⟩
  · exact va_gets hx hb h hS C.2.2.2.1 (C.2.2.2.2 _ fs_RJ0_1053) (fun _ h => h) dJ0_checkIndex_df160_2 (key _ (Or.inl rfl))
  · exact va_gets hx hb h hS C.2.2.2.1 (C.2.2.2.2 _ fs_RJ0_1053) (fun _ h => h) dJ0_checkIndex_df160_2 (key _ (Or.inr ⟨t, rfl⟩))
set_option maxHeartbeats 1000000 in
theorem c_yJ1_charAt_3b067 (l : Launch) (G : gG) (w k : Nat) (hw : w < 13) (hk : k < tx_len.getD w 0) : gStr l yJ1_charAt_3b067 cJ1_charAt_3b067 2 (some .char) rm_yJ1_charAt_3b067 G [.ref (G.2.2.2.2 w), .int (nI k)] (vp_Si (fun x => x = tx_c w k)) := by
  refine g_start [.ref (G.2.2.2.2 w), .int (nI k)] (by decide +kernel) (Nat.le_of_ble_eq_true rfl) ?_
  intro p e s m below meth c ls B hX hl
  obtain ⟨C, hr, hlk⟩ := B
  have hx := C.1
  have hb := C.2.1
  have hS : va_S (fun q => G.2.2.1 ≤ q) s.heap s.heap [] := va_S.rf
  have hl : lv_has ls 2 [(0, .ref (G.2.2.2.2 w)), (1, .int (nI k))] := hl
  have h7 := tx_len7 hw
  refine lv_iload_n hx hb dJ1_charAt_3b067_0 rfl (lv_at hl 1 rfl) ?_
  refine lv_aload_n hx hb dJ1_charAt_3b067_1 rfl (lv_at hl 0 rfl) ?_
  refine va_tlen hx hb (hX.2.2.2.1.1 w hw).2.2.2 hS (v := nI (tx_len.getD w 0)) rfl dJ1_charAt_3b067_2 ?_
  refine g_rdV (g_runX (As := [.int (nI k), .int (nI (tx_len.getD w 0))]) (rest := []) ky_yJ0_checkIndex_df160 lk_RJ1_9 C hX hS (c_yJ0_checkIndex_df160 l G k _ hk (by omega)) ⟨rfl, rfl, by decide, by decide⟩ rfl hl.1 rfl (Nat.le_of_ble_eq_true rfl) ⟨Nat.zero_le _, Nat.zero_le _⟩ dJ1_charAt_3b067_3) ?_
  refine lv_aload_n hx hb dJ1_charAt_3b067_6 rfl (lv_at hl 0 rfl) ?_
  refine lv_iload_n hx hb dJ1_charAt_3b067_7 rfl (lv_at hl 1 rfl) ?_
  refine va_tb hx hb (hX.2.2.2.1.1 w hw).2.2.2 hS (vp_in_nI hk (by omega)) (v := .int (tx_c w k)) (by rw [nI_clamp (by omega)]; rfl) dJ1_charAt_3b067_8 ?_
  refine lv_sipush (v := 255) hx hb dJ1_charAt_3b067_9 (by decide) ?_
  refine lv_iand hx hb dJ1_charAt_3b067_12 ?_
  refine lv_i2c hx hb dJ1_charAt_3b067_13 rfl ?_
  exact g_iret C hr hlk (pk_nc _) (tx_ch hw hk) rfl rfl dJ1_charAt_3b067_14
set_option maxHeartbeats 1000000 in
theorem c_yJ0_charAt_5068e (l : Launch) (G : gG) (w k : Nat) (hw : w < 13) (hk : k < tx_len.getD w 0) : gStr l yJ0_charAt_5068e cJ0_charAt_5068e 2 (some .char) rm_yJ0_charAt_5068e G [.ref (G.2.2.2.1 w), .int (nI k)] (vp_Si (fun x => x = tx_c w k)) := by
  refine g_start [.ref (G.2.2.2.1 w), .int (nI k)] (by decide +kernel) (Nat.le_of_ble_eq_true rfl) ?_
  intro p e s m below meth c ls B hX hl
  obtain ⟨C, hr, hlk⟩ := B
  have hx := C.1
  have hb := C.2.1
  have hS : va_S (fun q => G.2.2.1 ≤ q) s.heap s.heap [] := va_S.rf
  have hl : lv_has ls 2 [(0, .ref (G.2.2.2.1 w)), (1, .int (nI k))] := hl
  refine lv_aload_n hx hb dJ0_charAt_5068e_0 rfl (lv_at hl 0 rfl) ?_
  refine g_rd (g_runT (As := []) (rest := []) kcode_yJ0_isLatin1_aae02 kinst_yJ0_isLatin1_aae02 ksel_yJ0_isLatin1_aae02 ki_RJ0 kyd_yJ0_isLatin1_aae02 lk_RJ0_492 C hX hS hw (c_yJ0_isLatin1_aae02 l G w hw) ⟨rfl, rfl, by decide, by decide⟩ rfl hl.1 rfl (Nat.le_of_ble_eq_true rfl) ⟨Nat.zero_le _, Nat.zero_le _⟩ dJ0_charAt_5068e_1) ?_
  refine lv_if_eq (tgt := 16) hx hb dJ0_charAt_5068e_4 (by decide) (fun c1 => ?_) (fun c1 => ?_)
  · exact absurd c1 (by decide)
  refine lv_aload_n hx hb dJ0_charAt_5068e_7 rfl (lv_at hl 0 rfl) ?_
  refine vk_getf hx hb (hX.2.2.2.1.1 w hw).2.2.1 hS C.2.2.2.1 (C.2.2.2.2 _ fs_RJ0_9) (fun _ h => h) dJ0_charAt_5068e_8 ?_
  refine lv_iload_n hx hb dJ0_charAt_5068e_11 rfl (lv_at hl 1 rfl) ?_
  refine g_rd (g_runX (As := [.ref (G.2.2.2.2 w), .int (nI k)]) (rest := []) ky_yJ1_charAt_3b067 lk_RJ0_495 C hX hS (c_yJ1_charAt_3b067 l G w k hw hk) ⟨rfl, rfl, by decide, by decide⟩ rfl hl.1 rfl (Nat.le_of_ble_eq_true rfl) ⟨Nat.zero_le _, Nat.zero_le _⟩ dJ0_charAt_5068e_12) ?_
  exact g_iret C hr hlk (tx_cn hw hk) rfl rfl rfl dJ0_charAt_5068e_15

def rm_yX5_spellingOf : Room := { frames := 0, cells := 0, slots := 0, locals := 0 }
set_option maxHeartbeats 2000000 in
theorem c_yX5_spellingOf (l : Launch) (G : gG) (w : Nat) (hw : w < 13) : gStr l yX5_spellingOf cX5_spellingOf 1 (some (.object "java/lang/String")) rm_yX5_spellingOf G [.int (nI w)] (vp_Sr (G.2.2.2.1 w)) := by
  refine g_start [.int (nI w)] (by decide +kernel) (Nat.le_of_ble_eq_true rfl) ?_
  intro p e s m below meth c ls B hX hl
  obtain ⟨C, hr, hlk⟩ := B
  have hx := C.1
  have hb := C.2.1
  have hS : va_S (fun q => G.2.2.1 ≤ q) s.heap s.heap [] := va_S.rf
  have hl : lv_has ls 1 [(0, .int (nI w))] := hl

  obtain rfl | rfl | rfl | rfl | rfl | rfl | rfl | rfl | rfl | rfl | rfl | rfl | rfl : w = 0 ∨ w = 1 ∨ w = 2 ∨ w = 3 ∨ w = 4 ∨ w = 5 ∨ w = 6 ∨ w = 7 ∨ w = 8 ∨ w = 9 ∨ w = 10 ∨ w = 11 ∨ w = 12 := by omega
  · refine lv_iload_n hx hb dX5_spellingOf_0 rfl (lv_at hl 0 rfl) ?_
    refine lv_as (y := 0) rfl ?_
    refine lv_tableOut (tgt := 100) hx hb dX5_spellingOf_1 (by decide) (by decide) ?_
    have hz : vk_R "LeftGloves$Tokens" 94 "glove" (G.2.2.2.1 0) s := hX.2.2.2.2.1 0 (by decide)
    refine va_ldcS hx hb C.2.2.2.1 hz dX5_spellingOf_100 ?_
    exact W.aret hx hb hr (Or.inl ⟨_, rfl⟩) (Or.inr ⟨_, rfl⟩) (fun t ht hW => ⟨rfl, ht⟩) (fun q hq => by cases hq) dX5_spellingOf_102 hlk
  · refine lv_iload_n hx hb dX5_spellingOf_0 rfl (lv_at hl 0 rfl) ?_
    refine lv_as (y := 1) rfl ?_
    refine lv_tableIn (tgt := 64) (off := 63) hx hb dX5_spellingOf_1 (by decide) (by decide) (by decide) (by decide) ?_
    have hz : vk_R "LeftGloves$Tokens" 70 "kidskin" (G.2.2.2.1 1) s := hX.2.2.2.2.1 1 (by decide)
    refine va_ldcS hx hb C.2.2.2.1 hz dX5_spellingOf_64 ?_
    exact W.aret hx hb hr (Or.inl ⟨_, rfl⟩) (Or.inr ⟨_, rfl⟩) (fun t ht hW => ⟨rfl, ht⟩) (fun q hq => by cases hq) dX5_spellingOf_66 hlk
  · refine lv_iload_n hx hb dX5_spellingOf_0 rfl (lv_at hl 0 rfl) ?_
    refine lv_as (y := 2) rfl ?_
    refine lv_tableIn (tgt := 67) (off := 66) hx hb dX5_spellingOf_1 (by decide) (by decide) (by decide) (by decide) ?_
    have hz : vk_R "LeftGloves$Tokens" 72 "mitten" (G.2.2.2.1 2) s := hX.2.2.2.2.1 2 (by decide)
    refine va_ldcS hx hb C.2.2.2.1 hz dX5_spellingOf_67 ?_
    exact W.aret hx hb hr (Or.inl ⟨_, rfl⟩) (Or.inr ⟨_, rfl⟩) (fun t ht hW => ⟨rfl, ht⟩) (fun q hq => by cases hq) dX5_spellingOf_69 hlk
  · refine lv_iload_n hx hb dX5_spellingOf_0 rfl (lv_at hl 0 rfl) ?_
    refine lv_as (y := 3) rfl ?_
    refine lv_tableIn (tgt := 70) (off := 69) hx hb dX5_spellingOf_1 (by decide) (by decide) (by decide) (by decide) ?_
    have hz : vk_R "LeftGloves$Tokens" 74 "lady" (G.2.2.2.1 3) s := hX.2.2.2.2.1 3 (by decide)
    refine va_ldcS hx hb C.2.2.2.1 hz dX5_spellingOf_70 ?_
    exact W.aret hx hb hr (Or.inl ⟨_, rfl⟩) (Or.inr ⟨_, rfl⟩) (fun t ht hW => ⟨rfl, ht⟩) (fun q hq => by cases hq) dX5_spellingOf_72 hlk
  · refine lv_iload_n hx hb dX5_spellingOf_0 rfl (lv_at hl 0 rfl) ?_
    refine lv_as (y := 4) rfl ?_
    refine lv_tableIn (tgt := 73) (off := 72) hx hb dX5_spellingOf_1 (by decide) (by decide) (by decide) (by decide) ?_
    have hz : vk_R "LeftGloves$Tokens" 76 "burnt" (G.2.2.2.1 4) s := hX.2.2.2.2.1 4 (by decide)
    refine va_ldcS hx hb C.2.2.2.1 hz dX5_spellingOf_73 ?_
    exact W.aret hx hb hr (Or.inl ⟨_, rfl⟩) (Or.inr ⟨_, rfl⟩) (fun t ht hW => ⟨rfl, ht⟩) (fun q hq => by cases hq) dX5_spellingOf_75 hlk
  · refine lv_iload_n hx hb dX5_spellingOf_0 rfl (lv_at hl 0 rfl) ?_
    refine lv_as (y := 5) rfl ?_
    refine lv_tableIn (tgt := 76) (off := 75) hx hb dX5_spellingOf_1 (by decide) (by decide) (by decide) (by decide) ?_
    have hz : vk_R "LeftGloves$Tokens" 78 "stiff" (G.2.2.2.1 5) s := hX.2.2.2.2.1 5 (by decide)
    refine va_ldcS hx hb C.2.2.2.1 hz dX5_spellingOf_76 ?_
    exact W.aret hx hb hr (Or.inl ⟨_, rfl⟩) (Or.inr ⟨_, rfl⟩) (fun t ht hW => ⟨rfl, ht⟩) (fun q hq => by cases hq) dX5_spellingOf_78 hlk
  · refine lv_iload_n hx hb dX5_spellingOf_0 rfl (lv_at hl 0 rfl) ?_
    refine lv_as (y := 6) rfl ?_
    refine lv_tableIn (tgt := 79) (off := 78) hx hb dX5_spellingOf_1 (by decide) (by decide) (by decide) (by decide) ?_
    have hz : vk_R "LeftGloves$Tokens" 80 "double" (G.2.2.2.1 6) s := hX.2.2.2.2.1 6 (by decide)
    refine va_ldcS hx hb C.2.2.2.1 hz dX5_spellingOf_79 ?_
    exact W.aret hx hb hr (Or.inl ⟨_, rfl⟩) (Or.inr ⟨_, rfl⟩) (fun t ht hW => ⟨rfl, ht⟩) (fun q hq => by cases hq) dX5_spellingOf_81 hlk
  · refine lv_iload_n hx hb dX5_spellingOf_0 rfl (lv_at hl 0 rfl) ?_
    refine lv_as (y := 7) rfl ?_
    refine lv_tableIn (tgt := 82) (off := 81) hx hb dX5_spellingOf_1 (by decide) (by decide) (by decide) (by decide) ?_
    have hz : vk_R "LeftGloves$Tokens" 82 "in" (G.2.2.2.1 7) s := hX.2.2.2.2.1 7 (by decide)
    refine va_ldcS hx hb C.2.2.2.1 hz dX5_spellingOf_82 ?_
    exact W.aret hx hb hr (Or.inl ⟨_, rfl⟩) (Or.inr ⟨_, rfl⟩) (fun t ht hW => ⟨rfl, ht⟩) (fun q hq => by cases hq) dX5_spellingOf_84 hlk
  · refine lv_iload_n hx hb dX5_spellingOf_0 rfl (lv_at hl 0 rfl) ?_
    refine lv_as (y := 8) rfl ?_
    refine lv_tableIn (tgt := 85) (off := 84) hx hb dX5_spellingOf_1 (by decide) (by decide) (by decide) (by decide) ?_
    have hz : vk_R "LeftGloves$Tokens" 84 "open" (G.2.2.2.1 8) s := hX.2.2.2.2.1 8 (by decide)
    refine va_ldcS hx hb C.2.2.2.1 hz dX5_spellingOf_85 ?_
    exact W.aret hx hb hr (Or.inl ⟨_, rfl⟩) (Or.inr ⟨_, rfl⟩) (fun t ht hW => ⟨rfl, ht⟩) (fun q hq => by cases hq) dX5_spellingOf_87 hlk
  · refine lv_iload_n hx hb dX5_spellingOf_0 rfl (lv_at hl 0 rfl) ?_
    refine lv_as (y := 9) rfl ?_
    refine lv_tableIn (tgt := 88) (off := 87) hx hb dX5_spellingOf_1 (by decide) (by decide) (by decide) (by decide) ?_
    have hz : vk_R "LeftGloves$Tokens" 86 "knows" (G.2.2.2.1 9) s := hX.2.2.2.2.1 9 (by decide)
    refine va_ldcS hx hb C.2.2.2.1 hz dX5_spellingOf_88 ?_
    exact W.aret hx hb hr (Or.inl ⟨_, rfl⟩) (Or.inr ⟨_, rfl⟩) (fun t ht hW => ⟨rfl, ht⟩) (fun q hq => by cases hq) dX5_spellingOf_90 hlk
  · refine lv_iload_n hx hb dX5_spellingOf_0 rfl (lv_at hl 0 rfl) ?_
    refine lv_as (y := 10) rfl ?_
    refine lv_tableIn (tgt := 91) (off := 90) hx hb dX5_spellingOf_1 (by decide) (by decide) (by decide) (by decide) ?_
    have hz : vk_R "LeftGloves$Tokens" 88 "lies" (G.2.2.2.1 10) s := hX.2.2.2.2.1 10 (by decide)
    refine va_ldcS hx hb C.2.2.2.1 hz dX5_spellingOf_91 ?_
    exact W.aret hx hb hr (Or.inl ⟨_, rfl⟩) (Or.inr ⟨_, rfl⟩) (fun t ht hW => ⟨rfl, ht⟩) (fun q hq => by cases hq) dX5_spellingOf_93 hlk
  · refine lv_iload_n hx hb dX5_spellingOf_0 rfl (lv_at hl 0 rfl) ?_
    refine lv_as (y := 11) rfl ?_
    refine lv_tableIn (tgt := 94) (off := 93) hx hb dX5_spellingOf_1 (by decide) (by decide) (by decide) (by decide) ?_
    have hz : vk_R "LeftGloves$Tokens" 90 "said" (G.2.2.2.1 11) s := hX.2.2.2.2.1 11 (by decide)
    refine va_ldcS hx hb C.2.2.2.1 hz dX5_spellingOf_94 ?_
    exact W.aret hx hb hr (Or.inl ⟨_, rfl⟩) (Or.inr ⟨_, rfl⟩) (fun t ht hW => ⟨rfl, ht⟩) (fun q hq => by cases hq) dX5_spellingOf_96 hlk
  · refine lv_iload_n hx hb dX5_spellingOf_0 rfl (lv_at hl 0 rfl) ?_
    refine lv_as (y := 12) rfl ?_
    refine lv_tableIn (tgt := 97) (off := 96) hx hb dX5_spellingOf_1 (by decide) (by decide) (by decide) (by decide) ?_
    have hz : vk_R "LeftGloves$Tokens" 92 "hand" (G.2.2.2.1 12) s := hX.2.2.2.2.1 12 (by decide)
    refine va_ldcS hx hb C.2.2.2.1 hz dX5_spellingOf_97 ?_
    exact W.aret hx hb hr (Or.inl ⟨_, rfl⟩) (Or.inr ⟨_, rfl⟩) (fun t ht hW => ⟨rfl, ht⟩) (fun q hq => by cases hq) dX5_spellingOf_99 hlk

def x_spells3_L15 (σ : gM) (w : Nat) (frm : Int32) (to : Int32) : Nat → Nat → Int32
  | 0, i => 1
  | n15 + 1, i => if (x_byteAt3 σ (frm + (nI i))) = (tx_c w i) then (x_spells3_L15 σ w frm to n15 (i + 1)) else 0
def x_spells3 (σ : gM) (w : Nat) (frm : Int32) (to : Int32) : Int32 := if (nI (tx_len.getD w 0)) = (to - frm) then (x_spells3_L15 σ w frm to (tx_len.getD w 0) 0) else 0
def rm_yX3_spells : Room := { frames := 4, cells := 0, slots := 0, locals := 85 }
set_option maxHeartbeats 4000000 in
set_option maxRecDepth 100000 in
theorem c_yX3_spells (l : Launch) (G : gG) (ad : Nat → Nat) (hI : gI G.2.2.1 2 ad) (σ : gM) (w : Nat) (frm : Int32) (to : Int32) (L : Nat) (hL : L ≤ 120) (hlen : σ 0 0 = nI L) (hw : w < 13) : gRead l yX3_spells cX3_spells 5 (some .boolean) rm_yX3_spells G [.ref (ad 0), .ref (G.2.2.2.1 w), .int frm, .int to] 2 ad (gE (shP G ad) σ) (x_spells3 σ w frm to) := by
  refine g_start [.ref (ad 0), .ref (G.2.2.2.1 w), .int frm, .int to] (by decide +kernel) (Nat.le_of_ble_eq_true rfl) ?_
  intro p e s m below meth c ls B Z hl
  obtain ⟨C, hr, hlk⟩ := B
  have hx := C.1
  have hb := C.2.1
  obtain ⟨hX, hP⟩ := Z
  have hS : va_S (gA 2 ad) s.heap s.heap [] := va_S.rf
  have hl : lv_has ls 5 [(0, .ref (ad 0)), (1, .ref (G.2.2.2.1 w)), (2, .int frm), (3, .int to)] := hl
  have h7 := tx_len7 hw
  refine lv_aload_n hx hb dX3_spells_0 rfl (lv_at hl 1 rfl) ?_
  refine g_rd (g_runT (As := []) (rest := []) kcode_yJ0_length_8abf5 kinst_yJ0_length_8abf5 ksel_yJ0_length_8abf5 ki_RJ0 kyd_yJ0_length_8abf5 lk_RX3_23 C hX (gS_b0 hI hS) hw (c_yJ0_length_8abf5 l G w hw) ⟨rfl, rfl, by decide, by decide⟩ rfl hl.1 rfl (Nat.le_of_ble_eq_true rfl) ⟨Nat.zero_le _, Nat.zero_le _⟩ dX3_spells_1) ?_
  refine lv_iload_n hx hb dX3_spells_4 rfl (lv_at hl 3 rfl) ?_
  refine lv_iload_n hx hb dX3_spells_5 rfl (lv_at hl 2 rfl) ?_
  refine lv_isub hx hb dX3_spells_6 ?_
  refine lv_icmp_eq (tgt := 12) hx hb dX3_spells_7 (by decide) (fun c1 => ?_) (fun c1 => ?_)
  · refine lv_iconst (v := 0) hx hb dX3_spells_12 (by decide) ?_
    refine lv_istore (lv' := [(4, .int 0), (0, .ref (ad 0)), (1, .ref (G.2.2.2.1 w)), (2, .int frm), (3, .int to)]) hx hb dX3_spells_13 hl (by decide) rfl (fun ls hl => ?_)
    suffices loop15 : ∀ (n15 : Nat) (i : Nat) (ls : Array Slot), (i + n15 = (tx_len.getD w 0)) → x_spells3 σ w frm to = (x_spells3_L15 σ w frm to n15 i) → lv_has ls 5 [(4, .int (nI i)), (0, .ref (ad 0)), (1, .ref (G.2.2.2.1 w)), (2, .int frm), (3, .int to)] → W p l e rm_yX3_spells s m ([.ref (ad 0), .ref (G.2.2.2.1 w), .int frm, .int to] : List Value).toArray below meth c s.heap [] 0 0 (MQ below (vp_Si (fun x => x = x_spells3 σ w frm to)) ([.ref (ad 0), .ref (G.2.2.2.1 w), .int frm, .int to] : List Value).toArray s 0 0 (fun _ => False)) (F0 m 15 ls []) by
      exact loop15 (tx_len.getD w 0) 0 _ (by omega) (by rw [x_spells3, if_pos c1]) (lv_sub hl [0, 1, 2, 3, 4] rfl)
    intro n15
    induction n15 with
    | zero =>
      intro i ls hi15 hres15 hl
      refine lv_iload hx hb dX3_spells_15 (lv_at hl 0 rfl) ?_
      refine lv_aload_n hx hb dX3_spells_17 rfl (lv_at hl 2 rfl) ?_
      refine g_rd (g_runT (As := []) (rest := [.int (nI i)]) kcode_yJ0_length_8abf5 kinst_yJ0_length_8abf5 ksel_yJ0_length_8abf5 ki_RJ0 kyd_yJ0_length_8abf5 lk_RX3_23 C hX (gS_b0 hI hS) hw (c_yJ0_length_8abf5 l G w hw) ⟨rfl, rfl, by decide, by decide⟩ rfl hl.1 rfl (Nat.le_of_ble_eq_true rfl) ⟨Nat.zero_le _, Nat.zero_le _⟩ dX3_spells_18) ?_
      refine lv_icmp_ge (tgt := 49) hx hb dX3_spells_21 (by decide) (fun c2 => ?_) (fun c2 => ?_)
      · refine lv_iconst (v := 1) hx hb dX3_spells_49 (by decide) ?_
        exact g_iret C hr hlk rfl (by rw [hres15, x_spells3_L15]) rfl rfl dX3_spells_50
      · exact absurd (show nI ((tx_len.getD w 0)) ≤ nI i from nI_le (by omega) (by omega)) c2
    | succ n15 ih15 =>
      intro i ls hi15 hres15 hl
      refine lv_iload hx hb dX3_spells_15 (lv_at hl 0 rfl) ?_
      refine lv_aload_n hx hb dX3_spells_17 rfl (lv_at hl 2 rfl) ?_
      refine g_rd (g_runT (As := []) (rest := [.int (nI i)]) kcode_yJ0_length_8abf5 kinst_yJ0_length_8abf5 ksel_yJ0_length_8abf5 ki_RJ0 kyd_yJ0_length_8abf5 lk_RX3_23 C hX (gS_b0 hI hS) hw (c_yJ0_length_8abf5 l G w hw) ⟨rfl, rfl, by decide, by decide⟩ rfl hl.1 rfl (Nat.le_of_ble_eq_true rfl) ⟨Nat.zero_le _, Nat.zero_le _⟩ dX3_spells_18) ?_
      refine lv_icmp_ge (tgt := 49) hx hb dX3_spells_21 (by decide) (fun c3 => ?_) (fun c3 => ?_)
      · exact absurd (show nI ((tx_len.getD w 0)) ≤ nI i from c3) (nI_ge (by omega) (by omega))
      · refine lv_aload_n hx hb dX3_spells_24 rfl (lv_at hl 1 rfl) ?_
        refine lv_iload_n hx hb dX3_spells_25 rfl (lv_at hl 3 rfl) ?_
        refine lv_iload hx hb dX3_spells_26 (lv_at hl 0 rfl) ?_
        refine lv_iadd hx hb dX3_spells_28 ?_
        refine g_rd (g_runV (As := [.int (frm + (nI i))]) (rest := []) ky_yX3_byteAt lk_RX3_28 C hX (gS_b0 hI hS) hP 0 (c_yX3_byteAt l G ad hI σ (frm + (nI i)) L hL hlen) (by decide) (shP_0 G ad _) ⟨rfl, rfl, by decide, by decide⟩ rfl hl.1 rfl (Nat.le_of_ble_eq_true rfl) ⟨Nat.zero_le _, Nat.zero_le _⟩ dX3_spells_29) ?_
        refine lv_aload_n hx hb dX3_spells_32 rfl (lv_at hl 2 rfl) ?_
        refine lv_iload hx hb dX3_spells_33 (lv_at hl 0 rfl) ?_
        refine g_rd (g_runT (As := [.int (nI i)]) (rest := [.int (x_byteAt3 σ (frm + (nI i)))]) kcode_yJ0_charAt_5068e kinst_yJ0_charAt_5068e ksel_yJ0_charAt_5068e ki_RJ0 kyd_yJ0_charAt_5068e lk_RX3_32 C hX (gS_b0 hI hS) hw (c_yJ0_charAt_5068e l G w i hw (by omega)) ⟨rfl, rfl, by decide, by decide⟩ rfl hl.1 rfl (Nat.le_of_ble_eq_true rfl) ⟨Nat.zero_le _, Nat.zero_le _⟩ dX3_spells_35) ?_
        refine lv_icmp_eq (tgt := 43) hx hb dX3_spells_38 (by decide) (fun c4 => ?_) (fun c4 => ?_)
        · refine lv_iinc (v := (nI (i + 1))) (lv' := [(4, .int (nI (i + 1))), (0, .ref (ad 0)), (1, .ref (G.2.2.2.1 w)), (2, .int frm), (3, .int to)]) hx hb dX3_spells_43 hl (k := 0) rfl (by exact nI_1 _) (by decide) rfl (fun ls hl => ?_)
          refine lv_goto (tgt := 15) hx hb dX3_spells_46 (by decide) ?_
          exact ih15 (i + 1) _ (by omega) (by rw [hres15, x_spells3_L15, if_pos c4]) (lv_sub hl [0, 1, 2, 3, 4] rfl)
        · refine lv_iconst (v := 0) hx hb dX3_spells_41 (by decide) ?_
          exact g_iret C hr hlk rfl (by rw [hres15, x_spells3_L15, if_neg c4]) rfl rfl dX3_spells_42
  · refine lv_iconst (v := 0) hx hb dX3_spells_10 (by decide) ?_
    exact g_iret C hr hlk rfl (by rw [x_spells3, if_neg c1]) rfl rfl dX3_spells_11
