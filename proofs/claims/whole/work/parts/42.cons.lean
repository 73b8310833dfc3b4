
def zr : Nat → Int32 := fun _ => 0
def sC0 : gM := fun k => if k = 8 then upd zr 2 1 else if k = 9 then (fun j => x_sayingOf (nI j) (nI j) 5) else if k = 10 then (fun _ => -1) else zr
def sX0 : gM := fun k => if k < 12 then sC0 k else if k < 24 then sC0 (k - 12) else if k < 36 then sC0 (k - 24) else zr
def sM0 : gM := fun k => if k = 1 then (fun j => if j = 2 then 1 else if j < 3 then 0 else if j < 9 then 1000 * nI (j - 3) + 10 * nI (j - 3) + 5 else 0) else zr
def FX1 (cd : Nat → Nat) (k : Nat) : va_E := eG zr
def FX2 (G : gG) (cd : Nat → Nat) (k : Nat) : va_E := shS G cd k zr
def FX3 (G : gG) (cd : Nat → Nat) (k : Nat) : va_E := shP G cd k zr
def FX5 (G : gG) (cd : Nat → Nat) (k : Nat) : va_E := shK G cd k zr
def FX4 (G : gG) (cd : Nat → Nat) (k : Nat) : va_E := if k = 0 then .inr (4, [.ref (cd 1), .int 0, .int 0]) else shK G (fun i => cd (1 + i)) (k - 1) zr
def FX0 (G : gG) (cd : Nat → Nat) (k : Nat) : va_E := shC G cd k (sC0 k)
def FX6 (G : gG) (cd : Nat → Nat) (k : Nat) : va_E := shX G cd k (sX0 k)
def FX7 (G : gG) (cd : Nat → Nat) (k : Nat) : va_E := shM G cd k (sM0 k)
theorem pi_inj {l : List Nat} {n : Nat} (h : ∀ i, i < n → ∀ j, j < n → l.getD i 0 = l.getD j 0 → i = j) : ∀ i j, i < n → j < n → l.getD i 0 = l.getD j 0 → i = j := fun i j hi hj => h i hi j hj
theorem eI_cong {D : va_G} {cA : ClassId} {N : Nat} {f g : Nat → Int32} (h : ∀ j, j < N → f j = g j) : shEq D (.inl (cA, N, .inl f)) (.inl (cA, N, .inl g)) := by
  have e : arrV cA N (fun j => .int (f j)) = arrV cA N (fun j => .int (g j)) := by
    unfold arrV
    congr 2
    funext j
    show Value.int (f j.val) = Value.int (g j.val)
    rw [h j.val j.isLt]
  intro a H
  show H[a]? = some (arrV cA N (fun j => .int (f j))) ↔ H[a]? = some (arrV cA N (fun j => .int (g j)))
  rw [e]
theorem eQ_cong {D : va_G} {cA : ClassId} {N : Nat} {f g : Nat → Option Nat} (h : ∀ j, j < N → f j = g j) : shEq D (.inl (cA, N, .inr (.inr (.inr (.inr f))))) (.inl (cA, N, .inr (.inr (.inr (.inr g))))) := by
  have e : arrV cA N (fun j => va_rf (f j)) = arrV cA N (fun j => va_rf (g j)) := by
    unfold arrV
    congr 2
    funext j
    show va_rf (f j.val) = va_rf (g j.val)
    rw [h j.val j.isLt]
  intro a H
  show H[a]? = some (arrV cA N (fun j => va_rf (f j))) ↔ H[a]? = some (arrV cA N (fun j => va_rf (g j)))
  rw [e]

def rm_yX1_init : Room := { frames := 1, cells := 0, slots := 0, locals := 12 }
set_option maxHeartbeats 4000000 in
set_option maxRecDepth 100000 in
theorem c_yX1_init (l : Launch) (G : gG) (h0 sz : Nat) : gCon l yX1_init cX1_init 1 rm_yX1_init G h0 sz 1 [.int 0, .int 0, .int 0, .int 0, .int 0, .int 0, .int 0] 1 0 FX1 0 0 := by
  refine g_startC (by decide +kernel) (by decide) ?_
  intro p e s m below meth c ls B hnm hY hsz hW hAb hl
  obtain ⟨C, hr, hlk⟩ := B
  have hx := C.1
  have hb := C.2.1
  have hA : ∀ z : Nat, s.heap.size ≤ z → (z = h0 ∨ sz ≤ z) := fun z hz => Or.inr (by rw [← hsz]; exact hz)
  have hS : va_S (fun z => z = h0 ∨ sz ≤ z) s.heap s.heap [] := va_S.rf
  have hl : lv_has ls 1 [(0, .ref h0)] := hl
  refine lv_aload_n hx hb dX1_init_0 rfl (lv_at hl 0 rfl) ?_
  refine W.objInit hx hb C.2.2.2.1 (C.2.2.2.2 _ lk_RX1_3) (C.2.2.2.2 _ ko_inst) (C.2.2.2.2 _ ko_code) rfl (by rw [C.2.2.1]; exact hl.1) rfl dX1_init_1 (Nat.le_of_ble_eq_true rfl) (Nat.le_of_ble_eq_true rfl) ?_
  refine W.eq (g2 := F0 m 4 ls []) rfl ?_
  exact n_ret C hr hlk hsz hW hS (fun k => ([0] : List Nat).getD k 0) (fun k => ([h0] : List Nat).getD k 0) rfl (pi_inj (by decide +kernel)) (lt_cases lt_none ⟨_, rfl, shEq.rf⟩) (by decide) (by decide) dX1_init_4

def rm_yX2_init : Room := { frames := 1, cells := 1, slots := 40, locals := 12 }
set_option maxHeartbeats 4000000 in
set_option maxRecDepth 100000 in
theorem c_yX2_init (l : Launch) (G : gG) (h0 sz : Nat) : gCon l yX2_init cX2_init 1 rm_yX2_init G h0 sz 2 [.null, .int 0, .int 0] 2 0 (FX2 G) 1 40 := by
  refine g_startC (by decide +kernel) (by decide) ?_
  intro p e s m below meth c ls B hnm hY hsz hW hAb hl
  obtain ⟨C, hr, hlk⟩ := B
  have hx := C.1
  have hb := C.2.1
  have hA : ∀ z : Nat, s.heap.size ≤ z → (z = h0 ∨ sz ≤ z) := fun z hz => Or.inr (by rw [← hsz]; exact hz)
  have hS : va_S (fun z => z = h0 ∨ sz ≤ z) s.heap s.heap [] := va_S.rf
  have hl : lv_has ls 1 [(0, .ref h0)] := hl
  refine lv_aload_n hx hb dX2_init_0 rfl (lv_at hl 0 rfl) ?_
  refine W.objInit hx hb C.2.2.2.1 (C.2.2.2.2 _ lk_RX2_3) (C.2.2.2.2 _ ko_inst) (C.2.2.2.2 _ ko_code) rfl (by rw [C.2.2.1]; exact hl.1) rfl dX2_init_1 (Nat.le_of_ble_eq_true rfl) (Nat.le_of_ble_eq_true rfl) ?_
  refine W.eq (g2 := F0 m 4 ls []) rfl ?_
  refine lv_aload_n hx hb dX2_init_4 rfl (lv_at hl 0 rfl) ?_
  refine lv_bipush (v := 40) hx hb dX2_init_5 (by decide) ?_
  refine n_newa (atype := .int) C hY hW hS hA ka_int 0 rfl rfl (N := 40) (fun _ => rfl) rfl (by decide) (by decide) (by decide) (by decide) dX2_init_7 1 (fun q1 H hW hS => ?_)
  have hW : wW G.1 (fun z => z = h0 ∨ sz ≤ z) (((h0, .inr (2, [.null, .int 0, .int 0])) :: ((q1, .inl (G.2.1 0, 40, .inl (fun _ => (0 : Int32)))) :: [])) : va_W) H := hW
  refine n_put fd_RX2_9 C hnm (fun q_ hq_ => by cases hq_; rfl) hY hW hS 0 rfl rfl rfl (Nat.le_of_ble_eq_true rfl) dX2_init_9 (fun H locs hW hS => ?_)
  have hW : wW G.1 (fun z => z = h0 ∨ sz ≤ z) (((h0, .inr (2, [.ref q1, .int 0, .int 0])) :: ((q1, .inl (G.2.1 0, 40, .inl (fun _ => (0 : Int32)))) :: [])) : va_W) H := hW
  refine lv_aload_n hx hb dX2_init_12 rfl (lv_at hl 0 rfl) ?_
  refine lv_iconst (v := 0) hx hb dX2_init_13 (by decide) ?_
  refine n_put fd_RX2_15 C hnm (fun q_ hq_ => by cases hq_; rfl) hY hW hS 0 rfl rfl rfl (Nat.le_of_ble_eq_true rfl) dX2_init_14 (fun H locs hW hS => ?_)
  have hW : wW G.1 (fun z => z = h0 ∨ sz ≤ z) (((h0, .inr (2, [.ref q1, .int 0, .int 0])) :: ((q1, .inl (G.2.1 0, 40, .inl (fun _ => (0 : Int32)))) :: [])) : va_W) H := hW
  refine lv_aload_n hx hb dX2_init_17 rfl (lv_at hl 0 rfl) ?_
  refine lv_iconst (v := 0) hx hb dX2_init_18 (by decide) ?_
  refine n_put fd_RX2_19 C hnm (fun q_ hq_ => by cases hq_; rfl) hY hW hS 0 rfl rfl rfl (Nat.le_of_ble_eq_true rfl) dX2_init_19 (fun H locs hW hS => ?_)
  have hW : wW G.1 (fun z => z = h0 ∨ sz ≤ z) (((h0, .inr (2, [.ref q1, .int 0, .int 0])) :: ((q1, .inl (G.2.1 0, 40, .inl (fun _ => (0 : Int32)))) :: [])) : va_W) H := hW
  exact n_ret C hr hlk hsz hW hS (fun k => ([0, 1] : List Nat).getD k 0) (fun k => ([h0, q1] : List Nat).getD k 0) rfl (pi_inj (by decide +kernel)) (lt_cases (lt_cases lt_none ⟨_, rfl, shEq.rf⟩) ⟨_, rfl, shEq.rf⟩) (by decide) (by decide) dX2_init_22

def rm_yX3_init : Room := { frames := 1, cells := 1, slots := 120, locals := 12 }
set_option maxHeartbeats 4000000 in
set_option maxRecDepth 100000 in
theorem c_yX3_init (l : Launch) (G : gG) (h0 sz : Nat) : gCon l yX3_init cX3_init 1 rm_yX3_init G h0 sz 3 [.null, .int 0] 2 0 (FX3 G) 1 120 := by
  refine g_startC (by decide +kernel) (by decide) ?_
  intro p e s m below meth c ls B hnm hY hsz hW hAb hl
  obtain ⟨C, hr, hlk⟩ := B
  have hx := C.1
  have hb := C.2.1
  have hA : ∀ z : Nat, s.heap.size ≤ z → (z = h0 ∨ sz ≤ z) := fun z hz => Or.inr (by rw [← hsz]; exact hz)
  have hS : va_S (fun z => z = h0 ∨ sz ≤ z) s.heap s.heap [] := va_S.rf
  have hl : lv_has ls 1 [(0, .ref h0)] := hl
  refine lv_aload_n hx hb dX3_init_0 rfl (lv_at hl 0 rfl) ?_
  refine W.objInit hx hb C.2.2.2.1 (C.2.2.2.2 _ lk_RX3_3) (C.2.2.2.2 _ ko_inst) (C.2.2.2.2 _ ko_code) rfl (by rw [C.2.2.1]; exact hl.1) rfl dX3_init_1 (Nat.le_of_ble_eq_true rfl) (Nat.le_of_ble_eq_true rfl) ?_
  refine W.eq (g2 := F0 m 4 ls []) rfl ?_
  refine lv_aload_n hx hb dX3_init_4 rfl (lv_at hl 0 rfl) ?_
  refine lv_bipush (v := 120) hx hb dX3_init_5 (by decide) ?_
  refine n_newa (atype := .byte) C hY hW hS hA ka_byte 1 rfl rfl (N := 120) (fun _ => rfl) rfl (by decide) (by decide) (by decide) (by decide) dX3_init_7 1 (fun q1 H hW hS => ?_)
  have hW : wW G.1 (fun z => z = h0 ∨ sz ≤ z) (((h0, .inr (3, [.null, .int 0])) :: ((q1, .inl (G.2.1 1, 120, .inl (fun _ => (0 : Int32)))) :: [])) : va_W) H := hW
  refine n_put fd_RX3_9 C hnm (fun q_ hq_ => by cases hq_; rfl) hY hW hS 0 rfl rfl rfl (Nat.le_of_ble_eq_true rfl) dX3_init_9 (fun H locs hW hS => ?_)
  have hW : wW G.1 (fun z => z = h0 ∨ sz ≤ z) (((h0, .inr (3, [.ref q1, .int 0])) :: ((q1, .inl (G.2.1 1, 120, .inl (fun _ => (0 : Int32)))) :: [])) : va_W) H := hW
  refine lv_aload_n hx hb dX3_init_12 rfl (lv_at hl 0 rfl) ?_
  refine lv_iconst (v := 0) hx hb dX3_init_13 (by decide) ?_
  refine n_put fd_RX3_15 C hnm (fun q_ hq_ => by cases hq_; rfl) hY hW hS 0 rfl rfl rfl (Nat.le_of_ble_eq_true rfl) dX3_init_14 (fun H locs hW hS => ?_)
  have hW : wW G.1 (fun z => z = h0 ∨ sz ≤ z) (((h0, .inr (3, [.ref q1, .int 0])) :: ((q1, .inl (G.2.1 1, 120, .inl (fun _ => (0 : Int32)))) :: [])) : va_W) H := hW
  exact n_ret C hr hlk hsz hW hS (fun k => ([0, 1] : List Nat).getD k 0) (fun k => ([h0, q1] : List Nat).getD k 0) rfl (pi_inj (by decide +kernel)) (lt_cases (lt_cases lt_none ⟨_, rfl, shEq.rf⟩) ⟨_, rfl, shEq.rf⟩) (by decide) (by decide) dX3_init_17

def rm_yX5_init : Room := { frames := 1, cells := 4, slots := 484, locals := 12 }
set_option maxHeartbeats 4000000 in
set_option maxRecDepth 100000 in
theorem c_yX5_init (l : Launch) (G : gG) (h0 sz : Nat) : gCon l yX5_init cX5_init 1 rm_yX5_init G h0 sz 5 [.null, .null, .null, .null, .int 0] 5 0 (FX5 G) 4 484 := by
  refine g_startC (by decide +kernel) (by decide) ?_
  intro p e s m below meth c ls B hnm hY hsz hW hAb hl
  obtain ⟨C, hr, hlk⟩ := B
  have hx := C.1
  have hb := C.2.1
  have hA : ∀ z : Nat, s.heap.size ≤ z → (z = h0 ∨ sz ≤ z) := fun z hz => Or.inr (by rw [← hsz]; exact hz)
  have hS : va_S (fun z => z = h0 ∨ sz ≤ z) s.heap s.heap [] := va_S.rf
  have hl : lv_has ls 1 [(0, .ref h0)] := hl
  refine lv_aload_n hx hb dX5_init_0 rfl (lv_at hl 0 rfl) ?_
  refine W.objInit hx hb C.2.2.2.1 (C.2.2.2.2 _ lk_RX5_3) (C.2.2.2.2 _ ko_inst) (C.2.2.2.2 _ ko_code) rfl (by rw [C.2.2.1]; exact hl.1) rfl dX5_init_1 (Nat.le_of_ble_eq_true rfl) (Nat.le_of_ble_eq_true rfl) ?_
  refine W.eq (g2 := F0 m 4 ls []) rfl ?_
  refine lv_aload_n hx hb dX5_init_4 rfl (lv_at hl 0 rfl) ?_
  refine lv_bipush (v := 121) hx hb dX5_init_5 (by decide) ?_
  refine n_newa (atype := .int) C hY hW hS hA ka_int 0 rfl rfl (N := 121) (fun _ => rfl) rfl (by decide) (by decide) (by decide) (by decide) dX5_init_7 1 (fun q1 H hW hS => ?_)
  have hW : wW G.1 (fun z => z = h0 ∨ sz ≤ z) (((h0, .inr (5, [.null, .null, .null, .null, .int 0])) :: ((q1, .inl (G.2.1 0, 121, .inl (fun _ => (0 : Int32)))) :: [])) : va_W) H := hW
  refine n_put fd_RX5_11 C hnm (fun q_ hq_ => by cases hq_; rfl) hY hW hS 0 rfl rfl rfl (Nat.le_of_ble_eq_true rfl) dX5_init_9 (fun H locs hW hS => ?_)
  have hW : wW G.1 (fun z => z = h0 ∨ sz ≤ z) (((h0, .inr (5, [.ref q1, .null, .null, .null, .int 0])) :: ((q1, .inl (G.2.1 0, 121, .inl (fun _ => (0 : Int32)))) :: [])) : va_W) H := hW
  refine lv_aload_n hx hb dX5_init_12 rfl (lv_at hl 0 rfl) ?_
  refine lv_bipush (v := 121) hx hb dX5_init_13 (by decide) ?_
  refine n_newa (atype := .int) C hY hW hS hA ka_int 0 rfl rfl (N := 121) (fun _ => rfl) rfl (by decide) (by decide) (by decide) (by decide) dX5_init_15 1 (fun q2 H hW hS => ?_)
  have hW : wW G.1 (fun z => z = h0 ∨ sz ≤ z) (((h0, .inr (5, [.ref q1, .null, .null, .null, .int 0])) :: ((q2, .inl (G.2.1 0, 121, .inl (fun _ => (0 : Int32)))) :: ((q1, .inl (G.2.1 0, 121, .inl (fun _ => (0 : Int32)))) :: []))) : va_W) H := hW
  refine n_put fd_RX5_15 C hnm (fun q_ hq_ => by cases hq_; rfl) hY hW hS 0 rfl rfl rfl (Nat.le_of_ble_eq_true rfl) dX5_init_17 (fun H locs hW hS => ?_)
  have hW : wW G.1 (fun z => z = h0 ∨ sz ≤ z) (((h0, .inr (5, [.ref q1, .ref q2, .null, .null, .int 0])) :: ((q2, .inl (G.2.1 0, 121, .inl (fun _ => (0 : Int32)))) :: ((q1, .inl (G.2.1 0, 121, .inl (fun _ => (0 : Int32)))) :: []))) : va_W) H := hW
  refine lv_aload_n hx hb dX5_init_20 rfl (lv_at hl 0 rfl) ?_
  refine lv_bipush (v := 121) hx hb dX5_init_21 (by decide) ?_
  refine n_newa (atype := .int) C hY hW hS hA ka_int 0 rfl rfl (N := 121) (fun _ => rfl) rfl (by decide) (by decide) (by decide) (by decide) dX5_init_23 1 (fun q3 H hW hS => ?_)
  have hW : wW G.1 (fun z => z = h0 ∨ sz ≤ z) (((h0, .inr (5, [.ref q1, .ref q2, .null, .null, .int 0])) :: ((q3, .inl (G.2.1 0, 121, .inl (fun _ => (0 : Int32)))) :: ((q2, .inl (G.2.1 0, 121, .inl (fun _ => (0 : Int32)))) :: ((q1, .inl (G.2.1 0, 121, .inl (fun _ => (0 : Int32)))) :: [])))) : va_W) H := hW
  refine n_put fd_RX5_18 C hnm (fun q_ hq_ => by cases hq_; rfl) hY hW hS 0 rfl rfl rfl (Nat.le_of_ble_eq_true rfl) dX5_init_25 (fun H locs hW hS => ?_)
  have hW : wW G.1 (fun z => z = h0 ∨ sz ≤ z) (((h0, .inr (5, [.ref q1, .ref q2, .ref q3, .null, .int 0])) :: ((q3, .inl (G.2.1 0, 121, .inl (fun _ => (0 : Int32)))) :: ((q2, .inl (G.2.1 0, 121, .inl (fun _ => (0 : Int32)))) :: ((q1, .inl (G.2.1 0, 121, .inl (fun _ => (0 : Int32)))) :: [])))) : va_W) H := hW
  refine lv_aload_n hx hb dX5_init_28 rfl (lv_at hl 0 rfl) ?_
  refine lv_bipush (v := 121) hx hb dX5_init_29 (by decide) ?_
  refine n_newa (atype := .int) C hY hW hS hA ka_int 0 rfl rfl (N := 121) (fun _ => rfl) rfl (by decide) (by decide) (by decide) (by decide) dX5_init_31 1 (fun q4 H hW hS => ?_)
  have hW : wW G.1 (fun z => z = h0 ∨ sz ≤ z) (((h0, .inr (5, [.ref q1, .ref q2, .ref q3, .null, .int 0])) :: ((q4, .inl (G.2.1 0, 121, .inl (fun _ => (0 : Int32)))) :: ((q3, .inl (G.2.1 0, 121, .inl (fun _ => (0 : Int32)))) :: ((q2, .inl (G.2.1 0, 121, .inl (fun _ => (0 : Int32)))) :: ((q1, .inl (G.2.1 0, 121, .inl (fun _ => (0 : Int32)))) :: []))))) : va_W) H := hW
  refine n_put fd_RX5_21 C hnm (fun q_ hq_ => by cases hq_; rfl) hY hW hS 0 rfl rfl rfl (Nat.le_of_ble_eq_true rfl) dX5_init_33 (fun H locs hW hS => ?_)
  have hW : wW G.1 (fun z => z = h0 ∨ sz ≤ z) (((h0, .inr (5, [.ref q1, .ref q2, .ref q3, .ref q4, .int 0])) :: ((q4, .inl (G.2.1 0, 121, .inl (fun _ => (0 : Int32)))) :: ((q3, .inl (G.2.1 0, 121, .inl (fun _ => (0 : Int32)))) :: ((q2, .inl (G.2.1 0, 121, .inl (fun _ => (0 : Int32)))) :: ((q1, .inl (G.2.1 0, 121, .inl (fun _ => (0 : Int32)))) :: []))))) : va_W) H := hW
  refine lv_aload_n hx hb dX5_init_36 rfl (lv_at hl 0 rfl) ?_
  refine lv_iconst (v := 0) hx hb dX5_init_37 (by decide) ?_
  refine n_put fd_RX5_24 C hnm (fun q_ hq_ => by cases hq_; rfl) hY hW hS 0 rfl rfl rfl (Nat.le_of_ble_eq_true rfl) dX5_init_38 (fun H locs hW hS => ?_)
  have hW : wW G.1 (fun z => z = h0 ∨ sz ≤ z) (((h0, .inr (5, [.ref q1, .ref q2, .ref q3, .ref q4, .int 0])) :: ((q4, .inl (G.2.1 0, 121, .inl (fun _ => (0 : Int32)))) :: ((q3, .inl (G.2.1 0, 121, .inl (fun _ => (0 : Int32)))) :: ((q2, .inl (G.2.1 0, 121, .inl (fun _ => (0 : Int32)))) :: ((q1, .inl (G.2.1 0, 121, .inl (fun _ => (0 : Int32)))) :: []))))) : va_W) H := hW
  exact n_ret C hr hlk hsz hW hS (fun k => ([0, 4, 3, 2, 1] : List Nat).getD k 0) (fun k => ([h0, q1, q2, q3, q4] : List Nat).getD k 0) rfl (pi_inj (by decide +kernel)) (lt_cases (lt_cases (lt_cases (lt_cases (lt_cases lt_none ⟨_, rfl, shEq.rf⟩) ⟨_, rfl, shEq.rf⟩) ⟨_, rfl, shEq.rf⟩) ⟨_, rfl, shEq.rf⟩) ⟨_, rfl, shEq.rf⟩) (by decide) (by decide) dX5_init_41

def rm_yX4_init : Room := { frames := 2, cells := 5, slots := 489, locals := 32 }
set_option maxHeartbeats 4000000 in
set_option maxRecDepth 100000 in
theorem c_yX4_init (l : Launch) (G : gG) (h0 sz : Nat) : gCon l yX4_init cX4_init 1 rm_yX4_init G h0 sz 4 [.null, .int 0, .int 0] 6 0 (FX4 G) 5 489 := by
  refine g_startC (by decide +kernel) (by decide) ?_
  intro p e s m below meth c ls B hnm hY hsz hW hAb hl
  obtain ⟨C, hr, hlk⟩ := B
  have hx := C.1
  have hb := C.2.1
  have hA : ∀ z : Nat, s.heap.size ≤ z → (z = h0 ∨ sz ≤ z) := fun z hz => Or.inr (by rw [← hsz]; exact hz)
  have hS : va_S (fun z => z = h0 ∨ sz ≤ z) s.heap s.heap [] := va_S.rf
  have hl : lv_has ls 1 [(0, .ref h0)] := hl
  refine lv_aload_n hx hb dX4_init_0 rfl (lv_at hl 0 rfl) ?_
  refine W.objInit hx hb C.2.2.2.1 (C.2.2.2.2 _ lk_RX4_3) (C.2.2.2.2 _ ko_inst) (C.2.2.2.2 _ ko_code) rfl (by rw [C.2.2.1]; exact hl.1) rfl dX4_init_1 (Nat.le_of_ble_eq_true rfl) (Nat.le_of_ble_eq_true rfl) ?_
  refine W.eq (g2 := F0 m 4 ls []) rfl ?_
  refine lv_aload_n hx hb dX4_init_4 rfl (lv_at hl 0 rfl) ?_
  refine n_new (ci := 5) (fs := [.null, .null, .null, .null, .int 0]) C hY hW hS hA inT5 tyX5 tyX5_ok kl_RX4_9 kn_RX5 ki_RX5 rfl (lt_cases (lt_cases (lt_cases (lt_cases (lt_cases lt_none rfl) rfl) rfl) rfl) rfl) (by decide) (by decide) dX4_init_5 1 (fun q1 H hW hS => ?_)
  have hW : wW G.1 (fun z => z = h0 ∨ sz ≤ z) (((h0, .inr (4, [.null, .int 0, .int 0])) :: ((q1, .inr (5, [.null, .null, .null, .null, .int 0])) :: [])) : va_W) H := hW
  refine lv_dup hx hb dX4_init_8 rfl ?_
  refine n_after hW hS hA 1 rfl (n_runI (rest := [.ref q1, .ref h0]) kcode_yX5_init ki_RX5 kinst_yX5_init kyd_yX5_init rfl lk_RX4_11 C hY hW hS hAb 1 rfl (c_yX5_init l G q1 H.size) ⟨rfl, rfl, by decide, by decide⟩ hl.1 (Nat.le_of_ble_eq_true rfl) ⟨by decide, by decide⟩ dX4_init_9) (fun c2 H locs hc_ hW hS => ?_)
  subst hc_
  have hW : wW G.1 (fun z => z = h0 ∨ sz ≤ z) (((h0, .inr (4, [.null, .int 0, .int 0])) :: (gl 5 c2 ((FX5 G) c2) ++ [])) : va_W) H := hW
  refine n_put fd_RX4_12 C hnm (fun q_ hq_ => by cases hq_; rfl) hY hW hS 0 rfl rfl rfl (Nat.le_of_ble_eq_true rfl) dX4_init_12 (fun H locs hW hS => ?_)
  have hW : wW G.1 (fun z => z = h0 ∨ sz ≤ z) (((h0, .inr (4, [.ref (c2 0), .int 0, .int 0])) :: (gl 5 c2 ((FX5 G) c2) ++ [])) : va_W) H := hW
  refine lv_aload_n hx hb dX4_init_15 rfl (lv_at hl 0 rfl) ?_
  refine lv_iconst (v := 0) hx hb dX4_init_16 (by decide) ?_
  refine n_put fd_RX4_18 C hnm (fun q_ hq_ => by cases hq_; rfl) hY hW hS 0 rfl rfl rfl (Nat.le_of_ble_eq_true rfl) dX4_init_17 (fun H locs hW hS => ?_)
  have hW : wW G.1 (fun z => z = h0 ∨ sz ≤ z) (((h0, .inr (4, [.ref (c2 0), .int 0, .int 0])) :: (gl 5 c2 ((FX5 G) c2) ++ [])) : va_W) H := hW
  refine lv_aload_n hx hb dX4_init_20 rfl (lv_at hl 0 rfl) ?_
  refine lv_iconst (v := 0) hx hb dX4_init_21 (by decide) ?_
  refine n_put fd_RX4_22 C hnm (fun q_ hq_ => by cases hq_; rfl) hY hW hS 0 rfl rfl rfl (Nat.le_of_ble_eq_true rfl) dX4_init_22 (fun H locs hW hS => ?_)
  have hW : wW G.1 (fun z => z = h0 ∨ sz ≤ z) (((h0, .inr (4, [.ref (c2 0), .int 0, .int 0])) :: (gl 5 c2 ((FX5 G) c2) ++ [])) : va_W) H := hW
  exact n_ret C hr hlk hsz hW hS (fun k => ([0, 1, 2, 3, 4, 5] : List Nat).getD k 0) (fun k => ([h0, (c2 0), (c2 1), (c2 2), (c2 3), (c2 4)] : List Nat).getD k 0) rfl (pi_inj (by decide +kernel)) (lt_cases (lt_cases (lt_cases (lt_cases (lt_cases (lt_cases lt_none ⟨_, rfl, shEq.rf⟩) ⟨_, rfl, shEq.rf⟩) ⟨_, rfl, shEq.rf⟩) ⟨_, rfl, shEq.rf⟩) ⟨_, rfl, shEq.rf⟩) ⟨_, rfl, shEq.rf⟩) (by decide) (by decide) dX4_init_25

def rm_yX0_init : Room := { frames := 2, cells := 11, slots := 80, locals := 32 }
set_option maxHeartbeats 4000000 in
set_option maxRecDepth 100000 in
theorem c_yX0_init (l : Launch) (G : gG) (h0 sz : Nat) : gCon l yX0_init cX0_init 2 rm_yX0_init G h0 sz 0 [.null, .null, .null, .int 0, .int 0, .int 0] 12 8 (FX0 G) 11 80 := by
  refine g_startC (by decide +kernel) (by decide) ?_
  intro p e s m below meth c ls B hnm hY hsz hW hAb hl
  obtain ⟨C, hr, hlk⟩ := B
  have hx := C.1
  have hb := C.2.1
  have hA : ∀ z : Nat, s.heap.size ≤ z → (z = h0 ∨ sz ≤ z) := fun z hz => Or.inr (by rw [← hsz]; exact hz)
  have hS : va_S (fun z => z = h0 ∨ sz ≤ z) s.heap s.heap [] := va_S.rf
  have hl : lv_has ls 2 [(0, .ref h0)] := hl
  refine lv_aload_n hx hb dX0_init_0 rfl (lv_at hl 0 rfl) ?_
  refine W.objInit hx hb C.2.2.2.1 (C.2.2.2.2 _ lk_RX0_3) (C.2.2.2.2 _ ko_inst) (C.2.2.2.2 _ ko_code) rfl (by rw [C.2.2.1]; exact hl.1) rfl dX0_init_1 (Nat.le_of_ble_eq_true rfl) (Nat.le_of_ble_eq_true rfl) ?_
  refine W.eq (g2 := F0 m 4 ls []) rfl ?_
  refine lv_aload_n hx hb dX0_init_4 rfl (lv_at hl 0 rfl) ?_
  refine lv_bipush (v := 8) hx hb dX0_init_5 (by decide) ?_
  refine n_newq (C0 := "LeftGloves$Glove") C hY hW hS hA kl_RX0_9 hY.2.1 2 rfl (N := 8) rfl (by decide) (by decide) (by decide) dX0_init_7 1 (fun q1 H hW hS => ?_)
  have hW : wW G.1 (fun z => z = h0 ∨ sz ≤ z) (((h0, .inr (0, [.null, .null, .null, .int 0, .int 0, .int 0])) :: ((q1, .inl (G.2.1 2, 8, .inr (.inr (.inr (.inr (fun _ => none)))))) :: [])) : va_W) H := hW
  refine n_put fd_RX0_11 C hnm (fun q_ hq_ => by cases hq_; rfl) hY hW hS 0 rfl rfl rfl (Nat.le_of_ble_eq_true rfl) dX0_init_10 (fun H locs hW hS => ?_)
  have hW : wW G.1 (fun z => z = h0 ∨ sz ≤ z) (((h0, .inr (0, [.ref q1, .null, .null, .int 0, .int 0, .int 0])) :: ((q1, .inl (G.2.1 2, 8, .inr (.inr (.inr (.inr (fun _ => none)))))) :: [])) : va_W) H := hW
  refine lv_iconst (v := 0) hx hb dX0_init_13 (by decide) ?_
  refine lv_istore_n (lv' := [(1, .int 0), (0, .ref h0)]) hx hb dX0_init_14 rfl hl (by decide) rfl (fun ls hl => ?_)
  refine lv_iload_n hx hb dX0_init_15 rfl (lv_at hl 0 rfl) ?_
  refine lv_bipush (v := 8) hx hb dX0_init_16 (by decide) ?_
  refine lv_icmp_ge (tgt := 40) hx hb dX0_init_18 (by decide) (fun c_ => absurd c_ (by decide)) (fun c_ => ?_)
  refine lv_aload_n hx hb dX0_init_21 rfl (lv_at hl 1 rfl) ?_
  refine n_get fd_RX0_11 C hY hW 0 rfl (v := .ref q1) rfl dX0_init_22 ?_
  refine lv_iload_n hx hb dX0_init_25 rfl (lv_at hl 0 rfl) ?_
  refine n_new (ci := 1) (fs := [.int 0, .int 0, .int 0, .int 0, .int 0, .int 0, .int 0]) C hY hW hS hA inT1 tyX1 tyX1_ok kl_RX0_9 kn_RX1 ki_RX1 rfl (lt_cases (lt_cases (lt_cases (lt_cases (lt_cases (lt_cases (lt_cases lt_none rfl) rfl) rfl) rfl) rfl) rfl) rfl) (by decide) (by decide) dX0_init_26 2 (fun q2 H hW hS => ?_)
  have hW : wW G.1 (fun z => z = h0 ∨ sz ≤ z) (((h0, .inr (0, [.ref q1, .null, .null, .int 0, .int 0, .int 0])) :: ((q1, .inl (G.2.1 2, 8, .inr (.inr (.inr (.inr (fun _ => none)))))) :: ((q2, .inr (1, [.int 0, .int 0, .int 0, .int 0, .int 0, .int 0, .int 0])) :: []))) : va_W) H := hW
  refine lv_dup hx hb dX0_init_29 rfl ?_
  refine n_after hW hS hA 2 rfl (n_runIN (rest := [.ref q2, .int 0, .ref q1]) kcode_yX1_init ki_RX1 kinst_yX1_init kyd_yX1_init rfl ln_RX0_17 C hY hW hS hAb 2 rfl (c_yX1_init l G q2 H.size) ⟨rfl, rfl, by decide, by decide⟩ hl.1 (Nat.le_of_ble_eq_true rfl) ⟨by decide, by decide⟩ dX0_init_30) (fun c3 H locs hc_ hW hS => ?_)
  subst hc_
  have hW : wW G.1 (fun z => z = h0 ∨ sz ≤ z) (((h0, .inr (0, [.ref q1, .null, .null, .int 0, .int 0, .int 0])) :: ((q1, .inl (G.2.1 2, 8, .inr (.inr (.inr (.inr (fun _ => none)))))) :: (gl 1 c3 (FX1 c3) ++ []))) : va_W) H := hW
  refine n_aast C hY hW hS 1 2 2 1 rfl rfl (r := (RX1, TX1, 7)) rfl rfl (i := 0) (by decide) (by decide) (by decide) dX0_init_33 (fun H locs hW hS => ?_)
  have hW : wW G.1 (fun z => z = h0 ∨ sz ≤ z) (((h0, .inr (0, [.ref q1, .null, .null, .int 0, .int 0, .int 0])) :: ((q1, .inl (G.2.1 2, 8, .inr (.inr (.inr (.inr (va_up (fun _ => none) 0 (some (c3 0)))))))) :: (gl 1 c3 (FX1 c3) ++ []))) : va_W) H := hW
  refine lv_iinc (v := 1) (lv' := [(1, .int 1), (0, .ref h0)]) hx hb dX0_init_34 hl (k := 0) rfl (by decide) (by decide) rfl (fun ls hl => ?_)
  refine lv_goto (tgt := 15) hx hb dX0_init_37 (by decide) ?_
  refine lv_iload_n hx hb dX0_init_15 rfl (lv_at hl 0 rfl) ?_
  refine lv_bipush (v := 8) hx hb dX0_init_16 (by decide) ?_
  refine lv_icmp_ge (tgt := 40) hx hb dX0_init_18 (by decide) (fun c_ => absurd c_ (by decide)) (fun c_ => ?_)
  refine lv_aload_n hx hb dX0_init_21 rfl (lv_at hl 1 rfl) ?_
  refine n_get fd_RX0_11 C hY hW 0 rfl (v := .ref q1) rfl dX0_init_22 ?_
  refine lv_iload_n hx hb dX0_init_25 rfl (lv_at hl 0 rfl) ?_
  refine n_new (ci := 1) (fs := [.int 0, .int 0, .int 0, .int 0, .int 0, .int 0, .int 0]) C hY hW hS hA inT1 tyX1 tyX1_ok kl_RX0_9 kn_RX1 ki_RX1 rfl (lt_cases (lt_cases (lt_cases (lt_cases (lt_cases (lt_cases (lt_cases lt_none rfl) rfl) rfl) rfl) rfl) rfl) rfl) (by decide) (by decide) dX0_init_26 2 (fun q4 H hW hS => ?_)
  have hW : wW G.1 (fun z => z = h0 ∨ sz ≤ z) (((h0, .inr (0, [.ref q1, .null, .null, .int 0, .int 0, .int 0])) :: ((q1, .inl (G.2.1 2, 8, .inr (.inr (.inr (.inr (va_up (fun _ => none) 0 (some (c3 0)))))))) :: ((q4, .inr (1, [.int 0, .int 0, .int 0, .int 0, .int 0, .int 0, .int 0])) :: (gl 1 c3 (FX1 c3) ++ [])))) : va_W) H := hW
  refine lv_dup hx hb dX0_init_29 rfl ?_
  refine n_after hW hS hA 2 rfl (n_runIN (rest := [.ref q4, .int 1, .ref q1]) kcode_yX1_init ki_RX1 kinst_yX1_init kyd_yX1_init rfl ln_RX0_17 C hY hW hS hAb 2 rfl (c_yX1_init l G q4 H.size) ⟨rfl, rfl, by decide, by decide⟩ hl.1 (Nat.le_of_ble_eq_true rfl) ⟨by decide, by decide⟩ dX0_init_30) (fun c5 H locs hc_ hW hS => ?_)
  subst hc_
  have hW : wW G.1 (fun z => z = h0 ∨ sz ≤ z) (((h0, .inr (0, [.ref q1, .null, .null, .int 0, .int 0, .int 0])) :: ((q1, .inl (G.2.1 2, 8, .inr (.inr (.inr (.inr (va_up (fun _ => none) 0 (some (c3 0)))))))) :: (gl 1 c5 (FX1 c5) ++ (gl 1 c3 (FX1 c3) ++ [])))) : va_W) H := hW
  refine n_aast C hY hW hS 1 2 2 1 rfl rfl (r := (RX1, TX1, 7)) rfl rfl (i := 1) (by decide) (by decide) (by decide) dX0_init_33 (fun H locs hW hS => ?_)
  have hW : wW G.1 (fun z => z = h0 ∨ sz ≤ z) (((h0, .inr (0, [.ref q1, .null, .null, .int 0, .int 0, .int 0])) :: ((q1, .inl (G.2.1 2, 8, .inr (.inr (.inr (.inr (va_up (va_up (fun _ => none) 0 (some (c3 0))) 1 (some (c5 0)))))))) :: (gl 1 c5 (FX1 c5) ++ (gl 1 c3 (FX1 c3) ++ [])))) : va_W) H := hW
  refine lv_iinc (v := 2) (lv' := [(1, .int 2), (0, .ref h0)]) hx hb dX0_init_34 hl (k := 0) rfl (by decide) (by decide) rfl (fun ls hl => ?_)
  refine lv_goto (tgt := 15) hx hb dX0_init_37 (by decide) ?_
  refine lv_iload_n hx hb dX0_init_15 rfl (lv_at hl 0 rfl) ?_
  refine lv_bipush (v := 8) hx hb dX0_init_16 (by decide) ?_
  refine lv_icmp_ge (tgt := 40) hx hb dX0_init_18 (by decide) (fun c_ => absurd c_ (by decide)) (fun c_ => ?_)
  refine lv_aload_n hx hb dX0_init_21 rfl (lv_at hl 1 rfl) ?_
  refine n_get fd_RX0_11 C hY hW 0 rfl (v := .ref q1) rfl dX0_init_22 ?_
  refine lv_iload_n hx hb dX0_init_25 rfl (lv_at hl 0 rfl) ?_
  refine n_new (ci := 1) (fs := [.int 0, .int 0, .int 0, .int 0, .int 0, .int 0, .int 0]) C hY hW hS hA inT1 tyX1 tyX1_ok kl_RX0_9 kn_RX1 ki_RX1 rfl (lt_cases (lt_cases (lt_cases (lt_cases (lt_cases (lt_cases (lt_cases lt_none rfl) rfl) rfl) rfl) rfl) rfl) rfl) (by decide) (by decide) dX0_init_26 2 (fun q6 H hW hS => ?_)
  have hW : wW G.1 (fun z => z = h0 ∨ sz ≤ z) (((h0, .inr (0, [.ref q1, .null, .null, .int 0, .int 0, .int 0])) :: ((q1, .inl (G.2.1 2, 8, .inr (.inr (.inr (.inr (va_up (va_up (fun _ => none) 0 (some (c3 0))) 1 (some (c5 0)))))))) :: ((q6, .inr (1, [.int 0, .int 0, .int 0, .int 0, .int 0, .int 0, .int 0])) :: (gl 1 c5 (FX1 c5) ++ (gl 1 c3 (FX1 c3) ++ []))))) : va_W) H := hW
  refine lv_dup hx hb dX0_init_29 rfl ?_
  refine n_after hW hS hA 2 rfl (n_runIN (rest := [.ref q6, .int 2, .ref q1]) kcode_yX1_init ki_RX1 kinst_yX1_init kyd_yX1_init rfl ln_RX0_17 C hY hW hS hAb 2 rfl (c_yX1_init l G q6 H.size) ⟨rfl, rfl, by decide, by decide⟩ hl.1 (Nat.le_of_ble_eq_true rfl) ⟨by decide, by decide⟩ dX0_init_30) (fun c7 H locs hc_ hW hS => ?_)
  subst hc_
  have hW : wW G.1 (fun z => z = h0 ∨ sz ≤ z) (((h0, .inr (0, [.ref q1, .null, .null, .int 0, .int 0, .int 0])) :: ((q1, .inl (G.2.1 2, 8, .inr (.inr (.inr (.inr (va_up (va_up (fun _ => none) 0 (some (c3 0))) 1 (some (c5 0)))))))) :: (gl 1 c7 (FX1 c7) ++ (gl 1 c5 (FX1 c5) ++ (gl 1 c3 (FX1 c3) ++ []))))) : va_W) H := hW
  refine n_aast C hY hW hS 1 2 2 1 rfl rfl (r := (RX1, TX1, 7)) rfl rfl (i := 2) (by decide) (by decide) (by decide) dX0_init_33 (fun H locs hW hS => ?_)
  have hW : wW G.1 (fun z => z = h0 ∨ sz ≤ z) (((h0, .inr (0, [.ref q1, .null, .null, .int 0, .int 0, .int 0])) :: ((q1, .inl (G.2.1 2, 8, .inr (.inr (.inr (.inr (va_up (va_up (va_up (fun _ => none) 0 (some (c3 0))) 1 (some (c5 0))) 2 (some (c7 0)))))))) :: (gl 1 c7 (FX1 c7) ++ (gl 1 c5 (FX1 c5) ++ (gl 1 c3 (FX1 c3) ++ []))))) : va_W) H := hW
  refine lv_iinc (v := 3) (lv' := [(1, .int 3), (0, .ref h0)]) hx hb dX0_init_34 hl (k := 0) rfl (by decide) (by decide) rfl (fun ls hl => ?_)
  refine lv_goto (tgt := 15) hx hb dX0_init_37 (by decide) ?_
  refine lv_iload_n hx hb dX0_init_15 rfl (lv_at hl 0 rfl) ?_
  refine lv_bipush (v := 8) hx hb dX0_init_16 (by decide) ?_
  refine lv_icmp_ge (tgt := 40) hx hb dX0_init_18 (by decide) (fun c_ => absurd c_ (by decide)) (fun c_ => ?_)
  refine lv_aload_n hx hb dX0_init_21 rfl (lv_at hl 1 rfl) ?_
  refine n_get fd_RX0_11 C hY hW 0 rfl (v := .ref q1) rfl dX0_init_22 ?_
  refine lv_iload_n hx hb dX0_init_25 rfl (lv_at hl 0 rfl) ?_
  refine n_new (ci := 1) (fs := [.int 0, .int 0, .int 0, .int 0, .int 0, .int 0, .int 0]) C hY hW hS hA inT1 tyX1 tyX1_ok kl_RX0_9 kn_RX1 ki_RX1 rfl (lt_cases (lt_cases (lt_cases (lt_cases (lt_cases (lt_cases (lt_cases lt_none rfl) rfl) rfl) rfl) rfl) rfl) rfl) (by decide) (by decide) dX0_init_26 2 (fun q8 H hW hS => ?_)
  have hW : wW G.1 (fun z => z = h0 ∨ sz ≤ z) (((h0, .inr (0, [.ref q1, .null, .null, .int 0, .int 0, .int 0])) :: ((q1, .inl (G.2.1 2, 8, .inr (.inr (.inr (.inr (va_up (va_up (va_up (fun _ => none) 0 (some (c3 0))) 1 (some (c5 0))) 2 (some (c7 0)))))))) :: ((q8, .inr (1, [.int 0, .int 0, .int 0, .int 0, .int 0, .int 0, .int 0])) :: (gl 1 c7 (FX1 c7) ++ (gl 1 c5 (FX1 c5) ++ (gl 1 c3 (FX1 c3) ++ [])))))) : va_W) H := hW
  refine lv_dup hx hb dX0_init_29 rfl ?_
  refine n_after hW hS hA 2 rfl (n_runIN (rest := [.ref q8, .int 3, .ref q1]) kcode_yX1_init ki_RX1 kinst_yX1_init kyd_yX1_init rfl ln_RX0_17 C hY hW hS hAb 2 rfl (c_yX1_init l G q8 H.size) ⟨rfl, rfl, by decide, by decide⟩ hl.1 (Nat.le_of_ble_eq_true rfl) ⟨by decide, by decide⟩ dX0_init_30) (fun c9 H locs hc_ hW hS => ?_)
  subst hc_
  have hW : wW G.1 (fun z => z = h0 ∨ sz ≤ z) (((h0, .inr (0, [.ref q1, .null, .null, .int 0, .int 0, .int 0])) :: ((q1, .inl (G.2.1 2, 8, .inr (.inr (.inr (.inr (va_up (va_up (va_up (fun _ => none) 0 (some (c3 0))) 1 (some (c5 0))) 2 (some (c7 0)))))))) :: (gl 1 c9 (FX1 c9) ++ (gl 1 c7 (FX1 c7) ++ (gl 1 c5 (FX1 c5) ++ (gl 1 c3 (FX1 c3) ++ [])))))) : va_W) H := hW
  refine n_aast C hY hW hS 1 2 2 1 rfl rfl (r := (RX1, TX1, 7)) rfl rfl (i := 3) (by decide) (by decide) (by decide) dX0_init_33 (fun H locs hW hS => ?_)
  have hW : wW G.1 (fun z => z = h0 ∨ sz ≤ z) (((h0, .inr (0, [.ref q1, .null, .null, .int 0, .int 0, .int 0])) :: ((q1, .inl (G.2.1 2, 8, .inr (.inr (.inr (.inr (va_up (va_up (va_up (va_up (fun _ => none) 0 (some (c3 0))) 1 (some (c5 0))) 2 (some (c7 0))) 3 (some (c9 0)))))))) :: (gl 1 c9 (FX1 c9) ++ (gl 1 c7 (FX1 c7) ++ (gl 1 c5 (FX1 c5) ++ (gl 1 c3 (FX1 c3) ++ [])))))) : va_W) H := hW
  refine lv_iinc (v := 4) (lv' := [(1, .int 4), (0, .ref h0)]) hx hb dX0_init_34 hl (k := 0) rfl (by decide) (by decide) rfl (fun ls hl => ?_)
  refine lv_goto (tgt := 15) hx hb dX0_init_37 (by decide) ?_
  refine lv_iload_n hx hb dX0_init_15 rfl (lv_at hl 0 rfl) ?_
  refine lv_bipush (v := 8) hx hb dX0_init_16 (by decide) ?_
  refine lv_icmp_ge (tgt := 40) hx hb dX0_init_18 (by decide) (fun c_ => absurd c_ (by decide)) (fun c_ => ?_)
  refine lv_aload_n hx hb dX0_init_21 rfl (lv_at hl 1 rfl) ?_
  refine n_get fd_RX0_11 C hY hW 0 rfl (v := .ref q1) rfl dX0_init_22 ?_
  refine lv_iload_n hx hb dX0_init_25 rfl (lv_at hl 0 rfl) ?_
  refine n_new (ci := 1) (fs := [.int 0, .int 0, .int 0, .int 0, .int 0, .int 0, .int 0]) C hY hW hS hA inT1 tyX1 tyX1_ok kl_RX0_9 kn_RX1 ki_RX1 rfl (lt_cases (lt_cases (lt_cases (lt_cases (lt_cases (lt_cases (lt_cases lt_none rfl) rfl) rfl) rfl) rfl) rfl) rfl) (by decide) (by decide) dX0_init_26 2 (fun q10 H hW hS => ?_)
  have hW : wW G.1 (fun z => z = h0 ∨ sz ≤ z) (((h0, .inr (0, [.ref q1, .null, .null, .int 0, .int 0, .int 0])) :: ((q1, .inl (G.2.1 2, 8, .inr (.inr (.inr (.inr (va_up (va_up (va_up (va_up (fun _ => none) 0 (some (c3 0))) 1 (some (c5 0))) 2 (some (c7 0))) 3 (some (c9 0)))))))) :: ((q10, .inr (1, [.int 0, .int 0, .int 0, .int 0, .int 0, .int 0, .int 0])) :: (gl 1 c9 (FX1 c9) ++ (gl 1 c7 (FX1 c7) ++ (gl 1 c5 (FX1 c5) ++ (gl 1 c3 (FX1 c3) ++ []))))))) : va_W) H := hW
  refine lv_dup hx hb dX0_init_29 rfl ?_
  refine n_after hW hS hA 2 rfl (n_runIN (rest := [.ref q10, .int 4, .ref q1]) kcode_yX1_init ki_RX1 kinst_yX1_init kyd_yX1_init rfl ln_RX0_17 C hY hW hS hAb 2 rfl (c_yX1_init l G q10 H.size) ⟨rfl, rfl, by decide, by decide⟩ hl.1 (Nat.le_of_ble_eq_true rfl) ⟨by decide, by decide⟩ dX0_init_30) (fun c11 H locs hc_ hW hS => ?_)
  subst hc_
  have hW : wW G.1 (fun z => z = h0 ∨ sz ≤ z) (((h0, .inr (0, [.ref q1, .null, .null, .int 0, .int 0, .int 0])) :: ((q1, .inl (G.2.1 2, 8, .inr (.inr (.inr (.inr (va_up (va_up (va_up (va_up (fun _ => none) 0 (some (c3 0))) 1 (some (c5 0))) 2 (some (c7 0))) 3 (some (c9 0)))))))) :: (gl 1 c11 (FX1 c11) ++ (gl 1 c9 (FX1 c9) ++ (gl 1 c7 (FX1 c7) ++ (gl 1 c5 (FX1 c5) ++ (gl 1 c3 (FX1 c3) ++ []))))))) : va_W) H := hW
  refine n_aast C hY hW hS 1 2 2 1 rfl rfl (r := (RX1, TX1, 7)) rfl rfl (i := 4) (by decide) (by decide) (by decide) dX0_init_33 (fun H locs hW hS => ?_)
  have hW : wW G.1 (fun z => z = h0 ∨ sz ≤ z) (((h0, .inr (0, [.ref q1, .null, .null, .int 0, .int 0, .int 0])) :: ((q1, .inl (G.2.1 2, 8, .inr (.inr (.inr (.inr (va_up (va_up (va_up (va_up (va_up (fun _ => none) 0 (some (c3 0))) 1 (some (c5 0))) 2 (some (c7 0))) 3 (some (c9 0))) 4 (some (c11 0)))))))) :: (gl 1 c11 (FX1 c11) ++ (gl 1 c9 (FX1 c9) ++ (gl 1 c7 (FX1 c7) ++ (gl 1 c5 (FX1 c5) ++ (gl 1 c3 (FX1 c3) ++ []))))))) : va_W) H := hW
  refine lv_iinc (v := 5) (lv' := [(1, .int 5), (0, .ref h0)]) hx hb dX0_init_34 hl (k := 0) rfl (by decide) (by decide) rfl (fun ls hl => ?_)
  refine lv_goto (tgt := 15) hx hb dX0_init_37 (by decide) ?_
  refine lv_iload_n hx hb dX0_init_15 rfl (lv_at hl 0 rfl) ?_
  refine lv_bipush (v := 8) hx hb dX0_init_16 (by decide) ?_
  refine lv_icmp_ge (tgt := 40) hx hb dX0_init_18 (by decide) (fun c_ => absurd c_ (by decide)) (fun c_ => ?_)
  refine lv_aload_n hx hb dX0_init_21 rfl (lv_at hl 1 rfl) ?_
  refine n_get fd_RX0_11 C hY hW 0 rfl (v := .ref q1) rfl dX0_init_22 ?_
  refine lv_iload_n hx hb dX0_init_25 rfl (lv_at hl 0 rfl) ?_
  refine n_new (ci := 1) (fs := [.int 0, .int 0, .int 0, .int 0, .int 0, .int 0, .int 0]) C hY hW hS hA inT1 tyX1 tyX1_ok kl_RX0_9 kn_RX1 ki_RX1 rfl (lt_cases (lt_cases (lt_cases (lt_cases (lt_cases (lt_cases (lt_cases lt_none rfl) rfl) rfl) rfl) rfl) rfl) rfl) (by decide) (by decide) dX0_init_26 2 (fun q12 H hW hS => ?_)
  have hW : wW G.1 (fun z => z = h0 ∨ sz ≤ z) (((h0, .inr (0, [.ref q1, .null, .null, .int 0, .int 0, .int 0])) :: ((q1, .inl (G.2.1 2, 8, .inr (.inr (.inr (.inr (va_up (va_up (va_up (va_up (va_up (fun _ => none) 0 (some (c3 0))) 1 (some (c5 0))) 2 (some (c7 0))) 3 (some (c9 0))) 4 (some (c11 0)))))))) :: ((q12, .inr (1, [.int 0, .int 0, .int 0, .int 0, .int 0, .int 0, .int 0])) :: (gl 1 c11 (FX1 c11) ++ (gl 1 c9 (FX1 c9) ++ (gl 1 c7 (FX1 c7) ++ (gl 1 c5 (FX1 c5) ++ (gl 1 c3 (FX1 c3) ++ [])))))))) : va_W) H := hW
  refine lv_dup hx hb dX0_init_29 rfl ?_
  refine n_after hW hS hA 2 rfl (n_runIN (rest := [.ref q12, .int 5, .ref q1]) kcode_yX1_init ki_RX1 kinst_yX1_init kyd_yX1_init rfl ln_RX0_17 C hY hW hS hAb 2 rfl (c_yX1_init l G q12 H.size) ⟨rfl, rfl, by decide, by decide⟩ hl.1 (Nat.le_of_ble_eq_true rfl) ⟨by decide, by decide⟩ dX0_init_30) (fun c13 H locs hc_ hW hS => ?_)
  subst hc_
  have hW : wW G.1 (fun z => z = h0 ∨ sz ≤ z) (((h0, .inr (0, [.ref q1, .null, .null, .int 0, .int 0, .int 0])) :: ((q1, .inl (G.2.1 2, 8, .inr (.inr (.inr (.inr (va_up (va_up (va_up (va_up (va_up (fun _ => none) 0 (some (c3 0))) 1 (some (c5 0))) 2 (some (c7 0))) 3 (some (c9 0))) 4 (some (c11 0)))))))) :: (gl 1 c13 (FX1 c13) ++ (gl 1 c11 (FX1 c11) ++ (gl 1 c9 (FX1 c9) ++ (gl 1 c7 (FX1 c7) ++ (gl 1 c5 (FX1 c5) ++ (gl 1 c3 (FX1 c3) ++ [])))))))) : va_W) H := hW
  refine n_aast C hY hW hS 1 2 2 1 rfl rfl (r := (RX1, TX1, 7)) rfl rfl (i := 5) (by decide) (by decide) (by decide) dX0_init_33 (fun H locs hW hS => ?_)
  have hW : wW G.1 (fun z => z = h0 ∨ sz ≤ z) (((h0, .inr (0, [.ref q1, .null, .null, .int 0, .int 0, .int 0])) :: ((q1, .inl (G.2.1 2, 8, .inr (.inr (.inr (.inr (va_up (va_up (va_up (va_up (va_up (va_up (fun _ => none) 0 (some (c3 0))) 1 (some (c5 0))) 2 (some (c7 0))) 3 (some (c9 0))) 4 (some (c11 0))) 5 (some (c13 0)))))))) :: (gl 1 c13 (FX1 c13) ++ (gl 1 c11 (FX1 c11) ++ (gl 1 c9 (FX1 c9) ++ (gl 1 c7 (FX1 c7) ++ (gl 1 c5 (FX1 c5) ++ (gl 1 c3 (FX1 c3) ++ [])))))))) : va_W) H := hW
  refine lv_iinc (v := 6) (lv' := [(1, .int 6), (0, .ref h0)]) hx hb dX0_init_34 hl (k := 0) rfl (by decide) (by decide) rfl (fun ls hl => ?_)
  refine lv_goto (tgt := 15) hx hb dX0_init_37 (by decide) ?_
  refine lv_iload_n hx hb dX0_init_15 rfl (lv_at hl 0 rfl) ?_
  refine lv_bipush (v := 8) hx hb dX0_init_16 (by decide) ?_
  refine lv_icmp_ge (tgt := 40) hx hb dX0_init_18 (by decide) (fun c_ => absurd c_ (by decide)) (fun c_ => ?_)
  refine lv_aload_n hx hb dX0_init_21 rfl (lv_at hl 1 rfl) ?_
  refine n_get fd_RX0_11 C hY hW 0 rfl (v := .ref q1) rfl dX0_init_22 ?_
  refine lv_iload_n hx hb dX0_init_25 rfl (lv_at hl 0 rfl) ?_
  refine n_new (ci := 1) (fs := [.int 0, .int 0, .int 0, .int 0, .int 0, .int 0, .int 0]) C hY hW hS hA inT1 tyX1 tyX1_ok kl_RX0_9 kn_RX1 ki_RX1 rfl (lt_cases (lt_cases (lt_cases (lt_cases (lt_cases (lt_cases (lt_cases lt_none rfl) rfl) rfl) rfl) rfl) rfl) rfl) (by decide) (by decide) dX0_init_26 2 (fun q14 H hW hS => ?_)
  have hW : wW G.1 (fun z => z = h0 ∨ sz ≤ z) (((h0, .inr (0, [.ref q1, .null, .null, .int 0, .int 0, .int 0])) :: ((q1, .inl (G.2.1 2, 8, .inr (.inr (.inr (.inr (va_up (va_up (va_up (va_up (va_up (va_up (fun _ => none) 0 (some (c3 0))) 1 (some (c5 0))) 2 (some (c7 0))) 3 (some (c9 0))) 4 (some (c11 0))) 5 (some (c13 0)))))))) :: ((q14, .inr (1, [.int 0, .int 0, .int 0, .int 0, .int 0, .int 0, .int 0])) :: (gl 1 c13 (FX1 c13) ++ (gl 1 c11 (FX1 c11) ++ (gl 1 c9 (FX1 c9) ++ (gl 1 c7 (FX1 c7) ++ (gl 1 c5 (FX1 c5) ++ (gl 1 c3 (FX1 c3) ++ []))))))))) : va_W) H := hW
  refine lv_dup hx hb dX0_init_29 rfl ?_
  refine n_after hW hS hA 2 rfl (n_runIN (rest := [.ref q14, .int 6, .ref q1]) kcode_yX1_init ki_RX1 kinst_yX1_init kyd_yX1_init rfl ln_RX0_17 C hY hW hS hAb 2 rfl (c_yX1_init l G q14 H.size) ⟨rfl, rfl, by decide, by decide⟩ hl.1 (Nat.le_of_ble_eq_true rfl) ⟨by decide, by decide⟩ dX0_init_30) (fun c15 H locs hc_ hW hS => ?_)
  subst hc_
  have hW : wW G.1 (fun z => z = h0 ∨ sz ≤ z) (((h0, .inr (0, [.ref q1, .null, .null, .int 0, .int 0, .int 0])) :: ((q1, .inl (G.2.1 2, 8, .inr (.inr (.inr (.inr (va_up (va_up (va_up (va_up (va_up (va_up (fun _ => none) 0 (some (c3 0))) 1 (some (c5 0))) 2 (some (c7 0))) 3 (some (c9 0))) 4 (some (c11 0))) 5 (some (c13 0)))))))) :: (gl 1 c15 (FX1 c15) ++ (gl 1 c13 (FX1 c13) ++ (gl 1 c11 (FX1 c11) ++ (gl 1 c9 (FX1 c9) ++ (gl 1 c7 (FX1 c7) ++ (gl 1 c5 (FX1 c5) ++ (gl 1 c3 (FX1 c3) ++ []))))))))) : va_W) H := hW
  refine n_aast C hY hW hS 1 2 2 1 rfl rfl (r := (RX1, TX1, 7)) rfl rfl (i := 6) (by decide) (by decide) (by decide) dX0_init_33 (fun H locs hW hS => ?_)
  have hW : wW G.1 (fun z => z = h0 ∨ sz ≤ z) (((h0, .inr (0, [.ref q1, .null, .null, .int 0, .int 0, .int 0])) :: ((q1, .inl (G.2.1 2, 8, .inr (.inr (.inr (.inr (va_up (va_up (va_up (va_up (va_up (va_up (va_up (fun _ => none) 0 (some (c3 0))) 1 (some (c5 0))) 2 (some (c7 0))) 3 (some (c9 0))) 4 (some (c11 0))) 5 (some (c13 0))) 6 (some (c15 0)))))))) :: (gl 1 c15 (FX1 c15) ++ (gl 1 c13 (FX1 c13) ++ (gl 1 c11 (FX1 c11) ++ (gl 1 c9 (FX1 c9) ++ (gl 1 c7 (FX1 c7) ++ (gl 1 c5 (FX1 c5) ++ (gl 1 c3 (FX1 c3) ++ []))))))))) : va_W) H := hW
  refine lv_iinc (v := 7) (lv' := [(1, .int 7), (0, .ref h0)]) hx hb dX0_init_34 hl (k := 0) rfl (by decide) (by decide) rfl (fun ls hl => ?_)
  refine lv_goto (tgt := 15) hx hb dX0_init_37 (by decide) ?_
  refine lv_iload_n hx hb dX0_init_15 rfl (lv_at hl 0 rfl) ?_
  refine lv_bipush (v := 8) hx hb dX0_init_16 (by decide) ?_
  refine lv_icmp_ge (tgt := 40) hx hb dX0_init_18 (by decide) (fun c_ => absurd c_ (by decide)) (fun c_ => ?_)
  refine lv_aload_n hx hb dX0_init_21 rfl (lv_at hl 1 rfl) ?_
  refine n_get fd_RX0_11 C hY hW 0 rfl (v := .ref q1) rfl dX0_init_22 ?_
  refine lv_iload_n hx hb dX0_init_25 rfl (lv_at hl 0 rfl) ?_
  refine n_new (ci := 1) (fs := [.int 0, .int 0, .int 0, .int 0, .int 0, .int 0, .int 0]) C hY hW hS hA inT1 tyX1 tyX1_ok kl_RX0_9 kn_RX1 ki_RX1 rfl (lt_cases (lt_cases (lt_cases (lt_cases (lt_cases (lt_cases (lt_cases lt_none rfl) rfl) rfl) rfl) rfl) rfl) rfl) (by decide) (by decide) dX0_init_26 2 (fun q16 H hW hS => ?_)
  have hW : wW G.1 (fun z => z = h0 ∨ sz ≤ z) (((h0, .inr (0, [.ref q1, .null, .null, .int 0, .int 0, .int 0])) :: ((q1, .inl (G.2.1 2, 8, .inr (.inr (.inr (.inr (va_up (va_up (va_up (va_up (va_up (va_up (va_up (fun _ => none) 0 (some (c3 0))) 1 (some (c5 0))) 2 (some (c7 0))) 3 (some (c9 0))) 4 (some (c11 0))) 5 (some (c13 0))) 6 (some (c15 0)))))))) :: ((q16, .inr (1, [.int 0, .int 0, .int 0, .int 0, .int 0, .int 0, .int 0])) :: (gl 1 c15 (FX1 c15) ++ (gl 1 c13 (FX1 c13) ++ (gl 1 c11 (FX1 c11) ++ (gl 1 c9 (FX1 c9) ++ (gl 1 c7 (FX1 c7) ++ (gl 1 c5 (FX1 c5) ++ (gl 1 c3 (FX1 c3) ++ [])))))))))) : va_W) H := hW
  refine lv_dup hx hb dX0_init_29 rfl ?_
  refine n_after hW hS hA 2 rfl (n_runIN (rest := [.ref q16, .int 7, .ref q1]) kcode_yX1_init ki_RX1 kinst_yX1_init kyd_yX1_init rfl ln_RX0_17 C hY hW hS hAb 2 rfl (c_yX1_init l G q16 H.size) ⟨rfl, rfl, by decide, by decide⟩ hl.1 (Nat.le_of_ble_eq_true rfl) ⟨by decide, by decide⟩ dX0_init_30) (fun c17 H locs hc_ hW hS => ?_)
  subst hc_
  have hW : wW G.1 (fun z => z = h0 ∨ sz ≤ z) (((h0, .inr (0, [.ref q1, .null, .null, .int 0, .int 0, .int 0])) :: ((q1, .inl (G.2.1 2, 8, .inr (.inr (.inr (.inr (va_up (va_up (va_up (va_up (va_up (va_up (va_up (fun _ => none) 0 (some (c3 0))) 1 (some (c5 0))) 2 (some (c7 0))) 3 (some (c9 0))) 4 (some (c11 0))) 5 (some (c13 0))) 6 (some (c15 0)))))))) :: (gl 1 c17 (FX1 c17) ++ (gl 1 c15 (FX1 c15) ++ (gl 1 c13 (FX1 c13) ++ (gl 1 c11 (FX1 c11) ++ (gl 1 c9 (FX1 c9) ++ (gl 1 c7 (FX1 c7) ++ (gl 1 c5 (FX1 c5) ++ (gl 1 c3 (FX1 c3) ++ [])))))))))) : va_W) H := hW
  refine n_aast C hY hW hS 1 2 2 1 rfl rfl (r := (RX1, TX1, 7)) rfl rfl (i := 7) (by decide) (by decide) (by decide) dX0_init_33 (fun H locs hW hS => ?_)
  have hW : wW G.1 (fun z => z = h0 ∨ sz ≤ z) (((h0, .inr (0, [.ref q1, .null, .null, .int 0, .int 0, .int 0])) :: ((q1, .inl (G.2.1 2, 8, .inr (.inr (.inr (.inr (va_up (va_up (va_up (va_up (va_up (va_up (va_up (va_up (fun _ => none) 0 (some (c3 0))) 1 (some (c5 0))) 2 (some (c7 0))) 3 (some (c9 0))) 4 (some (c11 0))) 5 (some (c13 0))) 6 (some (c15 0))) 7 (some (c17 0)))))))) :: (gl 1 c17 (FX1 c17) ++ (gl 1 c15 (FX1 c15) ++ (gl 1 c13 (FX1 c13) ++ (gl 1 c11 (FX1 c11) ++ (gl 1 c9 (FX1 c9) ++ (gl 1 c7 (FX1 c7) ++ (gl 1 c5 (FX1 c5) ++ (gl 1 c3 (FX1 c3) ++ [])))))))))) : va_W) H := hW
  refine lv_iinc (v := 8) (lv' := [(1, .int 8), (0, .ref h0)]) hx hb dX0_init_34 hl (k := 0) rfl (by decide) (by decide) rfl (fun ls hl => ?_)
  refine lv_goto (tgt := 15) hx hb dX0_init_37 (by decide) ?_
  refine lv_iload_n hx hb dX0_init_15 rfl (lv_at hl 0 rfl) ?_
  refine lv_bipush (v := 8) hx hb dX0_init_16 (by decide) ?_
  refine lv_icmp_ge (tgt := 40) hx hb dX0_init_18 (by decide) (fun c_ => ?_) (fun c_ => absurd (by decide) c_)
  refine lv_aload_n hx hb dX0_init_40 rfl (lv_at hl 1 rfl) ?_
  refine lv_bipush (v := 6) hx hb dX0_init_41 (by decide) ?_
  refine n_newa (atype := .int) C hY hW hS hA ka_int 0 rfl rfl (N := 6) (fun _ => rfl) rfl (by decide) (by decide) (by decide) (by decide) dX0_init_43 2 (fun q18 H hW hS => ?_)
  have hW : wW G.1 (fun z => z = h0 ∨ sz ≤ z) (((h0, .inr (0, [.ref q1, .null, .null, .int 0, .int 0, .int 0])) :: ((q1, .inl (G.2.1 2, 8, .inr (.inr (.inr (.inr (va_up (va_up (va_up (va_up (va_up (va_up (va_up (va_up (fun _ => none) 0 (some (c3 0))) 1 (some (c5 0))) 2 (some (c7 0))) 3 (some (c9 0))) 4 (some (c11 0))) 5 (some (c13 0))) 6 (some (c15 0))) 7 (some (c17 0)))))))) :: ((q18, .inl (G.2.1 0, 6, .inl (fun _ => (0 : Int32)))) :: (gl 1 c17 (FX1 c17) ++ (gl 1 c15 (FX1 c15) ++ (gl 1 c13 (FX1 c13) ++ (gl 1 c11 (FX1 c11) ++ (gl 1 c9 (FX1 c9) ++ (gl 1 c7 (FX1 c7) ++ (gl 1 c5 (FX1 c5) ++ (gl 1 c3 (FX1 c3) ++ []))))))))))) : va_W) H := hW
  refine n_put fd_RX0_18 C hnm (fun q_ hq_ => by cases hq_; rfl) hY hW hS 0 rfl rfl rfl (Nat.le_of_ble_eq_true rfl) dX0_init_45 (fun H locs hW hS => ?_)
  have hW : wW G.1 (fun z => z = h0 ∨ sz ≤ z) (((h0, .inr (0, [.ref q1, .ref q18, .null, .int 0, .int 0, .int 0])) :: ((q1, .inl (G.2.1 2, 8, .inr (.inr (.inr (.inr (va_up (va_up (va_up (va_up (va_up (va_up (va_up (va_up (fun _ => none) 0 (some (c3 0))) 1 (some (c5 0))) 2 (some (c7 0))) 3 (some (c9 0))) 4 (some (c11 0))) 5 (some (c13 0))) 6 (some (c15 0))) 7 (some (c17 0)))))))) :: ((q18, .inl (G.2.1 0, 6, .inl (fun _ => (0 : Int32)))) :: (gl 1 c17 (FX1 c17) ++ (gl 1 c15 (FX1 c15) ++ (gl 1 c13 (FX1 c13) ++ (gl 1 c11 (FX1 c11) ++ (gl 1 c9 (FX1 c9) ++ (gl 1 c7 (FX1 c7) ++ (gl 1 c5 (FX1 c5) ++ (gl 1 c3 (FX1 c3) ++ []))))))))))) : va_W) H := hW
  refine lv_iconst (v := 0) hx hb dX0_init_48 (by decide) ?_
  refine lv_istore_n (lv' := [(1, .int 0), (0, .ref h0)]) hx hb dX0_init_49 rfl hl (by decide) rfl (fun ls hl => ?_)
  refine lv_iload_n hx hb dX0_init_50 rfl (lv_at hl 0 rfl) ?_
  refine lv_bipush (v := 6) hx hb dX0_init_51 (by decide) ?_
  refine lv_icmp_ge (tgt := 74) hx hb dX0_init_53 (by decide) (fun c_ => absurd c_ (by decide)) (fun c_ => ?_)
  refine lv_aload_n hx hb dX0_init_56 rfl (lv_at hl 1 rfl) ?_
  refine n_get fd_RX0_18 C hY hW 0 rfl (v := .ref q18) rfl dX0_init_57 ?_
  refine lv_iload_n hx hb dX0_init_60 rfl (lv_at hl 0 rfl) ?_
  refine lv_iload_n hx hb dX0_init_61 rfl (lv_at hl 0 rfl) ?_
  refine lv_iload_n hx hb dX0_init_62 rfl (lv_at hl 0 rfl) ?_
  refine lv_iconst (v := 5) hx hb dX0_init_63 (by decide) ?_
  refine g_rd (g_runSN (As := [.int 0, .int 0, .int 5]) (rest := [.int 0, .ref q18]) ky_yX6_sayingOf ln_RX0_22 hY.1 C (c_yX6_sayingOf l 0 0 5) ⟨rfl, rfl, by decide, by decide⟩ rfl hl.1 rfl (Nat.le_of_ble_eq_true rfl) ⟨by decide, by decide⟩ dX0_init_64) ?_
  refine n_iast C hY hW hS 2 rfl (i := 0) (by decide) (by decide) (by decide) dX0_init_67 (fun H locs hW hS => ?_)
  have hW : wW G.1 (fun z => z = h0 ∨ sz ≤ z) (((h0, .inr (0, [.ref q1, .ref q18, .null, .int 0, .int 0, .int 0])) :: ((q1, .inl (G.2.1 2, 8, .inr (.inr (.inr (.inr (va_up (va_up (va_up (va_up (va_up (va_up (va_up (va_up (fun _ => none) 0 (some (c3 0))) 1 (some (c5 0))) 2 (some (c7 0))) 3 (some (c9 0))) 4 (some (c11 0))) 5 (some (c13 0))) 6 (some (c15 0))) 7 (some (c17 0)))))))) :: ((q18, .inl (G.2.1 0, 6, .inl (upd (fun _ => (0 : Int32)) 0 (x_sayingOf 0 0 5)))) :: (gl 1 c17 (FX1 c17) ++ (gl 1 c15 (FX1 c15) ++ (gl 1 c13 (FX1 c13) ++ (gl 1 c11 (FX1 c11) ++ (gl 1 c9 (FX1 c9) ++ (gl 1 c7 (FX1 c7) ++ (gl 1 c5 (FX1 c5) ++ (gl 1 c3 (FX1 c3) ++ []))))))))))) : va_W) H := hW
  refine lv_iinc (v := 1) (lv' := [(1, .int 1), (0, .ref h0)]) hx hb dX0_init_68 hl (k := 0) rfl (by decide) (by decide) rfl (fun ls hl => ?_)
  refine lv_goto (tgt := 50) hx hb dX0_init_71 (by decide) ?_
  refine lv_iload_n hx hb dX0_init_50 rfl (lv_at hl 0 rfl) ?_
  refine lv_bipush (v := 6) hx hb dX0_init_51 (by decide) ?_
  refine lv_icmp_ge (tgt := 74) hx hb dX0_init_53 (by decide) (fun c_ => absurd c_ (by decide)) (fun c_ => ?_)
  refine lv_aload_n hx hb dX0_init_56 rfl (lv_at hl 1 rfl) ?_
  refine n_get fd_RX0_18 C hY hW 0 rfl (v := .ref q18) rfl dX0_init_57 ?_
  refine lv_iload_n hx hb dX0_init_60 rfl (lv_at hl 0 rfl) ?_
  refine lv_iload_n hx hb dX0_init_61 rfl (lv_at hl 0 rfl) ?_
  refine lv_iload_n hx hb dX0_init_62 rfl (lv_at hl 0 rfl) ?_
  refine lv_iconst (v := 5) hx hb dX0_init_63 (by decide) ?_
  refine g_rd (g_runSN (As := [.int 1, .int 1, .int 5]) (rest := [.int 1, .ref q18]) ky_yX6_sayingOf ln_RX0_22 hY.1 C (c_yX6_sayingOf l 1 1 5) ⟨rfl, rfl, by decide, by decide⟩ rfl hl.1 rfl (Nat.le_of_ble_eq_true rfl) ⟨by decide, by decide⟩ dX0_init_64) ?_
  refine n_iast C hY hW hS 2 rfl (i := 1) (by decide) (by decide) (by decide) dX0_init_67 (fun H locs hW hS => ?_)
  have hW : wW G.1 (fun z => z = h0 ∨ sz ≤ z) (((h0, .inr (0, [.ref q1, .ref q18, .null, .int 0, .int 0, .int 0])) :: ((q1, .inl (G.2.1 2, 8, .inr (.inr (.inr (.inr (va_up (va_up (va_up (va_up (va_up (va_up (va_up (va_up (fun _ => none) 0 (some (c3 0))) 1 (some (c5 0))) 2 (some (c7 0))) 3 (some (c9 0))) 4 (some (c11 0))) 5 (some (c13 0))) 6 (some (c15 0))) 7 (some (c17 0)))))))) :: ((q18, .inl (G.2.1 0, 6, .inl (upd (upd (fun _ => (0 : Int32)) 0 (x_sayingOf 0 0 5)) 1 (x_sayingOf 1 1 5)))) :: (gl 1 c17 (FX1 c17) ++ (gl 1 c15 (FX1 c15) ++ (gl 1 c13 (FX1 c13) ++ (gl 1 c11 (FX1 c11) ++ (gl 1 c9 (FX1 c9) ++ (gl 1 c7 (FX1 c7) ++ (gl 1 c5 (FX1 c5) ++ (gl 1 c3 (FX1 c3) ++ []))))))))))) : va_W) H := hW
  refine lv_iinc (v := 2) (lv' := [(1, .int 2), (0, .ref h0)]) hx hb dX0_init_68 hl (k := 0) rfl (by decide) (by decide) rfl (fun ls hl => ?_)
  refine lv_goto (tgt := 50) hx hb dX0_init_71 (by decide) ?_
  refine lv_iload_n hx hb dX0_init_50 rfl (lv_at hl 0 rfl) ?_
  refine lv_bipush (v := 6) hx hb dX0_init_51 (by decide) ?_
  refine lv_icmp_ge (tgt := 74) hx hb dX0_init_53 (by decide) (fun c_ => absurd c_ (by decide)) (fun c_ => ?_)
  refine lv_aload_n hx hb dX0_init_56 rfl (lv_at hl 1 rfl) ?_
  refine n_get fd_RX0_18 C hY hW 0 rfl (v := .ref q18) rfl dX0_init_57 ?_
  refine lv_iload_n hx hb dX0_init_60 rfl (lv_at hl 0 rfl) ?_
  refine lv_iload_n hx hb dX0_init_61 rfl (lv_at hl 0 rfl) ?_
  refine lv_iload_n hx hb dX0_init_62 rfl (lv_at hl 0 rfl) ?_
  refine lv_iconst (v := 5) hx hb dX0_init_63 (by decide) ?_
  refine g_rd (g_runSN (As := [.int 2, .int 2, .int 5]) (rest := [.int 2, .ref q18]) ky_yX6_sayingOf ln_RX0_22 hY.1 C (c_yX6_sayingOf l 2 2 5) ⟨rfl, rfl, by decide, by decide⟩ rfl hl.1 rfl (Nat.le_of_ble_eq_true rfl) ⟨by decide, by decide⟩ dX0_init_64) ?_
  refine n_iast C hY hW hS 2 rfl (i := 2) (by decide) (by decide) (by decide) dX0_init_67 (fun H locs hW hS => ?_)
  have hW : wW G.1 (fun z => z = h0 ∨ sz ≤ z) (((h0, .inr (0, [.ref q1, .ref q18, .null, .int 0, .int 0, .int 0])) :: ((q1, .inl (G.2.1 2, 8, .inr (.inr (.inr (.inr (va_up (va_up (va_up (va_up (va_up (va_up (va_up (va_up (fun _ => none) 0 (some (c3 0))) 1 (some (c5 0))) 2 (some (c7 0))) 3 (some (c9 0))) 4 (some (c11 0))) 5 (some (c13 0))) 6 (some (c15 0))) 7 (some (c17 0)))))))) :: ((q18, .inl (G.2.1 0, 6, .inl (upd (upd (upd (fun _ => (0 : Int32)) 0 (x_sayingOf 0 0 5)) 1 (x_sayingOf 1 1 5)) 2 (x_sayingOf 2 2 5)))) :: (gl 1 c17 (FX1 c17) ++ (gl 1 c15 (FX1 c15) ++ (gl 1 c13 (FX1 c13) ++ (gl 1 c11 (FX1 c11) ++ (gl 1 c9 (FX1 c9) ++ (gl 1 c7 (FX1 c7) ++ (gl 1 c5 (FX1 c5) ++ (gl 1 c3 (FX1 c3) ++ []))))))))))) : va_W) H := hW
  refine lv_iinc (v := 3) (lv' := [(1, .int 3), (0, .ref h0)]) hx hb dX0_init_68 hl (k := 0) rfl (by decide) (by decide) rfl (fun ls hl => ?_)
  refine lv_goto (tgt := 50) hx hb dX0_init_71 (by decide) ?_
  refine lv_iload_n hx hb dX0_init_50 rfl (lv_at hl 0 rfl) ?_
  refine lv_bipush (v := 6) hx hb dX0_init_51 (by decide) ?_
  refine lv_icmp_ge (tgt := 74) hx hb dX0_init_53 (by decide) (fun c_ => absurd c_ (by decide)) (fun c_ => ?_)
  refine lv_aload_n hx hb dX0_init_56 rfl (lv_at hl 1 rfl) ?_
  refine n_get fd_RX0_18 C hY hW 0 rfl (v := .ref q18) rfl dX0_init_57 ?_
  refine lv_iload_n hx hb dX0_init_60 rfl (lv_at hl 0 rfl) ?_
  refine lv_iload_n hx hb dX0_init_61 rfl (lv_at hl 0 rfl) ?_
  refine lv_iload_n hx hb dX0_init_62 rfl (lv_at hl 0 rfl) ?_
  refine lv_iconst (v := 5) hx hb dX0_init_63 (by decide) ?_
  refine g_rd (g_runSN (As := [.int 3, .int 3, .int 5]) (rest := [.int 3, .ref q18]) ky_yX6_sayingOf ln_RX0_22 hY.1 C (c_yX6_sayingOf l 3 3 5) ⟨rfl, rfl, by decide, by decide⟩ rfl hl.1 rfl (Nat.le_of_ble_eq_true rfl) ⟨by decide, by decide⟩ dX0_init_64) ?_
  refine n_iast C hY hW hS 2 rfl (i := 3) (by decide) (by decide) (by decide) dX0_init_67 (fun H locs hW hS => ?_)
  have hW : wW G.1 (fun z => z = h0 ∨ sz ≤ z) (((h0, .inr (0, [.ref q1, .ref q18, .null, .int 0, .int 0, .int 0])) :: ((q1, .inl (G.2.1 2, 8, .inr (.inr (.inr (.inr (va_up (va_up (va_up (va_up (va_up (va_up (va_up (va_up (fun _ => none) 0 (some (c3 0))) 1 (some (c5 0))) 2 (some (c7 0))) 3 (some (c9 0))) 4 (some (c11 0))) 5 (some (c13 0))) 6 (some (c15 0))) 7 (some (c17 0)))))))) :: ((q18, .inl (G.2.1 0, 6, .inl (upd (upd (upd (upd (fun _ => (0 : Int32)) 0 (x_sayingOf 0 0 5)) 1 (x_sayingOf 1 1 5)) 2 (x_sayingOf 2 2 5)) 3 (x_sayingOf 3 3 5)))) :: (gl 1 c17 (FX1 c17) ++ (gl 1 c15 (FX1 c15) ++ (gl 1 c13 (FX1 c13) ++ (gl 1 c11 (FX1 c11) ++ (gl 1 c9 (FX1 c9) ++ (gl 1 c7 (FX1 c7) ++ (gl 1 c5 (FX1 c5) ++ (gl 1 c3 (FX1 c3) ++ []))))))))))) : va_W) H := hW
  refine lv_iinc (v := 4) (lv' := [(1, .int 4), (0, .ref h0)]) hx hb dX0_init_68 hl (k := 0) rfl (by decide) (by decide) rfl (fun ls hl => ?_)
  refine lv_goto (tgt := 50) hx hb dX0_init_71 (by decide) ?_
  refine lv_iload_n hx hb dX0_init_50 rfl (lv_at hl 0 rfl) ?_
  refine lv_bipush (v := 6) hx hb dX0_init_51 (by decide) ?_
  refine lv_icmp_ge (tgt := 74) hx hb dX0_init_53 (by decide) (fun c_ => absurd c_ (by decide)) (fun c_ => ?_)
  refine lv_aload_n hx hb dX0_init_56 rfl (lv_at hl 1 rfl) ?_
  refine n_get fd_RX0_18 C hY hW 0 rfl (v := .ref q18) rfl dX0_init_57 ?_
  refine lv_iload_n hx hb dX0_init_60 rfl (lv_at hl 0 rfl) ?_
  refine lv_iload_n hx hb dX0_init_61 rfl (lv_at hl 0 rfl) ?_
  refine lv_iload_n hx hb dX0_init_62 rfl (lv_at hl 0 rfl) ?_
  refine lv_iconst (v := 5) hx hb dX0_init_63 (by decide) ?_
  refine g_rd (g_runSN (As := [.int 4, .int 4, .int 5]) (rest := [.int 4, .ref q18]) ky_yX6_sayingOf ln_RX0_22 hY.1 C (c_yX6_sayingOf l 4 4 5) ⟨rfl, rfl, by decide, by decide⟩ rfl hl.1 rfl (Nat.le_of_ble_eq_true rfl) ⟨by decide, by decide⟩ dX0_init_64) ?_
  refine n_iast C hY hW hS 2 rfl (i := 4) (by decide) (by decide) (by decide) dX0_init_67 (fun H locs hW hS => ?_)
  have hW : wW G.1 (fun z => z = h0 ∨ sz ≤ z) (((h0, .inr (0, [.ref q1, .ref q18, .null, .int 0, .int 0, .int 0])) :: ((q1, .inl (G.2.1 2, 8, .inr (.inr (.inr (.inr (va_up (va_up (va_up (va_up (va_up (va_up (va_up (va_up (fun _ => none) 0 (some (c3 0))) 1 (some (c5 0))) 2 (some (c7 0))) 3 (some (c9 0))) 4 (some (c11 0))) 5 (some (c13 0))) 6 (some (c15 0))) 7 (some (c17 0)))))))) :: ((q18, .inl (G.2.1 0, 6, .inl (upd (upd (upd (upd (upd (fun _ => (0 : Int32)) 0 (x_sayingOf 0 0 5)) 1 (x_sayingOf 1 1 5)) 2 (x_sayingOf 2 2 5)) 3 (x_sayingOf 3 3 5)) 4 (x_sayingOf 4 4 5)))) :: (gl 1 c17 (FX1 c17) ++ (gl 1 c15 (FX1 c15) ++ (gl 1 c13 (FX1 c13) ++ (gl 1 c11 (FX1 c11) ++ (gl 1 c9 (FX1 c9) ++ (gl 1 c7 (FX1 c7) ++ (gl 1 c5 (FX1 c5) ++ (gl 1 c3 (FX1 c3) ++ []))))))))))) : va_W) H := hW
  refine lv_iinc (v := 5) (lv' := [(1, .int 5), (0, .ref h0)]) hx hb dX0_init_68 hl (k := 0) rfl (by decide) (by decide) rfl (fun ls hl => ?_)
  refine lv_goto (tgt := 50) hx hb dX0_init_71 (by decide) ?_
  refine lv_iload_n hx hb dX0_init_50 rfl (lv_at hl 0 rfl) ?_
  refine lv_bipush (v := 6) hx hb dX0_init_51 (by decide) ?_
  refine lv_icmp_ge (tgt := 74) hx hb dX0_init_53 (by decide) (fun c_ => absurd c_ (by decide)) (fun c_ => ?_)
  refine lv_aload_n hx hb dX0_init_56 rfl (lv_at hl 1 rfl) ?_
  refine n_get fd_RX0_18 C hY hW 0 rfl (v := .ref q18) rfl dX0_init_57 ?_
  refine lv_iload_n hx hb dX0_init_60 rfl (lv_at hl 0 rfl) ?_
  refine lv_iload_n hx hb dX0_init_61 rfl (lv_at hl 0 rfl) ?_
  refine lv_iload_n hx hb dX0_init_62 rfl (lv_at hl 0 rfl) ?_
  refine lv_iconst (v := 5) hx hb dX0_init_63 (by decide) ?_
  refine g_rd (g_runSN (As := [.int 5, .int 5, .int 5]) (rest := [.int 5, .ref q18]) ky_yX6_sayingOf ln_RX0_22 hY.1 C (c_yX6_sayingOf l 5 5 5) ⟨rfl, rfl, by decide, by decide⟩ rfl hl.1 rfl (Nat.le_of_ble_eq_true rfl) ⟨by decide, by decide⟩ dX0_init_64) ?_
  refine n_iast C hY hW hS 2 rfl (i := 5) (by decide) (by decide) (by decide) dX0_init_67 (fun H locs hW hS => ?_)
  have hW : wW G.1 (fun z => z = h0 ∨ sz ≤ z) (((h0, .inr (0, [.ref q1, .ref q18, .null, .int 0, .int 0, .int 0])) :: ((q1, .inl (G.2.1 2, 8, .inr (.inr (.inr (.inr (va_up (va_up (va_up (va_up (va_up (va_up (va_up (va_up (fun _ => none) 0 (some (c3 0))) 1 (some (c5 0))) 2 (some (c7 0))) 3 (some (c9 0))) 4 (some (c11 0))) 5 (some (c13 0))) 6 (some (c15 0))) 7 (some (c17 0)))))))) :: ((q18, .inl (G.2.1 0, 6, .inl (upd (upd (upd (upd (upd (upd (fun _ => (0 : Int32)) 0 (x_sayingOf 0 0 5)) 1 (x_sayingOf 1 1 5)) 2 (x_sayingOf 2 2 5)) 3 (x_sayingOf 3 3 5)) 4 (x_sayingOf 4 4 5)) 5 (x_sayingOf 5 5 5)))) :: (gl 1 c17 (FX1 c17) ++ (gl 1 c15 (FX1 c15) ++ (gl 1 c13 (FX1 c13) ++ (gl 1 c11 (FX1 c11) ++ (gl 1 c9 (FX1 c9) ++ (gl 1 c7 (FX1 c7) ++ (gl 1 c5 (FX1 c5) ++ (gl 1 c3 (FX1 c3) ++ []))))))))))) : va_W) H := hW
  refine lv_iinc (v := 6) (lv' := [(1, .int 6), (0, .ref h0)]) hx hb dX0_init_68 hl (k := 0) rfl (by decide) (by decide) rfl (fun ls hl => ?_)
  refine lv_goto (tgt := 50) hx hb dX0_init_71 (by decide) ?_
  refine lv_iload_n hx hb dX0_init_50 rfl (lv_at hl 0 rfl) ?_
  refine lv_bipush (v := 6) hx hb dX0_init_51 (by decide) ?_
  refine lv_icmp_ge (tgt := 74) hx hb dX0_init_53 (by decide) (fun c_ => ?_) (fun c_ => absurd (by decide) c_)
  refine lv_aload_n hx hb dX0_init_74 rfl (lv_at hl 1 rfl) ?_
  refine lv_bipush (v := 10) hx hb dX0_init_75 (by decide) ?_
  refine n_newa (atype := .int) C hY hW hS hA ka_int 0 rfl rfl (N := 10) (fun _ => rfl) rfl (by decide) (by decide) (by decide) (by decide) dX0_init_77 2 (fun q19 H hW hS => ?_)
  have hW : wW G.1 (fun z => z = h0 ∨ sz ≤ z) (((h0, .inr (0, [.ref q1, .ref q18, .null, .int 0, .int 0, .int 0])) :: ((q1, .inl (G.2.1 2, 8, .inr (.inr (.inr (.inr (va_up (va_up (va_up (va_up (va_up (va_up (va_up (va_up (fun _ => none) 0 (some (c3 0))) 1 (some (c5 0))) 2 (some (c7 0))) 3 (some (c9 0))) 4 (some (c11 0))) 5 (some (c13 0))) 6 (some (c15 0))) 7 (some (c17 0)))))))) :: ((q19, .inl (G.2.1 0, 10, .inl (fun _ => (0 : Int32)))) :: ((q18, .inl (G.2.1 0, 6, .inl (upd (upd (upd (upd (upd (upd (fun _ => (0 : Int32)) 0 (x_sayingOf 0 0 5)) 1 (x_sayingOf 1 1 5)) 2 (x_sayingOf 2 2 5)) 3 (x_sayingOf 3 3 5)) 4 (x_sayingOf 4 4 5)) 5 (x_sayingOf 5 5 5)))) :: (gl 1 c17 (FX1 c17) ++ (gl 1 c15 (FX1 c15) ++ (gl 1 c13 (FX1 c13) ++ (gl 1 c11 (FX1 c11) ++ (gl 1 c9 (FX1 c9) ++ (gl 1 c7 (FX1 c7) ++ (gl 1 c5 (FX1 c5) ++ (gl 1 c3 (FX1 c3) ++ [])))))))))))) : va_W) H := hW
  refine n_put fd_RX0_26 C hnm (fun q_ hq_ => by cases hq_; rfl) hY hW hS 0 rfl rfl rfl (Nat.le_of_ble_eq_true rfl) dX0_init_79 (fun H locs hW hS => ?_)
  have hW : wW G.1 (fun z => z = h0 ∨ sz ≤ z) (((h0, .inr (0, [.ref q1, .ref q18, .ref q19, .int 0, .int 0, .int 0])) :: ((q1, .inl (G.2.1 2, 8, .inr (.inr (.inr (.inr (va_up (va_up (va_up (va_up (va_up (va_up (va_up (va_up (fun _ => none) 0 (some (c3 0))) 1 (some (c5 0))) 2 (some (c7 0))) 3 (some (c9 0))) 4 (some (c11 0))) 5 (some (c13 0))) 6 (some (c15 0))) 7 (some (c17 0)))))))) :: ((q19, .inl (G.2.1 0, 10, .inl (fun _ => (0 : Int32)))) :: ((q18, .inl (G.2.1 0, 6, .inl (upd (upd (upd (upd (upd (upd (fun _ => (0 : Int32)) 0 (x_sayingOf 0 0 5)) 1 (x_sayingOf 1 1 5)) 2 (x_sayingOf 2 2 5)) 3 (x_sayingOf 3 3 5)) 4 (x_sayingOf 4 4 5)) 5 (x_sayingOf 5 5 5)))) :: (gl 1 c17 (FX1 c17) ++ (gl 1 c15 (FX1 c15) ++ (gl 1 c13 (FX1 c13) ++ (gl 1 c11 (FX1 c11) ++ (gl 1 c9 (FX1 c9) ++ (gl 1 c7 (FX1 c7) ++ (gl 1 c5 (FX1 c5) ++ (gl 1 c3 (FX1 c3) ++ [])))))))))))) : va_W) H := hW
  refine lv_iconst (v := 0) hx hb dX0_init_82 (by decide) ?_
  refine lv_istore_n (lv' := [(1, .int 0), (0, .ref h0)]) hx hb dX0_init_83 rfl hl (by decide) rfl (fun ls hl => ?_)
  refine lv_iload_n hx hb dX0_init_84 rfl (lv_at hl 0 rfl) ?_
  refine lv_bipush (v := 10) hx hb dX0_init_85 (by decide) ?_
  refine lv_icmp_ge (tgt := 103) hx hb dX0_init_87 (by decide) (fun c_ => absurd c_ (by decide)) (fun c_ => ?_)
  refine lv_aload_n hx hb dX0_init_90 rfl (lv_at hl 1 rfl) ?_
  refine n_get fd_RX0_26 C hY hW 0 rfl (v := .ref q19) rfl dX0_init_91 ?_
  refine lv_iload_n hx hb dX0_init_94 rfl (lv_at hl 0 rfl) ?_
  refine lv_iconst (v := (-1)) hx hb dX0_init_95 (by decide) ?_
  refine n_iast C hY hW hS 2 rfl (i := 0) (by decide) (by decide) (by decide) dX0_init_96 (fun H locs hW hS => ?_)
  have hW : wW G.1 (fun z => z = h0 ∨ sz ≤ z) (((h0, .inr (0, [.ref q1, .ref q18, .ref q19, .int 0, .int 0, .int 0])) :: ((q1, .inl (G.2.1 2, 8, .inr (.inr (.inr (.inr (va_up (va_up (va_up (va_up (va_up (va_up (va_up (va_up (fun _ => none) 0 (some (c3 0))) 1 (some (c5 0))) 2 (some (c7 0))) 3 (some (c9 0))) 4 (some (c11 0))) 5 (some (c13 0))) 6 (some (c15 0))) 7 (some (c17 0)))))))) :: ((q19, .inl (G.2.1 0, 10, .inl (upd (fun _ => (0 : Int32)) 0 (-1)))) :: ((q18, .inl (G.2.1 0, 6, .inl (upd (upd (upd (upd (upd (upd (fun _ => (0 : Int32)) 0 (x_sayingOf 0 0 5)) 1 (x_sayingOf 1 1 5)) 2 (x_sayingOf 2 2 5)) 3 (x_sayingOf 3 3 5)) 4 (x_sayingOf 4 4 5)) 5 (x_sayingOf 5 5 5)))) :: (gl 1 c17 (FX1 c17) ++ (gl 1 c15 (FX1 c15) ++ (gl 1 c13 (FX1 c13) ++ (gl 1 c11 (FX1 c11) ++ (gl 1 c9 (FX1 c9) ++ (gl 1 c7 (FX1 c7) ++ (gl 1 c5 (FX1 c5) ++ (gl 1 c3 (FX1 c3) ++ [])))))))))))) : va_W) H := hW
  refine lv_iinc (v := 1) (lv' := [(1, .int 1), (0, .ref h0)]) hx hb dX0_init_97 hl (k := 0) rfl (by decide) (by decide) rfl (fun ls hl => ?_)
  refine lv_goto (tgt := 84) hx hb dX0_init_100 (by decide) ?_
  refine lv_iload_n hx hb dX0_init_84 rfl (lv_at hl 0 rfl) ?_
  refine lv_bipush (v := 10) hx hb dX0_init_85 (by decide) ?_
  refine lv_icmp_ge (tgt := 103) hx hb dX0_init_87 (by decide) (fun c_ => absurd c_ (by decide)) (fun c_ => ?_)
  refine lv_aload_n hx hb dX0_init_90 rfl (lv_at hl 1 rfl) ?_
  refine n_get fd_RX0_26 C hY hW 0 rfl (v := .ref q19) rfl dX0_init_91 ?_
  refine lv_iload_n hx hb dX0_init_94 rfl (lv_at hl 0 rfl) ?_
  refine lv_iconst (v := (-1)) hx hb dX0_init_95 (by decide) ?_
  refine n_iast C hY hW hS 2 rfl (i := 1) (by decide) (by decide) (by decide) dX0_init_96 (fun H locs hW hS => ?_)
  have hW : wW G.1 (fun z => z = h0 ∨ sz ≤ z) (((h0, .inr (0, [.ref q1, .ref q18, .ref q19, .int 0, .int 0, .int 0])) :: ((q1, .inl (G.2.1 2, 8, .inr (.inr (.inr (.inr (va_up (va_up (va_up (va_up (va_up (va_up (va_up (va_up (fun _ => none) 0 (some (c3 0))) 1 (some (c5 0))) 2 (some (c7 0))) 3 (some (c9 0))) 4 (some (c11 0))) 5 (some (c13 0))) 6 (some (c15 0))) 7 (some (c17 0)))))))) :: ((q19, .inl (G.2.1 0, 10, .inl (upd (upd (fun _ => (0 : Int32)) 0 (-1)) 1 (-1)))) :: ((q18, .inl (G.2.1 0, 6, .inl (upd (upd (upd (upd (upd (upd (fun _ => (0 : Int32)) 0 (x_sayingOf 0 0 5)) 1 (x_sayingOf 1 1 5)) 2 (x_sayingOf 2 2 5)) 3 (x_sayingOf 3 3 5)) 4 (x_sayingOf 4 4 5)) 5 (x_sayingOf 5 5 5)))) :: (gl 1 c17 (FX1 c17) ++ (gl 1 c15 (FX1 c15) ++ (gl 1 c13 (FX1 c13) ++ (gl 1 c11 (FX1 c11) ++ (gl 1 c9 (FX1 c9) ++ (gl 1 c7 (FX1 c7) ++ (gl 1 c5 (FX1 c5) ++ (gl 1 c3 (FX1 c3) ++ [])))))))))))) : va_W) H := hW
  refine lv_iinc (v := 2) (lv' := [(1, .int 2), (0, .ref h0)]) hx hb dX0_init_97 hl (k := 0) rfl (by decide) (by decide) rfl (fun ls hl => ?_)
  refine lv_goto (tgt := 84) hx hb dX0_init_100 (by decide) ?_
  refine lv_iload_n hx hb dX0_init_84 rfl (lv_at hl 0 rfl) ?_
  refine lv_bipush (v := 10) hx hb dX0_init_85 (by decide) ?_
  refine lv_icmp_ge (tgt := 103) hx hb dX0_init_87 (by decide) (fun c_ => absurd c_ (by decide)) (fun c_ => ?_)
  refine lv_aload_n hx hb dX0_init_90 rfl (lv_at hl 1 rfl) ?_
  refine n_get fd_RX0_26 C hY hW 0 rfl (v := .ref q19) rfl dX0_init_91 ?_
  refine lv_iload_n hx hb dX0_init_94 rfl (lv_at hl 0 rfl) ?_
  refine lv_iconst (v := (-1)) hx hb dX0_init_95 (by decide) ?_
  refine n_iast C hY hW hS 2 rfl (i := 2) (by decide) (by decide) (by decide) dX0_init_96 (fun H locs hW hS => ?_)
  have hW : wW G.1 (fun z => z = h0 ∨ sz ≤ z) (((h0, .inr (0, [.ref q1, .ref q18, .ref q19, .int 0, .int 0, .int 0])) :: ((q1, .inl (G.2.1 2, 8, .inr (.inr (.inr (.inr (va_up (va_up (va_up (va_up (va_up (va_up (va_up (va_up (fun _ => none) 0 (some (c3 0))) 1 (some (c5 0))) 2 (some (c7 0))) 3 (some (c9 0))) 4 (some (c11 0))) 5 (some (c13 0))) 6 (some (c15 0))) 7 (some (c17 0)))))))) :: ((q19, .inl (G.2.1 0, 10, .inl (upd (upd (upd (fun _ => (0 : Int32)) 0 (-1)) 1 (-1)) 2 (-1)))) :: ((q18, .inl (G.2.1 0, 6, .inl (upd (upd (upd (upd (upd (upd (fun _ => (0 : Int32)) 0 (x_sayingOf 0 0 5)) 1 (x_sayingOf 1 1 5)) 2 (x_sayingOf 2 2 5)) 3 (x_sayingOf 3 3 5)) 4 (x_sayingOf 4 4 5)) 5 (x_sayingOf 5 5 5)))) :: (gl 1 c17 (FX1 c17) ++ (gl 1 c15 (FX1 c15) ++ (gl 1 c13 (FX1 c13) ++ (gl 1 c11 (FX1 c11) ++ (gl 1 c9 (FX1 c9) ++ (gl 1 c7 (FX1 c7) ++ (gl 1 c5 (FX1 c5) ++ (gl 1 c3 (FX1 c3) ++ [])))))))))))) : va_W) H := hW
  refine lv_iinc (v := 3) (lv' := [(1, .int 3), (0, .ref h0)]) hx hb dX0_init_97 hl (k := 0) rfl (by decide) (by decide) rfl (fun ls hl => ?_)
  refine lv_goto (tgt := 84) hx hb dX0_init_100 (by decide) ?_
  refine lv_iload_n hx hb dX0_init_84 rfl (lv_at hl 0 rfl) ?_
  refine lv_bipush (v := 10) hx hb dX0_init_85 (by decide) ?_
  refine lv_icmp_ge (tgt := 103) hx hb dX0_init_87 (by decide) (fun c_ => absurd c_ (by decide)) (fun c_ => ?_)
  refine lv_aload_n hx hb dX0_init_90 rfl (lv_at hl 1 rfl) ?_
  refine n_get fd_RX0_26 C hY hW 0 rfl (v := .ref q19) rfl dX0_init_91 ?_
  refine lv_iload_n hx hb dX0_init_94 rfl (lv_at hl 0 rfl) ?_
  refine lv_iconst (v := (-1)) hx hb dX0_init_95 (by decide) ?_
  refine n_iast C hY hW hS 2 rfl (i := 3) (by decide) (by decide) (by decide) dX0_init_96 (fun H locs hW hS => ?_)
  have hW : wW G.1 (fun z => z = h0 ∨ sz ≤ z) (((h0, .inr (0, [.ref q1, .ref q18, .ref q19, .int 0, .int 0, .int 0])) :: ((q1, .inl (G.2.1 2, 8, .inr (.inr (.inr (.inr (va_up (va_up (va_up (va_up (va_up (va_up (va_up (va_up (fun _ => none) 0 (some (c3 0))) 1 (some (c5 0))) 2 (some (c7 0))) 3 (some (c9 0))) 4 (some (c11 0))) 5 (some (c13 0))) 6 (some (c15 0))) 7 (some (c17 0)))))))) :: ((q19, .inl (G.2.1 0, 10, .inl (upd (upd (upd (upd (fun _ => (0 : Int32)) 0 (-1)) 1 (-1)) 2 (-1)) 3 (-1)))) :: ((q18, .inl (G.2.1 0, 6, .inl (upd (upd (upd (upd (upd (upd (fun _ => (0 : Int32)) 0 (x_sayingOf 0 0 5)) 1 (x_sayingOf 1 1 5)) 2 (x_sayingOf 2 2 5)) 3 (x_sayingOf 3 3 5)) 4 (x_sayingOf 4 4 5)) 5 (x_sayingOf 5 5 5)))) :: (gl 1 c17 (FX1 c17) ++ (gl 1 c15 (FX1 c15) ++ (gl 1 c13 (FX1 c13) ++ (gl 1 c11 (FX1 c11) ++ (gl 1 c9 (FX1 c9) ++ (gl 1 c7 (FX1 c7) ++ (gl 1 c5 (FX1 c5) ++ (gl 1 c3 (FX1 c3) ++ [])))))))))))) : va_W) H := hW
  refine lv_iinc (v := 4) (lv' := [(1, .int 4), (0, .ref h0)]) hx hb dX0_init_97 hl (k := 0) rfl (by decide) (by decide) rfl (fun ls hl => ?_)
  refine lv_goto (tgt := 84) hx hb dX0_init_100 (by decide) ?_
  refine lv_iload_n hx hb dX0_init_84 rfl (lv_at hl 0 rfl) ?_
  refine lv_bipush (v := 10) hx hb dX0_init_85 (by decide) ?_
  refine lv_icmp_ge (tgt := 103) hx hb dX0_init_87 (by decide) (fun c_ => absurd c_ (by decide)) (fun c_ => ?_)
  refine lv_aload_n hx hb dX0_init_90 rfl (lv_at hl 1 rfl) ?_
  refine n_get fd_RX0_26 C hY hW 0 rfl (v := .ref q19) rfl dX0_init_91 ?_
  refine lv_iload_n hx hb dX0_init_94 rfl (lv_at hl 0 rfl) ?_
  refine lv_iconst (v := (-1)) hx hb dX0_init_95 (by decide) ?_
  refine n_iast C hY hW hS 2 rfl (i := 4) (by decide) (by decide) (by decide) dX0_init_96 (fun H locs hW hS => ?_)
  have hW : wW G.1 (fun z => z = h0 ∨ sz ≤ z) (((h0, .inr (0, [.ref q1, .ref q18, .ref q19, .int 0, .int 0, .int 0])) :: ((q1, .inl (G.2.1 2, 8, .inr (.inr (.inr (.inr (va_up (va_up (va_up (va_up (va_up (va_up (va_up (va_up (fun _ => none) 0 (some (c3 0))) 1 (some (c5 0))) 2 (some (c7 0))) 3 (some (c9 0))) 4 (some (c11 0))) 5 (some (c13 0))) 6 (some (c15 0))) 7 (some (c17 0)))))))) :: ((q19, .inl (G.2.1 0, 10, .inl (upd (upd (upd (upd (upd (fun _ => (0 : Int32)) 0 (-1)) 1 (-1)) 2 (-1)) 3 (-1)) 4 (-1)))) :: ((q18, .inl (G.2.1 0, 6, .inl (upd (upd (upd (upd (upd (upd (fun _ => (0 : Int32)) 0 (x_sayingOf 0 0 5)) 1 (x_sayingOf 1 1 5)) 2 (x_sayingOf 2 2 5)) 3 (x_sayingOf 3 3 5)) 4 (x_sayingOf 4 4 5)) 5 (x_sayingOf 5 5 5)))) :: (gl 1 c17 (FX1 c17) ++ (gl 1 c15 (FX1 c15) ++ (gl 1 c13 (FX1 c13) ++ (gl 1 c11 (FX1 c11) ++ (gl 1 c9 (FX1 c9) ++ (gl 1 c7 (FX1 c7) ++ (gl 1 c5 (FX1 c5) ++ (gl 1 c3 (FX1 c3) ++ [])))))))))))) : va_W) H := hW
  refine lv_iinc (v := 5) (lv' := [(1, .int 5), (0, .ref h0)]) hx hb dX0_init_97 hl (k := 0) rfl (by decide) (by decide) rfl (fun ls hl => ?_)
  refine lv_goto (tgt := 84) hx hb dX0_init_100 (by decide) ?_
  refine lv_iload_n hx hb dX0_init_84 rfl (lv_at hl 0 rfl) ?_
  refine lv_bipush (v := 10) hx hb dX0_init_85 (by decide) ?_
  refine lv_icmp_ge (tgt := 103) hx hb dX0_init_87 (by decide) (fun c_ => absurd c_ (by decide)) (fun c_ => ?_)
  refine lv_aload_n hx hb dX0_init_90 rfl (lv_at hl 1 rfl) ?_
  refine n_get fd_RX0_26 C hY hW 0 rfl (v := .ref q19) rfl dX0_init_91 ?_
  refine lv_iload_n hx hb dX0_init_94 rfl (lv_at hl 0 rfl) ?_
  refine lv_iconst (v := (-1)) hx hb dX0_init_95 (by decide) ?_
  refine n_iast C hY hW hS 2 rfl (i := 5) (by decide) (by decide) (by decide) dX0_init_96 (fun H locs hW hS => ?_)
  have hW : wW G.1 (fun z => z = h0 ∨ sz ≤ z) (((h0, .inr (0, [.ref q1, .ref q18, .ref q19, .int 0, .int 0, .int 0])) :: ((q1, .inl (G.2.1 2, 8, .inr (.inr (.inr (.inr (va_up (va_up (va_up (va_up (va_up (va_up (va_up (va_up (fun _ => none) 0 (some (c3 0))) 1 (some (c5 0))) 2 (some (c7 0))) 3 (some (c9 0))) 4 (some (c11 0))) 5 (some (c13 0))) 6 (some (c15 0))) 7 (some (c17 0)))))))) :: ((q19, .inl (G.2.1 0, 10, .inl (upd (upd (upd (upd (upd (upd (fun _ => (0 : Int32)) 0 (-1)) 1 (-1)) 2 (-1)) 3 (-1)) 4 (-1)) 5 (-1)))) :: ((q18, .inl (G.2.1 0, 6, .inl (upd (upd (upd (upd (upd (upd (fun _ => (0 : Int32)) 0 (x_sayingOf 0 0 5)) 1 (x_sayingOf 1 1 5)) 2 (x_sayingOf 2 2 5)) 3 (x_sayingOf 3 3 5)) 4 (x_sayingOf 4 4 5)) 5 (x_sayingOf 5 5 5)))) :: (gl 1 c17 (FX1 c17) ++ (gl 1 c15 (FX1 c15) ++ (gl 1 c13 (FX1 c13) ++ (gl 1 c11 (FX1 c11) ++ (gl 1 c9 (FX1 c9) ++ (gl 1 c7 (FX1 c7) ++ (gl 1 c5 (FX1 c5) ++ (gl 1 c3 (FX1 c3) ++ [])))))))))))) : va_W) H := hW
  refine lv_iinc (v := 6) (lv' := [(1, .int 6), (0, .ref h0)]) hx hb dX0_init_97 hl (k := 0) rfl (by decide) (by decide) rfl (fun ls hl => ?_)
  refine lv_goto (tgt := 84) hx hb dX0_init_100 (by decide) ?_
  refine lv_iload_n hx hb dX0_init_84 rfl (lv_at hl 0 rfl) ?_
  refine lv_bipush (v := 10) hx hb dX0_init_85 (by decide) ?_
  refine lv_icmp_ge (tgt := 103) hx hb dX0_init_87 (by decide) (fun c_ => absurd c_ (by decide)) (fun c_ => ?_)
  refine lv_aload_n hx hb dX0_init_90 rfl (lv_at hl 1 rfl) ?_
  refine n_get fd_RX0_26 C hY hW 0 rfl (v := .ref q19) rfl dX0_init_91 ?_
  refine lv_iload_n hx hb dX0_init_94 rfl (lv_at hl 0 rfl) ?_
  refine lv_iconst (v := (-1)) hx hb dX0_init_95 (by decide) ?_
  refine n_iast C hY hW hS 2 rfl (i := 6) (by decide) (by decide) (by decide) dX0_init_96 (fun H locs hW hS => ?_)
  have hW : wW G.1 (fun z => z = h0 ∨ sz ≤ z) (((h0, .inr (0, [.ref q1, .ref q18, .ref q19, .int 0, .int 0, .int 0])) :: ((q1, .inl (G.2.1 2, 8, .inr (.inr (.inr (.inr (va_up (va_up (va_up (va_up (va_up (va_up (va_up (va_up (fun _ => none) 0 (some (c3 0))) 1 (some (c5 0))) 2 (some (c7 0))) 3 (some (c9 0))) 4 (some (c11 0))) 5 (some (c13 0))) 6 (some (c15 0))) 7 (some (c17 0)))))))) :: ((q19, .inl (G.2.1 0, 10, .inl (upd (upd (upd (upd (upd (upd (upd (fun _ => (0 : Int32)) 0 (-1)) 1 (-1)) 2 (-1)) 3 (-1)) 4 (-1)) 5 (-1)) 6 (-1)))) :: ((q18, .inl (G.2.1 0, 6, .inl (upd (upd (upd (upd (upd (upd (fun _ => (0 : Int32)) 0 (x_sayingOf 0 0 5)) 1 (x_sayingOf 1 1 5)) 2 (x_sayingOf 2 2 5)) 3 (x_sayingOf 3 3 5)) 4 (x_sayingOf 4 4 5)) 5 (x_sayingOf 5 5 5)))) :: (gl 1 c17 (FX1 c17) ++ (gl 1 c15 (FX1 c15) ++ (gl 1 c13 (FX1 c13) ++ (gl 1 c11 (FX1 c11) ++ (gl 1 c9 (FX1 c9) ++ (gl 1 c7 (FX1 c7) ++ (gl 1 c5 (FX1 c5) ++ (gl 1 c3 (FX1 c3) ++ [])))))))))))) : va_W) H := hW
  refine lv_iinc (v := 7) (lv' := [(1, .int 7), (0, .ref h0)]) hx hb dX0_init_97 hl (k := 0) rfl (by decide) (by decide) rfl (fun ls hl => ?_)
  refine lv_goto (tgt := 84) hx hb dX0_init_100 (by decide) ?_
  refine lv_iload_n hx hb dX0_init_84 rfl (lv_at hl 0 rfl) ?_
  refine lv_bipush (v := 10) hx hb dX0_init_85 (by decide) ?_
  refine lv_icmp_ge (tgt := 103) hx hb dX0_init_87 (by decide) (fun c_ => absurd c_ (by decide)) (fun c_ => ?_)
  refine lv_aload_n hx hb dX0_init_90 rfl (lv_at hl 1 rfl) ?_
  refine n_get fd_RX0_26 C hY hW 0 rfl (v := .ref q19) rfl dX0_init_91 ?_
  refine lv_iload_n hx hb dX0_init_94 rfl (lv_at hl 0 rfl) ?_
  refine lv_iconst (v := (-1)) hx hb dX0_init_95 (by decide) ?_
  refine n_iast C hY hW hS 2 rfl (i := 7) (by decide) (by decide) (by decide) dX0_init_96 (fun H locs hW hS => ?_)
  have hW : wW G.1 (fun z => z = h0 ∨ sz ≤ z) (((h0, .inr (0, [.ref q1, .ref q18, .ref q19, .int 0, .int 0, .int 0])) :: ((q1, .inl (G.2.1 2, 8, .inr (.inr (.inr (.inr (va_up (va_up (va_up (va_up (va_up (va_up (va_up (va_up (fun _ => none) 0 (some (c3 0))) 1 (some (c5 0))) 2 (some (c7 0))) 3 (some (c9 0))) 4 (some (c11 0))) 5 (some (c13 0))) 6 (some (c15 0))) 7 (some (c17 0)))))))) :: ((q19, .inl (G.2.1 0, 10, .inl (upd (upd (upd (upd (upd (upd (upd (upd (fun _ => (0 : Int32)) 0 (-1)) 1 (-1)) 2 (-1)) 3 (-1)) 4 (-1)) 5 (-1)) 6 (-1)) 7 (-1)))) :: ((q18, .inl (G.2.1 0, 6, .inl (upd (upd (upd (upd (upd (upd (fun _ => (0 : Int32)) 0 (x_sayingOf 0 0 5)) 1 (x_sayingOf 1 1 5)) 2 (x_sayingOf 2 2 5)) 3 (x_sayingOf 3 3 5)) 4 (x_sayingOf 4 4 5)) 5 (x_sayingOf 5 5 5)))) :: (gl 1 c17 (FX1 c17) ++ (gl 1 c15 (FX1 c15) ++ (gl 1 c13 (FX1 c13) ++ (gl 1 c11 (FX1 c11) ++ (gl 1 c9 (FX1 c9) ++ (gl 1 c7 (FX1 c7) ++ (gl 1 c5 (FX1 c5) ++ (gl 1 c3 (FX1 c3) ++ [])))))))))))) : va_W) H := hW
  refine lv_iinc (v := 8) (lv' := [(1, .int 8), (0, .ref h0)]) hx hb dX0_init_97 hl (k := 0) rfl (by decide) (by decide) rfl (fun ls hl => ?_)
  refine lv_goto (tgt := 84) hx hb dX0_init_100 (by decide) ?_
  refine lv_iload_n hx hb dX0_init_84 rfl (lv_at hl 0 rfl) ?_
  refine lv_bipush (v := 10) hx hb dX0_init_85 (by decide) ?_
  refine lv_icmp_ge (tgt := 103) hx hb dX0_init_87 (by decide) (fun c_ => absurd c_ (by decide)) (fun c_ => ?_)
  refine lv_aload_n hx hb dX0_init_90 rfl (lv_at hl 1 rfl) ?_
  refine n_get fd_RX0_26 C hY hW 0 rfl (v := .ref q19) rfl dX0_init_91 ?_
  refine lv_iload_n hx hb dX0_init_94 rfl (lv_at hl 0 rfl) ?_
  refine lv_iconst (v := (-1)) hx hb dX0_init_95 (by decide) ?_
  refine n_iast C hY hW hS 2 rfl (i := 8) (by decide) (by decide) (by decide) dX0_init_96 (fun H locs hW hS => ?_)
  have hW : wW G.1 (fun z => z = h0 ∨ sz ≤ z) (((h0, .inr (0, [.ref q1, .ref q18, .ref q19, .int 0, .int 0, .int 0])) :: ((q1, .inl (G.2.1 2, 8, .inr (.inr (.inr (.inr (va_up (va_up (va_up (va_up (va_up (va_up (va_up (va_up (fun _ => none) 0 (some (c3 0))) 1 (some (c5 0))) 2 (some (c7 0))) 3 (some (c9 0))) 4 (some (c11 0))) 5 (some (c13 0))) 6 (some (c15 0))) 7 (some (c17 0)))))))) :: ((q19, .inl (G.2.1 0, 10, .inl (upd (upd (upd (upd (upd (upd (upd (upd (upd (fun _ => (0 : Int32)) 0 (-1)) 1 (-1)) 2 (-1)) 3 (-1)) 4 (-1)) 5 (-1)) 6 (-1)) 7 (-1)) 8 (-1)))) :: ((q18, .inl (G.2.1 0, 6, .inl (upd (upd (upd (upd (upd (upd (fun _ => (0 : Int32)) 0 (x_sayingOf 0 0 5)) 1 (x_sayingOf 1 1 5)) 2 (x_sayingOf 2 2 5)) 3 (x_sayingOf 3 3 5)) 4 (x_sayingOf 4 4 5)) 5 (x_sayingOf 5 5 5)))) :: (gl 1 c17 (FX1 c17) ++ (gl 1 c15 (FX1 c15) ++ (gl 1 c13 (FX1 c13) ++ (gl 1 c11 (FX1 c11) ++ (gl 1 c9 (FX1 c9) ++ (gl 1 c7 (FX1 c7) ++ (gl 1 c5 (FX1 c5) ++ (gl 1 c3 (FX1 c3) ++ [])))))))))))) : va_W) H := hW
  refine lv_iinc (v := 9) (lv' := [(1, .int 9), (0, .ref h0)]) hx hb dX0_init_97 hl (k := 0) rfl (by decide) (by decide) rfl (fun ls hl => ?_)
  refine lv_goto (tgt := 84) hx hb dX0_init_100 (by decide) ?_
  refine lv_iload_n hx hb dX0_init_84 rfl (lv_at hl 0 rfl) ?_
  refine lv_bipush (v := 10) hx hb dX0_init_85 (by decide) ?_
  refine lv_icmp_ge (tgt := 103) hx hb dX0_init_87 (by decide) (fun c_ => absurd c_ (by decide)) (fun c_ => ?_)
  refine lv_aload_n hx hb dX0_init_90 rfl (lv_at hl 1 rfl) ?_
  refine n_get fd_RX0_26 C hY hW 0 rfl (v := .ref q19) rfl dX0_init_91 ?_
  refine lv_iload_n hx hb dX0_init_94 rfl (lv_at hl 0 rfl) ?_
  refine lv_iconst (v := (-1)) hx hb dX0_init_95 (by decide) ?_
  refine n_iast C hY hW hS 2 rfl (i := 9) (by decide) (by decide) (by decide) dX0_init_96 (fun H locs hW hS => ?_)
  have hW : wW G.1 (fun z => z = h0 ∨ sz ≤ z) (((h0, .inr (0, [.ref q1, .ref q18, .ref q19, .int 0, .int 0, .int 0])) :: ((q1, .inl (G.2.1 2, 8, .inr (.inr (.inr (.inr (va_up (va_up (va_up (va_up (va_up (va_up (va_up (va_up (fun _ => none) 0 (some (c3 0))) 1 (some (c5 0))) 2 (some (c7 0))) 3 (some (c9 0))) 4 (some (c11 0))) 5 (some (c13 0))) 6 (some (c15 0))) 7 (some (c17 0)))))))) :: ((q19, .inl (G.2.1 0, 10, .inl (upd (upd (upd (upd (upd (upd (upd (upd (upd (upd (fun _ => (0 : Int32)) 0 (-1)) 1 (-1)) 2 (-1)) 3 (-1)) 4 (-1)) 5 (-1)) 6 (-1)) 7 (-1)) 8 (-1)) 9 (-1)))) :: ((q18, .inl (G.2.1 0, 6, .inl (upd (upd (upd (upd (upd (upd (fun _ => (0 : Int32)) 0 (x_sayingOf 0 0 5)) 1 (x_sayingOf 1 1 5)) 2 (x_sayingOf 2 2 5)) 3 (x_sayingOf 3 3 5)) 4 (x_sayingOf 4 4 5)) 5 (x_sayingOf 5 5 5)))) :: (gl 1 c17 (FX1 c17) ++ (gl 1 c15 (FX1 c15) ++ (gl 1 c13 (FX1 c13) ++ (gl 1 c11 (FX1 c11) ++ (gl 1 c9 (FX1 c9) ++ (gl 1 c7 (FX1 c7) ++ (gl 1 c5 (FX1 c5) ++ (gl 1 c3 (FX1 c3) ++ [])))))))))))) : va_W) H := hW
  refine lv_iinc (v := 10) (lv' := [(1, .int 10), (0, .ref h0)]) hx hb dX0_init_97 hl (k := 0) rfl (by decide) (by decide) rfl (fun ls hl => ?_)
  refine lv_goto (tgt := 84) hx hb dX0_init_100 (by decide) ?_
  refine lv_iload_n hx hb dX0_init_84 rfl (lv_at hl 0 rfl) ?_
  refine lv_bipush (v := 10) hx hb dX0_init_85 (by decide) ?_
  refine lv_icmp_ge (tgt := 103) hx hb dX0_init_87 (by decide) (fun c_ => ?_) (fun c_ => absurd (by decide) c_)
  refine lv_aload_n hx hb dX0_init_103 rfl (lv_at hl 1 rfl) ?_
  refine lv_iconst (v := 0) hx hb dX0_init_104 (by decide) ?_
  refine n_put fd_RX0_29 C hnm (fun q_ hq_ => by cases hq_; rfl) hY hW hS 0 rfl rfl rfl (Nat.le_of_ble_eq_true rfl) dX0_init_105 (fun H locs hW hS => ?_)
  have hW : wW G.1 (fun z => z = h0 ∨ sz ≤ z) (((h0, .inr (0, [.ref q1, .ref q18, .ref q19, .int 0, .int 0, .int 0])) :: ((q1, .inl (G.2.1 2, 8, .inr (.inr (.inr (.inr (va_up (va_up (va_up (va_up (va_up (va_up (va_up (va_up (fun _ => none) 0 (some (c3 0))) 1 (some (c5 0))) 2 (some (c7 0))) 3 (some (c9 0))) 4 (some (c11 0))) 5 (some (c13 0))) 6 (some (c15 0))) 7 (some (c17 0)))))))) :: ((q19, .inl (G.2.1 0, 10, .inl (upd (upd (upd (upd (upd (upd (upd (upd (upd (upd (fun _ => (0 : Int32)) 0 (-1)) 1 (-1)) 2 (-1)) 3 (-1)) 4 (-1)) 5 (-1)) 6 (-1)) 7 (-1)) 8 (-1)) 9 (-1)))) :: ((q18, .inl (G.2.1 0, 6, .inl (upd (upd (upd (upd (upd (upd (fun _ => (0 : Int32)) 0 (x_sayingOf 0 0 5)) 1 (x_sayingOf 1 1 5)) 2 (x_sayingOf 2 2 5)) 3 (x_sayingOf 3 3 5)) 4 (x_sayingOf 4 4 5)) 5 (x_sayingOf 5 5 5)))) :: (gl 1 c17 (FX1 c17) ++ (gl 1 c15 (FX1 c15) ++ (gl 1 c13 (FX1 c13) ++ (gl 1 c11 (FX1 c11) ++ (gl 1 c9 (FX1 c9) ++ (gl 1 c7 (FX1 c7) ++ (gl 1 c5 (FX1 c5) ++ (gl 1 c3 (FX1 c3) ++ [])))))))))))) : va_W) H := hW
  refine lv_aload_n hx hb dX0_init_108 rfl (lv_at hl 1 rfl) ?_
  refine lv_iconst (v := 0) hx hb dX0_init_109 (by decide) ?_
  refine n_put fd_RX0_33 C hnm (fun q_ hq_ => by cases hq_; rfl) hY hW hS 0 rfl rfl rfl (Nat.le_of_ble_eq_true rfl) dX0_init_110 (fun H locs hW hS => ?_)
  have hW : wW G.1 (fun z => z = h0 ∨ sz ≤ z) (((h0, .inr (0, [.ref q1, .ref q18, .ref q19, .int 0, .int 0, .int 0])) :: ((q1, .inl (G.2.1 2, 8, .inr (.inr (.inr (.inr (va_up (va_up (va_up (va_up (va_up (va_up (va_up (va_up (fun _ => none) 0 (some (c3 0))) 1 (some (c5 0))) 2 (some (c7 0))) 3 (some (c9 0))) 4 (some (c11 0))) 5 (some (c13 0))) 6 (some (c15 0))) 7 (some (c17 0)))))))) :: ((q19, .inl (G.2.1 0, 10, .inl (upd (upd (upd (upd (upd (upd (upd (upd (upd (upd (fun _ => (0 : Int32)) 0 (-1)) 1 (-1)) 2 (-1)) 3 (-1)) 4 (-1)) 5 (-1)) 6 (-1)) 7 (-1)) 8 (-1)) 9 (-1)))) :: ((q18, .inl (G.2.1 0, 6, .inl (upd (upd (upd (upd (upd (upd (fun _ => (0 : Int32)) 0 (x_sayingOf 0 0 5)) 1 (x_sayingOf 1 1 5)) 2 (x_sayingOf 2 2 5)) 3 (x_sayingOf 3 3 5)) 4 (x_sayingOf 4 4 5)) 5 (x_sayingOf 5 5 5)))) :: (gl 1 c17 (FX1 c17) ++ (gl 1 c15 (FX1 c15) ++ (gl 1 c13 (FX1 c13) ++ (gl 1 c11 (FX1 c11) ++ (gl 1 c9 (FX1 c9) ++ (gl 1 c7 (FX1 c7) ++ (gl 1 c5 (FX1 c5) ++ (gl 1 c3 (FX1 c3) ++ [])))))))))))) : va_W) H := hW
  refine lv_aload_n hx hb dX0_init_113 rfl (lv_at hl 1 rfl) ?_
  refine lv_iconst (v := 1) hx hb dX0_init_114 (by decide) ?_
  refine n_put fd_RX0_36 C hnm (fun q_ hq_ => by cases hq_; rfl) hY hW hS 0 rfl rfl rfl (Nat.le_of_ble_eq_true rfl) dX0_init_115 (fun H locs hW hS => ?_)
  have hW : wW G.1 (fun z => z = h0 ∨ sz ≤ z) (((h0, .inr (0, [.ref q1, .ref q18, .ref q19, .int 0, .int 0, .int 1])) :: ((q1, .inl (G.2.1 2, 8, .inr (.inr (.inr (.inr (va_up (va_up (va_up (va_up (va_up (va_up (va_up (va_up (fun _ => none) 0 (some (c3 0))) 1 (some (c5 0))) 2 (some (c7 0))) 3 (some (c9 0))) 4 (some (c11 0))) 5 (some (c13 0))) 6 (some (c15 0))) 7 (some (c17 0)))))))) :: ((q19, .inl (G.2.1 0, 10, .inl (upd (upd (upd (upd (upd (upd (upd (upd (upd (upd (fun _ => (0 : Int32)) 0 (-1)) 1 (-1)) 2 (-1)) 3 (-1)) 4 (-1)) 5 (-1)) 6 (-1)) 7 (-1)) 8 (-1)) 9 (-1)))) :: ((q18, .inl (G.2.1 0, 6, .inl (upd (upd (upd (upd (upd (upd (fun _ => (0 : Int32)) 0 (x_sayingOf 0 0 5)) 1 (x_sayingOf 1 1 5)) 2 (x_sayingOf 2 2 5)) 3 (x_sayingOf 3 3 5)) 4 (x_sayingOf 4 4 5)) 5 (x_sayingOf 5 5 5)))) :: (gl 1 c17 (FX1 c17) ++ (gl 1 c15 (FX1 c15) ++ (gl 1 c13 (FX1 c13) ++ (gl 1 c11 (FX1 c11) ++ (gl 1 c9 (FX1 c9) ++ (gl 1 c7 (FX1 c7) ++ (gl 1 c5 (FX1 c5) ++ (gl 1 c3 (FX1 c3) ++ [])))))))))))) : va_W) H := hW
  exact n_ret C hr hlk hsz hW hS (fun k => ([11, 10, 9, 8, 7, 6, 5, 4, 0, 3, 2, 1] : List Nat).getD k 0) (fun k => ([(c3 0), (c5 0), (c7 0), (c9 0), (c11 0), (c13 0), (c15 0), (c17 0), h0, q18, q19, q1] : List Nat).getD k 0) rfl (pi_inj (by decide +kernel)) (lt_cases (lt_cases (lt_cases (lt_cases (lt_cases (lt_cases (lt_cases (lt_cases (lt_cases (lt_cases (lt_cases (lt_cases lt_none ⟨_, rfl, shEq.rf⟩) ⟨_, rfl, shEq.rf⟩) ⟨_, rfl, shEq.rf⟩) ⟨_, rfl, shEq.rf⟩) ⟨_, rfl, shEq.rf⟩) ⟨_, rfl, shEq.rf⟩) ⟨_, rfl, shEq.rf⟩) ⟨_, rfl, shEq.rf⟩) ⟨_, rfl, shEq.rf⟩) ⟨_, rfl, eI_cong (lt_cases (lt_cases (lt_cases (lt_cases (lt_cases (lt_cases lt_none (by decide)) (by decide)) (by decide)) (by decide)) (by decide)) (by decide))⟩) ⟨_, rfl, eI_cong (lt_cases (lt_cases (lt_cases (lt_cases (lt_cases (lt_cases (lt_cases (lt_cases (lt_cases (lt_cases lt_none (by decide)) (by decide)) (by decide)) (by decide)) (by decide)) (by decide)) (by decide)) (by decide)) (by decide)) (by decide))⟩) ⟨_, rfl, eQ_cong (lt_cases (lt_cases (lt_cases (lt_cases (lt_cases (lt_cases (lt_cases (lt_cases lt_none rfl) rfl) rfl) rfl) rfl) rfl) rfl) rfl)⟩) (by decide) (by decide) dX0_init_118

def rm_yX7_init : Room := { frames := 1, cells := 10, slots := 635, locals := 12 }
set_option maxHeartbeats 4000000 in
set_option maxRecDepth 100000 in
theorem c_yX7_init (l : Launch) (G : gG) (h0 sz : Nat) : gCon l yX7_init cX7_init 2 rm_yX7_init G h0 sz 7 [.null, .null, .null, .null, .int 0, .null, .null, .int 0, .int 0, .int 0, .int 0, .int 0, .long 0, .int 0, .null, .null, .null, .null] 11 0 (FX7 G) 10 635 := by
  refine g_startC (by decide +kernel) (by decide) ?_
  intro p e s m below meth c ls B hnm hY hsz hW hAb hl
  obtain ⟨C, hr, hlk⟩ := B
  have hx := C.1
  have hb := C.2.1
  have hA : ∀ z : Nat, s.heap.size ≤ z → (z = h0 ∨ sz ≤ z) := fun z hz => Or.inr (by rw [← hsz]; exact hz)
  have hS : va_S (fun z => z = h0 ∨ sz ≤ z) s.heap s.heap [] := va_S.rf
  have hl : lv_has ls 2 [(0, .ref h0)] := hl
  refine lv_aload_n hx hb dX7_init_0 rfl (lv_at hl 0 rfl) ?_
  refine W.objInit hx hb C.2.2.2.1 (C.2.2.2.2 _ lk_RX7_1) (C.2.2.2.2 _ ko_inst) (C.2.2.2.2 _ ko_code) rfl (by rw [C.2.2.1]; exact hl.1) rfl dX7_init_1 (Nat.le_of_ble_eq_true rfl) (Nat.le_of_ble_eq_true rfl) ?_
  refine W.eq (g2 := F0 m 4 ls []) rfl ?_
  refine lv_aload_n hx hb dX7_init_4 rfl (lv_at hl 0 rfl) ?_
  refine lv_bipush (v := 75) hx hb dX7_init_5 (by decide) ?_
  refine n_newa (atype := .int) C hY hW hS hA ka_int 0 rfl rfl (N := 75) (fun _ => rfl) rfl (by decide) (by decide) (by decide) (by decide) dX7_init_7 1 (fun q1 H hW hS => ?_)
  have hW : wW G.1 (fun z => z = h0 ∨ sz ≤ z) (((h0, .inr (7, [.null, .null, .null, .null, .int 0, .null, .null, .int 0, .int 0, .int 0, .int 0, .int 0, .long 0, .int 0, .null, .null, .null, .null])) :: ((q1, .inl (G.2.1 0, 75, .inl (fun _ => (0 : Int32)))) :: [])) : va_W) H := hW
  refine n_put fd_RX7_7 C hnm (fun q_ hq_ => by cases hq_; rfl) hY hW hS 0 rfl rfl rfl (Nat.le_of_ble_eq_true rfl) dX7_init_9 (fun H locs hW hS => ?_)
  have hW : wW G.1 (fun z => z = h0 ∨ sz ≤ z) (((h0, .inr (7, [.ref q1, .null, .null, .null, .int 0, .null, .null, .int 0, .int 0, .int 0, .int 0, .int 0, .long 0, .int 0, .null, .null, .null, .null])) :: ((q1, .inl (G.2.1 0, 75, .inl (fun _ => (0 : Int32)))) :: [])) : va_W) H := hW
  refine lv_aload_n hx hb dX7_init_12 rfl (lv_at hl 0 rfl) ?_
  refine lv_bipush (v := 75) hx hb dX7_init_13 (by decide) ?_
  refine n_newa (atype := .int) C hY hW hS hA ka_int 0 rfl rfl (N := 75) (fun _ => rfl) rfl (by decide) (by decide) (by decide) (by decide) dX7_init_15 1 (fun q2 H hW hS => ?_)
  have hW : wW G.1 (fun z => z = h0 ∨ sz ≤ z) (((h0, .inr (7, [.ref q1, .null, .null, .null, .int 0, .null, .null, .int 0, .int 0, .int 0, .int 0, .int 0, .long 0, .int 0, .null, .null, .null, .null])) :: ((q2, .inl (G.2.1 0, 75, .inl (fun _ => (0 : Int32)))) :: ((q1, .inl (G.2.1 0, 75, .inl (fun _ => (0 : Int32)))) :: []))) : va_W) H := hW
  refine n_put fd_RX7_13 C hnm (fun q_ hq_ => by cases hq_; rfl) hY hW hS 0 rfl rfl rfl (Nat.le_of_ble_eq_true rfl) dX7_init_17 (fun H locs hW hS => ?_)
  have hW : wW G.1 (fun z => z = h0 ∨ sz ≤ z) (((h0, .inr (7, [.ref q1, .ref q2, .null, .null, .int 0, .null, .null, .int 0, .int 0, .int 0, .int 0, .int 0, .long 0, .int 0, .null, .null, .null, .null])) :: ((q2, .inl (G.2.1 0, 75, .inl (fun _ => (0 : Int32)))) :: ((q1, .inl (G.2.1 0, 75, .inl (fun _ => (0 : Int32)))) :: []))) : va_W) H := hW
  refine lv_aload_n hx hb dX7_init_20 rfl (lv_at hl 0 rfl) ?_
  refine lv_bipush (v := 75) hx hb dX7_init_21 (by decide) ?_
  refine n_newa (atype := .int) C hY hW hS hA ka_int 0 rfl rfl (N := 75) (fun _ => rfl) rfl (by decide) (by decide) (by decide) (by decide) dX7_init_23 1 (fun q3 H hW hS => ?_)
  have hW : wW G.1 (fun z => z = h0 ∨ sz ≤ z) (((h0, .inr (7, [.ref q1, .ref q2, .null, .null, .int 0, .null, .null, .int 0, .int 0, .int 0, .int 0, .int 0, .long 0, .int 0, .null, .null, .null, .null])) :: ((q3, .inl (G.2.1 0, 75, .inl (fun _ => (0 : Int32)))) :: ((q2, .inl (G.2.1 0, 75, .inl (fun _ => (0 : Int32)))) :: ((q1, .inl (G.2.1 0, 75, .inl (fun _ => (0 : Int32)))) :: [])))) : va_W) H := hW
  refine n_put fd_RX7_16 C hnm (fun q_ hq_ => by cases hq_; rfl) hY hW hS 0 rfl rfl rfl (Nat.le_of_ble_eq_true rfl) dX7_init_25 (fun H locs hW hS => ?_)
  have hW : wW G.1 (fun z => z = h0 ∨ sz ≤ z) (((h0, .inr (7, [.ref q1, .ref q2, .ref q3, .null, .int 0, .null, .null, .int 0, .int 0, .int 0, .int 0, .int 0, .long 0, .int 0, .null, .null, .null, .null])) :: ((q3, .inl (G.2.1 0, 75, .inl (fun _ => (0 : Int32)))) :: ((q2, .inl (G.2.1 0, 75, .inl (fun _ => (0 : Int32)))) :: ((q1, .inl (G.2.1 0, 75, .inl (fun _ => (0 : Int32)))) :: [])))) : va_W) H := hW
  refine lv_aload_n hx hb dX7_init_28 rfl (lv_at hl 0 rfl) ?_
  refine lv_bipush (v := 75) hx hb dX7_init_29 (by decide) ?_
  refine n_newa (atype := .int) C hY hW hS hA ka_int 0 rfl rfl (N := 75) (fun _ => rfl) rfl (by decide) (by decide) (by decide) (by decide) dX7_init_31 1 (fun q4 H hW hS => ?_)
  have hW : wW G.1 (fun z => z = h0 ∨ sz ≤ z) (((h0, .inr (7, [.ref q1, .ref q2, .ref q3, .null, .int 0, .null, .null, .int 0, .int 0, .int 0, .int 0, .int 0, .long 0, .int 0, .null, .null, .null, .null])) :: ((q4, .inl (G.2.1 0, 75, .inl (fun _ => (0 : Int32)))) :: ((q3, .inl (G.2.1 0, 75, .inl (fun _ => (0 : Int32)))) :: ((q2, .inl (G.2.1 0, 75, .inl (fun _ => (0 : Int32)))) :: ((q1, .inl (G.2.1 0, 75, .inl (fun _ => (0 : Int32)))) :: []))))) : va_W) H := hW
  refine n_put fd_RX7_19 C hnm (fun q_ hq_ => by cases hq_; rfl) hY hW hS 0 rfl rfl rfl (Nat.le_of_ble_eq_true rfl) dX7_init_33 (fun H locs hW hS => ?_)
  have hW : wW G.1 (fun z => z = h0 ∨ sz ≤ z) (((h0, .inr (7, [.ref q1, .ref q2, .ref q3, .ref q4, .int 0, .null, .null, .int 0, .int 0, .int 0, .int 0, .int 0, .long 0, .int 0, .null, .null, .null, .null])) :: ((q4, .inl (G.2.1 0, 75, .inl (fun _ => (0 : Int32)))) :: ((q3, .inl (G.2.1 0, 75, .inl (fun _ => (0 : Int32)))) :: ((q2, .inl (G.2.1 0, 75, .inl (fun _ => (0 : Int32)))) :: ((q1, .inl (G.2.1 0, 75, .inl (fun _ => (0 : Int32)))) :: []))))) : va_W) H := hW
  refine lv_aload_n hx hb dX7_init_36 rfl (lv_at hl 0 rfl) ?_
  refine lv_bipush (v := 7) hx hb dX7_init_37 (by decide) ?_
  refine n_newa (atype := .int) C hY hW hS hA ka_int 0 rfl rfl (N := 7) (fun _ => rfl) rfl (by decide) (by decide) (by decide) (by decide) dX7_init_39 1 (fun q5 H hW hS => ?_)
  have hW : wW G.1 (fun z => z = h0 ∨ sz ≤ z) (((h0, .inr (7, [.ref q1, .ref q2, .ref q3, .ref q4, .int 0, .null, .null, .int 0, .int 0, .int 0, .int 0, .int 0, .long 0, .int 0, .null, .null, .null, .null])) :: ((q5, .inl (G.2.1 0, 7, .inl (fun _ => (0 : Int32)))) :: ((q4, .inl (G.2.1 0, 75, .inl (fun _ => (0 : Int32)))) :: ((q3, .inl (G.2.1 0, 75, .inl (fun _ => (0 : Int32)))) :: ((q2, .inl (G.2.1 0, 75, .inl (fun _ => (0 : Int32)))) :: ((q1, .inl (G.2.1 0, 75, .inl (fun _ => (0 : Int32)))) :: [])))))) : va_W) H := hW
  refine n_put fd_RX7_22 C hnm (fun q_ hq_ => by cases hq_; rfl) hY hW hS 0 rfl rfl rfl (Nat.le_of_ble_eq_true rfl) dX7_init_41 (fun H locs hW hS => ?_)
  have hW : wW G.1 (fun z => z = h0 ∨ sz ≤ z) (((h0, .inr (7, [.ref q1, .ref q2, .ref q3, .ref q4, .int 0, .ref q5, .null, .int 0, .int 0, .int 0, .int 0, .int 0, .long 0, .int 0, .null, .null, .null, .null])) :: ((q5, .inl (G.2.1 0, 7, .inl (fun _ => (0 : Int32)))) :: ((q4, .inl (G.2.1 0, 75, .inl (fun _ => (0 : Int32)))) :: ((q3, .inl (G.2.1 0, 75, .inl (fun _ => (0 : Int32)))) :: ((q2, .inl (G.2.1 0, 75, .inl (fun _ => (0 : Int32)))) :: ((q1, .inl (G.2.1 0, 75, .inl (fun _ => (0 : Int32)))) :: [])))))) : va_W) H := hW
  refine lv_aload_n hx hb dX7_init_44 rfl (lv_at hl 0 rfl) ?_
  refine lv_bipush (v := 120) hx hb dX7_init_45 (by decide) ?_
  refine n_newa (atype := .byte) C hY hW hS hA ka_byte 1 rfl rfl (N := 120) (fun _ => rfl) rfl (by decide) (by decide) (by decide) (by decide) dX7_init_47 1 (fun q6 H hW hS => ?_)
  have hW : wW G.1 (fun z => z = h0 ∨ sz ≤ z) (((h0, .inr (7, [.ref q1, .ref q2, .ref q3, .ref q4, .int 0, .ref q5, .null, .int 0, .int 0, .int 0, .int 0, .int 0, .long 0, .int 0, .null, .null, .null, .null])) :: ((q6, .inl (G.2.1 1, 120, .inl (fun _ => (0 : Int32)))) :: ((q5, .inl (G.2.1 0, 7, .inl (fun _ => (0 : Int32)))) :: ((q4, .inl (G.2.1 0, 75, .inl (fun _ => (0 : Int32)))) :: ((q3, .inl (G.2.1 0, 75, .inl (fun _ => (0 : Int32)))) :: ((q2, .inl (G.2.1 0, 75, .inl (fun _ => (0 : Int32)))) :: ((q1, .inl (G.2.1 0, 75, .inl (fun _ => (0 : Int32)))) :: []))))))) : va_W) H := hW
  refine n_put fd_RX7_25 C hnm (fun q_ hq_ => by cases hq_; rfl) hY hW hS 0 rfl rfl rfl (Nat.le_of_ble_eq_true rfl) dX7_init_49 (fun H locs hW hS => ?_)
  have hW : wW G.1 (fun z => z = h0 ∨ sz ≤ z) (((h0, .inr (7, [.ref q1, .ref q2, .ref q3, .ref q4, .int 0, .ref q5, .ref q6, .int 0, .int 0, .int 0, .int 0, .int 0, .long 0, .int 0, .null, .null, .null, .null])) :: ((q6, .inl (G.2.1 1, 120, .inl (fun _ => (0 : Int32)))) :: ((q5, .inl (G.2.1 0, 7, .inl (fun _ => (0 : Int32)))) :: ((q4, .inl (G.2.1 0, 75, .inl (fun _ => (0 : Int32)))) :: ((q3, .inl (G.2.1 0, 75, .inl (fun _ => (0 : Int32)))) :: ((q2, .inl (G.2.1 0, 75, .inl (fun _ => (0 : Int32)))) :: ((q1, .inl (G.2.1 0, 75, .inl (fun _ => (0 : Int32)))) :: []))))))) : va_W) H := hW
  refine lv_aload_n hx hb dX7_init_52 rfl (lv_at hl 0 rfl) ?_
  refine lv_iconst (v := 4) hx hb dX7_init_53 (by decide) ?_
  refine n_newa (atype := .int) C hY hW hS hA ka_int 0 rfl rfl (N := 4) (fun _ => rfl) rfl (by decide) (by decide) (by decide) (by decide) dX7_init_54 1 (fun q7 H hW hS => ?_)
  have hW : wW G.1 (fun z => z = h0 ∨ sz ≤ z) (((h0, .inr (7, [.ref q1, .ref q2, .ref q3, .ref q4, .int 0, .ref q5, .ref q6, .int 0, .int 0, .int 0, .int 0, .int 0, .long 0, .int 0, .null, .null, .null, .null])) :: ((q7, .inl (G.2.1 0, 4, .inl (fun _ => (0 : Int32)))) :: ((q6, .inl (G.2.1 1, 120, .inl (fun _ => (0 : Int32)))) :: ((q5, .inl (G.2.1 0, 7, .inl (fun _ => (0 : Int32)))) :: ((q4, .inl (G.2.1 0, 75, .inl (fun _ => (0 : Int32)))) :: ((q3, .inl (G.2.1 0, 75, .inl (fun _ => (0 : Int32)))) :: ((q2, .inl (G.2.1 0, 75, .inl (fun _ => (0 : Int32)))) :: ((q1, .inl (G.2.1 0, 75, .inl (fun _ => (0 : Int32)))) :: [])))))))) : va_W) H := hW
  refine n_put fd_RX7_29 C hnm (fun q_ hq_ => by cases hq_; rfl) hY hW hS 0 rfl rfl rfl (Nat.le_of_ble_eq_true rfl) dX7_init_56 (fun H locs hW hS => ?_)
  have hW : wW G.1 (fun z => z = h0 ∨ sz ≤ z) (((h0, .inr (7, [.ref q1, .ref q2, .ref q3, .ref q4, .int 0, .ref q5, .ref q6, .int 0, .int 0, .int 0, .int 0, .int 0, .long 0, .int 0, .ref q7, .null, .null, .null])) :: ((q7, .inl (G.2.1 0, 4, .inl (fun _ => (0 : Int32)))) :: ((q6, .inl (G.2.1 1, 120, .inl (fun _ => (0 : Int32)))) :: ((q5, .inl (G.2.1 0, 7, .inl (fun _ => (0 : Int32)))) :: ((q4, .inl (G.2.1 0, 75, .inl (fun _ => (0 : Int32)))) :: ((q3, .inl (G.2.1 0, 75, .inl (fun _ => (0 : Int32)))) :: ((q2, .inl (G.2.1 0, 75, .inl (fun _ => (0 : Int32)))) :: ((q1, .inl (G.2.1 0, 75, .inl (fun _ => (0 : Int32)))) :: [])))))))) : va_W) H := hW
  refine lv_aload_n hx hb dX7_init_59 rfl (lv_at hl 0 rfl) ?_
  refine lv_iconst (v := 4) hx hb dX7_init_60 (by decide) ?_
  refine n_newa (atype := .int) C hY hW hS hA ka_int 0 rfl rfl (N := 4) (fun _ => rfl) rfl (by decide) (by decide) (by decide) (by decide) dX7_init_61 1 (fun q8 H hW hS => ?_)
  have hW : wW G.1 (fun z => z = h0 ∨ sz ≤ z) (((h0, .inr (7, [.ref q1, .ref q2, .ref q3, .ref q4, .int 0, .ref q5, .ref q6, .int 0, .int 0, .int 0, .int 0, .int 0, .long 0, .int 0, .ref q7, .null, .null, .null])) :: ((q8, .inl (G.2.1 0, 4, .inl (fun _ => (0 : Int32)))) :: ((q7, .inl (G.2.1 0, 4, .inl (fun _ => (0 : Int32)))) :: ((q6, .inl (G.2.1 1, 120, .inl (fun _ => (0 : Int32)))) :: ((q5, .inl (G.2.1 0, 7, .inl (fun _ => (0 : Int32)))) :: ((q4, .inl (G.2.1 0, 75, .inl (fun _ => (0 : Int32)))) :: ((q3, .inl (G.2.1 0, 75, .inl (fun _ => (0 : Int32)))) :: ((q2, .inl (G.2.1 0, 75, .inl (fun _ => (0 : Int32)))) :: ((q1, .inl (G.2.1 0, 75, .inl (fun _ => (0 : Int32)))) :: []))))))))) : va_W) H := hW
  refine n_put fd_RX7_32 C hnm (fun q_ hq_ => by cases hq_; rfl) hY hW hS 0 rfl rfl rfl (Nat.le_of_ble_eq_true rfl) dX7_init_63 (fun H locs hW hS => ?_)
  have hW : wW G.1 (fun z => z = h0 ∨ sz ≤ z) (((h0, .inr (7, [.ref q1, .ref q2, .ref q3, .ref q4, .int 0, .ref q5, .ref q6, .int 0, .int 0, .int 0, .int 0, .int 0, .long 0, .int 0, .ref q7, .ref q8, .null, .null])) :: ((q8, .inl (G.2.1 0, 4, .inl (fun _ => (0 : Int32)))) :: ((q7, .inl (G.2.1 0, 4, .inl (fun _ => (0 : Int32)))) :: ((q6, .inl (G.2.1 1, 120, .inl (fun _ => (0 : Int32)))) :: ((q5, .inl (G.2.1 0, 7, .inl (fun _ => (0 : Int32)))) :: ((q4, .inl (G.2.1 0, 75, .inl (fun _ => (0 : Int32)))) :: ((q3, .inl (G.2.1 0, 75, .inl (fun _ => (0 : Int32)))) :: ((q2, .inl (G.2.1 0, 75, .inl (fun _ => (0 : Int32)))) :: ((q1, .inl (G.2.1 0, 75, .inl (fun _ => (0 : Int32)))) :: []))))))))) : va_W) H := hW
  refine lv_aload_n hx hb dX7_init_66 rfl (lv_at hl 0 rfl) ?_
  refine lv_sipush (v := 160) hx hb dX7_init_67 (by decide) ?_
  refine n_newa (atype := .int) C hY hW hS hA ka_int 0 rfl rfl (N := 160) (fun _ => rfl) rfl (by decide) (by decide) (by decide) (by decide) dX7_init_70 1 (fun q9 H hW hS => ?_)
  have hW : wW G.1 (fun z => z = h0 ∨ sz ≤ z) (((h0, .inr (7, [.ref q1, .ref q2, .ref q3, .ref q4, .int 0, .ref q5, .ref q6, .int 0, .int 0, .int 0, .int 0, .int 0, .long 0, .int 0, .ref q7, .ref q8, .null, .null])) :: ((q9, .inl (G.2.1 0, 160, .inl (fun _ => (0 : Int32)))) :: ((q8, .inl (G.2.1 0, 4, .inl (fun _ => (0 : Int32)))) :: ((q7, .inl (G.2.1 0, 4, .inl (fun _ => (0 : Int32)))) :: ((q6, .inl (G.2.1 1, 120, .inl (fun _ => (0 : Int32)))) :: ((q5, .inl (G.2.1 0, 7, .inl (fun _ => (0 : Int32)))) :: ((q4, .inl (G.2.1 0, 75, .inl (fun _ => (0 : Int32)))) :: ((q3, .inl (G.2.1 0, 75, .inl (fun _ => (0 : Int32)))) :: ((q2, .inl (G.2.1 0, 75, .inl (fun _ => (0 : Int32)))) :: ((q1, .inl (G.2.1 0, 75, .inl (fun _ => (0 : Int32)))) :: [])))))))))) : va_W) H := hW
  refine n_put fd_RX7_35 C hnm (fun q_ hq_ => by cases hq_; rfl) hY hW hS 0 rfl rfl rfl (Nat.le_of_ble_eq_true rfl) dX7_init_72 (fun H locs hW hS => ?_)
  have hW : wW G.1 (fun z => z = h0 ∨ sz ≤ z) (((h0, .inr (7, [.ref q1, .ref q2, .ref q3, .ref q4, .int 0, .ref q5, .ref q6, .int 0, .int 0, .int 0, .int 0, .int 0, .long 0, .int 0, .ref q7, .ref q8, .ref q9, .null])) :: ((q9, .inl (G.2.1 0, 160, .inl (fun _ => (0 : Int32)))) :: ((q8, .inl (G.2.1 0, 4, .inl (fun _ => (0 : Int32)))) :: ((q7, .inl (G.2.1 0, 4, .inl (fun _ => (0 : Int32)))) :: ((q6, .inl (G.2.1 1, 120, .inl (fun _ => (0 : Int32)))) :: ((q5, .inl (G.2.1 0, 7, .inl (fun _ => (0 : Int32)))) :: ((q4, .inl (G.2.1 0, 75, .inl (fun _ => (0 : Int32)))) :: ((q3, .inl (G.2.1 0, 75, .inl (fun _ => (0 : Int32)))) :: ((q2, .inl (G.2.1 0, 75, .inl (fun _ => (0 : Int32)))) :: ((q1, .inl (G.2.1 0, 75, .inl (fun _ => (0 : Int32)))) :: [])))))))))) : va_W) H := hW
  refine lv_aload_n hx hb dX7_init_75 rfl (lv_at hl 0 rfl) ?_
  refine lv_bipush (v := 40) hx hb dX7_init_76 (by decide) ?_
  refine n_newa (atype := .int) C hY hW hS hA ka_int 0 rfl rfl (N := 40) (fun _ => rfl) rfl (by decide) (by decide) (by decide) (by decide) dX7_init_78 1 (fun q10 H hW hS => ?_)
  have hW : wW G.1 (fun z => z = h0 ∨ sz ≤ z) (((h0, .inr (7, [.ref q1, .ref q2, .ref q3, .ref q4, .int 0, .ref q5, .ref q6, .int 0, .int 0, .int 0, .int 0, .int 0, .long 0, .int 0, .ref q7, .ref q8, .ref q9, .null])) :: ((q10, .inl (G.2.1 0, 40, .inl (fun _ => (0 : Int32)))) :: ((q9, .inl (G.2.1 0, 160, .inl (fun _ => (0 : Int32)))) :: ((q8, .inl (G.2.1 0, 4, .inl (fun _ => (0 : Int32)))) :: ((q7, .inl (G.2.1 0, 4, .inl (fun _ => (0 : Int32)))) :: ((q6, .inl (G.2.1 1, 120, .inl (fun _ => (0 : Int32)))) :: ((q5, .inl (G.2.1 0, 7, .inl (fun _ => (0 : Int32)))) :: ((q4, .inl (G.2.1 0, 75, .inl (fun _ => (0 : Int32)))) :: ((q3, .inl (G.2.1 0, 75, .inl (fun _ => (0 : Int32)))) :: ((q2, .inl (G.2.1 0, 75, .inl (fun _ => (0 : Int32)))) :: ((q1, .inl (G.2.1 0, 75, .inl (fun _ => (0 : Int32)))) :: []))))))))))) : va_W) H := hW
  refine n_put fd_RX7_38 C hnm (fun q_ hq_ => by cases hq_; rfl) hY hW hS 0 rfl rfl rfl (Nat.le_of_ble_eq_true rfl) dX7_init_80 (fun H locs hW hS => ?_)
  have hW : wW G.1 (fun z => z = h0 ∨ sz ≤ z) (((h0, .inr (7, [.ref q1, .ref q2, .ref q3, .ref q4, .int 0, .ref q5, .ref q6, .int 0, .int 0, .int 0, .int 0, .int 0, .long 0, .int 0, .ref q7, .ref q8, .ref q9, .ref q10])) :: ((q10, .inl (G.2.1 0, 40, .inl (fun _ => (0 : Int32)))) :: ((q9, .inl (G.2.1 0, 160, .inl (fun _ => (0 : Int32)))) :: ((q8, .inl (G.2.1 0, 4, .inl (fun _ => (0 : Int32)))) :: ((q7, .inl (G.2.1 0, 4, .inl (fun _ => (0 : Int32)))) :: ((q6, .inl (G.2.1 1, 120, .inl (fun _ => (0 : Int32)))) :: ((q5, .inl (G.2.1 0, 7, .inl (fun _ => (0 : Int32)))) :: ((q4, .inl (G.2.1 0, 75, .inl (fun _ => (0 : Int32)))) :: ((q3, .inl (G.2.1 0, 75, .inl (fun _ => (0 : Int32)))) :: ((q2, .inl (G.2.1 0, 75, .inl (fun _ => (0 : Int32)))) :: ((q1, .inl (G.2.1 0, 75, .inl (fun _ => (0 : Int32)))) :: []))))))))))) : va_W) H := hW
  refine lv_aload_n hx hb dX7_init_83 rfl (lv_at hl 0 rfl) ?_
  refine n_get fd_RX7_7 C hY hW 0 rfl (v := .ref q1) rfl dX7_init_84 ?_
  refine lv_iconst (v := 2) hx hb dX7_init_87 (by decide) ?_
  refine lv_iconst (v := 1) hx hb dX7_init_88 (by decide) ?_
  refine n_iast C hY hW hS 10 rfl (i := 2) (by decide) (by decide) (by decide) dX7_init_89 (fun H locs hW hS => ?_)
  have hW : wW G.1 (fun z => z = h0 ∨ sz ≤ z) (((h0, .inr (7, [.ref q1, .ref q2, .ref q3, .ref q4, .int 0, .ref q5, .ref q6, .int 0, .int 0, .int 0, .int 0, .int 0, .long 0, .int 0, .ref q7, .ref q8, .ref q9, .ref q10])) :: ((q10, .inl (G.2.1 0, 40, .inl (fun _ => (0 : Int32)))) :: ((q9, .inl (G.2.1 0, 160, .inl (fun _ => (0 : Int32)))) :: ((q8, .inl (G.2.1 0, 4, .inl (fun _ => (0 : Int32)))) :: ((q7, .inl (G.2.1 0, 4, .inl (fun _ => (0 : Int32)))) :: ((q6, .inl (G.2.1 1, 120, .inl (fun _ => (0 : Int32)))) :: ((q5, .inl (G.2.1 0, 7, .inl (fun _ => (0 : Int32)))) :: ((q4, .inl (G.2.1 0, 75, .inl (fun _ => (0 : Int32)))) :: ((q3, .inl (G.2.1 0, 75, .inl (fun _ => (0 : Int32)))) :: ((q2, .inl (G.2.1 0, 75, .inl (fun _ => (0 : Int32)))) :: ((q1, .inl (G.2.1 0, 75, .inl (upd (fun _ => (0 : Int32)) 2 1))) :: []))))))))))) : va_W) H := hW
  refine lv_iconst (v := 0) hx hb dX7_init_90 (by decide) ?_
  refine lv_istore_n (lv' := [(1, .int 0), (0, .ref h0)]) hx hb dX7_init_91 rfl hl (by decide) rfl (fun ls hl => ?_)
  refine lv_iload_n hx hb dX7_init_92 rfl (lv_at hl 0 rfl) ?_
  refine lv_bipush (v := 6) hx hb dX7_init_93 (by decide) ?_
  refine lv_icmp_ge (tgt := 124) hx hb dX7_init_95 (by decide) (fun c_ => absurd c_ (by decide)) (fun c_ => ?_)
  refine lv_aload_n hx hb dX7_init_98 rfl (lv_at hl 1 rfl) ?_
  refine n_get fd_RX7_7 C hY hW 0 rfl (v := .ref q1) rfl dX7_init_99 ?_
  refine lv_iconst (v := 3) hx hb dX7_init_102 (by decide) ?_
  refine lv_iload_n hx hb dX7_init_103 rfl (lv_at hl 0 rfl) ?_
  refine lv_iadd hx hb dX7_init_104 ?_
  refine lv_sipush (v := 1000) hx hb dX7_init_105 (by decide) ?_
  refine lv_iload_n hx hb dX7_init_108 rfl (lv_at hl 0 rfl) ?_
  refine lv_imul hx hb dX7_init_109 ?_
  refine lv_bipush (v := 10) hx hb dX7_init_110 (by decide) ?_
  refine lv_iload_n hx hb dX7_init_112 rfl (lv_at hl 0 rfl) ?_
  refine lv_imul hx hb dX7_init_113 ?_
  refine lv_iadd hx hb dX7_init_114 ?_
  refine lv_iconst (v := 5) hx hb dX7_init_115 (by decide) ?_
  refine lv_iadd hx hb dX7_init_116 ?_
  refine n_iast C hY hW hS 10 rfl (i := 3) (by decide) (by decide) (by decide) dX7_init_117 (fun H locs hW hS => ?_)
  have hW : wW G.1 (fun z => z = h0 ∨ sz ≤ z) (((h0, .inr (7, [.ref q1, .ref q2, .ref q3, .ref q4, .int 0, .ref q5, .ref q6, .int 0, .int 0, .int 0, .int 0, .int 0, .long 0, .int 0, .ref q7, .ref q8, .ref q9, .ref q10])) :: ((q10, .inl (G.2.1 0, 40, .inl (fun _ => (0 : Int32)))) :: ((q9, .inl (G.2.1 0, 160, .inl (fun _ => (0 : Int32)))) :: ((q8, .inl (G.2.1 0, 4, .inl (fun _ => (0 : Int32)))) :: ((q7, .inl (G.2.1 0, 4, .inl (fun _ => (0 : Int32)))) :: ((q6, .inl (G.2.1 1, 120, .inl (fun _ => (0 : Int32)))) :: ((q5, .inl (G.2.1 0, 7, .inl (fun _ => (0 : Int32)))) :: ((q4, .inl (G.2.1 0, 75, .inl (fun _ => (0 : Int32)))) :: ((q3, .inl (G.2.1 0, 75, .inl (fun _ => (0 : Int32)))) :: ((q2, .inl (G.2.1 0, 75, .inl (fun _ => (0 : Int32)))) :: ((q1, .inl (G.2.1 0, 75, .inl (upd (upd (fun _ => (0 : Int32)) 2 1) 3 (((1000 * 0) + (10 * 0)) + 5)))) :: []))))))))))) : va_W) H := hW
  refine lv_iinc (v := 1) (lv' := [(1, .int 1), (0, .ref h0)]) hx hb dX7_init_118 hl (k := 0) rfl (by decide) (by decide) rfl (fun ls hl => ?_)
  refine lv_goto (tgt := 92) hx hb dX7_init_121 (by decide) ?_
  refine lv_iload_n hx hb dX7_init_92 rfl (lv_at hl 0 rfl) ?_
  refine lv_bipush (v := 6) hx hb dX7_init_93 (by decide) ?_
  refine lv_icmp_ge (tgt := 124) hx hb dX7_init_95 (by decide) (fun c_ => absurd c_ (by decide)) (fun c_ => ?_)
  refine lv_aload_n hx hb dX7_init_98 rfl (lv_at hl 1 rfl) ?_
  refine n_get fd_RX7_7 C hY hW 0 rfl (v := .ref q1) rfl dX7_init_99 ?_
  refine lv_iconst (v := 3) hx hb dX7_init_102 (by decide) ?_
  refine lv_iload_n hx hb dX7_init_103 rfl (lv_at hl 0 rfl) ?_
  refine lv_iadd hx hb dX7_init_104 ?_
  refine lv_sipush (v := 1000) hx hb dX7_init_105 (by decide) ?_
  refine lv_iload_n hx hb dX7_init_108 rfl (lv_at hl 0 rfl) ?_
  refine lv_imul hx hb dX7_init_109 ?_
  refine lv_bipush (v := 10) hx hb dX7_init_110 (by decide) ?_
  refine lv_iload_n hx hb dX7_init_112 rfl (lv_at hl 0 rfl) ?_
  refine lv_imul hx hb dX7_init_113 ?_
  refine lv_iadd hx hb dX7_init_114 ?_
  refine lv_iconst (v := 5) hx hb dX7_init_115 (by decide) ?_
  refine lv_iadd hx hb dX7_init_116 ?_
  refine n_iast C hY hW hS 10 rfl (i := 4) (by decide) (by decide) (by decide) dX7_init_117 (fun H locs hW hS => ?_)
  have hW : wW G.1 (fun z => z = h0 ∨ sz ≤ z) (((h0, .inr (7, [.ref q1, .ref q2, .ref q3, .ref q4, .int 0, .ref q5, .ref q6, .int 0, .int 0, .int 0, .int 0, .int 0, .long 0, .int 0, .ref q7, .ref q8, .ref q9, .ref q10])) :: ((q10, .inl (G.2.1 0, 40, .inl (fun _ => (0 : Int32)))) :: ((q9, .inl (G.2.1 0, 160, .inl (fun _ => (0 : Int32)))) :: ((q8, .inl (G.2.1 0, 4, .inl (fun _ => (0 : Int32)))) :: ((q7, .inl (G.2.1 0, 4, .inl (fun _ => (0 : Int32)))) :: ((q6, .inl (G.2.1 1, 120, .inl (fun _ => (0 : Int32)))) :: ((q5, .inl (G.2.1 0, 7, .inl (fun _ => (0 : Int32)))) :: ((q4, .inl (G.2.1 0, 75, .inl (fun _ => (0 : Int32)))) :: ((q3, .inl (G.2.1 0, 75, .inl (fun _ => (0 : Int32)))) :: ((q2, .inl (G.2.1 0, 75, .inl (fun _ => (0 : Int32)))) :: ((q1, .inl (G.2.1 0, 75, .inl (upd (upd (upd (fun _ => (0 : Int32)) 2 1) 3 (((1000 * 0) + (10 * 0)) + 5)) 4 (((1000 * 1) + (10 * 1)) + 5)))) :: []))))))))))) : va_W) H := hW
  refine lv_iinc (v := 2) (lv' := [(1, .int 2), (0, .ref h0)]) hx hb dX7_init_118 hl (k := 0) rfl (by decide) (by decide) rfl (fun ls hl => ?_)
  refine lv_goto (tgt := 92) hx hb dX7_init_121 (by decide) ?_
  refine lv_iload_n hx hb dX7_init_92 rfl (lv_at hl 0 rfl) ?_
  refine lv_bipush (v := 6) hx hb dX7_init_93 (by decide) ?_
  refine lv_icmp_ge (tgt := 124) hx hb dX7_init_95 (by decide) (fun c_ => absurd c_ (by decide)) (fun c_ => ?_)
  refine lv_aload_n hx hb dX7_init_98 rfl (lv_at hl 1 rfl) ?_
  refine n_get fd_RX7_7 C hY hW 0 rfl (v := .ref q1) rfl dX7_init_99 ?_
  refine lv_iconst (v := 3) hx hb dX7_init_102 (by decide) ?_
  refine lv_iload_n hx hb dX7_init_103 rfl (lv_at hl 0 rfl) ?_
  refine lv_iadd hx hb dX7_init_104 ?_
  refine lv_sipush (v := 1000) hx hb dX7_init_105 (by decide) ?_
  refine lv_iload_n hx hb dX7_init_108 rfl (lv_at hl 0 rfl) ?_
  refine lv_imul hx hb dX7_init_109 ?_
  refine lv_bipush (v := 10) hx hb dX7_init_110 (by decide) ?_
  refine lv_iload_n hx hb dX7_init_112 rfl (lv_at hl 0 rfl) ?_
  refine lv_imul hx hb dX7_init_113 ?_
  refine lv_iadd hx hb dX7_init_114 ?_
  refine lv_iconst (v := 5) hx hb dX7_init_115 (by decide) ?_
  refine lv_iadd hx hb dX7_init_116 ?_
  refine n_iast C hY hW hS 10 rfl (i := 5) (by decide) (by decide) (by decide) dX7_init_117 (fun H locs hW hS => ?_)
  have hW : wW G.1 (fun z => z = h0 ∨ sz ≤ z) (((h0, .inr (7, [.ref q1, .ref q2, .ref q3, .ref q4, .int 0, .ref q5, .ref q6, .int 0, .int 0, .int 0, .int 0, .int 0, .long 0, .int 0, .ref q7, .ref q8, .ref q9, .ref q10])) :: ((q10, .inl (G.2.1 0, 40, .inl (fun _ => (0 : Int32)))) :: ((q9, .inl (G.2.1 0, 160, .inl (fun _ => (0 : Int32)))) :: ((q8, .inl (G.2.1 0, 4, .inl (fun _ => (0 : Int32)))) :: ((q7, .inl (G.2.1 0, 4, .inl (fun _ => (0 : Int32)))) :: ((q6, .inl (G.2.1 1, 120, .inl (fun _ => (0 : Int32)))) :: ((q5, .inl (G.2.1 0, 7, .inl (fun _ => (0 : Int32)))) :: ((q4, .inl (G.2.1 0, 75, .inl (fun _ => (0 : Int32)))) :: ((q3, .inl (G.2.1 0, 75, .inl (fun _ => (0 : Int32)))) :: ((q2, .inl (G.2.1 0, 75, .inl (fun _ => (0 : Int32)))) :: ((q1, .inl (G.2.1 0, 75, .inl (upd (upd (upd (upd (fun _ => (0 : Int32)) 2 1) 3 (((1000 * 0) + (10 * 0)) + 5)) 4 (((1000 * 1) + (10 * 1)) + 5)) 5 (((1000 * 2) + (10 * 2)) + 5)))) :: []))))))))))) : va_W) H := hW
  refine lv_iinc (v := 3) (lv' := [(1, .int 3), (0, .ref h0)]) hx hb dX7_init_118 hl (k := 0) rfl (by decide) (by decide) rfl (fun ls hl => ?_)
  refine lv_goto (tgt := 92) hx hb dX7_init_121 (by decide) ?_
  refine lv_iload_n hx hb dX7_init_92 rfl (lv_at hl 0 rfl) ?_
  refine lv_bipush (v := 6) hx hb dX7_init_93 (by decide) ?_
  refine lv_icmp_ge (tgt := 124) hx hb dX7_init_95 (by decide) (fun c_ => absurd c_ (by decide)) (fun c_ => ?_)
  refine lv_aload_n hx hb dX7_init_98 rfl (lv_at hl 1 rfl) ?_
  refine n_get fd_RX7_7 C hY hW 0 rfl (v := .ref q1) rfl dX7_init_99 ?_
  refine lv_iconst (v := 3) hx hb dX7_init_102 (by decide) ?_
  refine lv_iload_n hx hb dX7_init_103 rfl (lv_at hl 0 rfl) ?_
  refine lv_iadd hx hb dX7_init_104 ?_
  refine lv_sipush (v := 1000) hx hb dX7_init_105 (by decide) ?_
  refine lv_iload_n hx hb dX7_init_108 rfl (lv_at hl 0 rfl) ?_
  refine lv_imul hx hb dX7_init_109 ?_
  refine lv_bipush (v := 10) hx hb dX7_init_110 (by decide) ?_
  refine lv_iload_n hx hb dX7_init_112 rfl (lv_at hl 0 rfl) ?_
  refine lv_imul hx hb dX7_init_113 ?_
  refine lv_iadd hx hb dX7_init_114 ?_
  refine lv_iconst (v := 5) hx hb dX7_init_115 (by decide) ?_
  refine lv_iadd hx hb dX7_init_116 ?_
  refine n_iast C hY hW hS 10 rfl (i := 6) (by decide) (by decide) (by decide) dX7_init_117 (fun H locs hW hS => ?_)
  have hW : wW G.1 (fun z => z = h0 ∨ sz ≤ z) (((h0, .inr (7, [.ref q1, .ref q2, .ref q3, .ref q4, .int 0, .ref q5, .ref q6, .int 0, .int 0, .int 0, .int 0, .int 0, .long 0, .int 0, .ref q7, .ref q8, .ref q9, .ref q10])) :: ((q10, .inl (G.2.1 0, 40, .inl (fun _ => (0 : Int32)))) :: ((q9, .inl (G.2.1 0, 160, .inl (fun _ => (0 : Int32)))) :: ((q8, .inl (G.2.1 0, 4, .inl (fun _ => (0 : Int32)))) :: ((q7, .inl (G.2.1 0, 4, .inl (fun _ => (0 : Int32)))) :: ((q6, .inl (G.2.1 1, 120, .inl (fun _ => (0 : Int32)))) :: ((q5, .inl (G.2.1 0, 7, .inl (fun _ => (0 : Int32)))) :: ((q4, .inl (G.2.1 0, 75, .inl (fun _ => (0 : Int32)))) :: ((q3, .inl (G.2.1 0, 75, .inl (fun _ => (0 : Int32)))) :: ((q2, .inl (G.2.1 0, 75, .inl (fun _ => (0 : Int32)))) :: ((q1, .inl (G.2.1 0, 75, .inl (upd (upd (upd (upd (upd (fun _ => (0 : Int32)) 2 1) 3 (((1000 * 0) + (10 * 0)) + 5)) 4 (((1000 * 1) + (10 * 1)) + 5)) 5 (((1000 * 2) + (10 * 2)) + 5)) 6 (((1000 * 3) + (10 * 3)) + 5)))) :: []))))))))))) : va_W) H := hW
  refine lv_iinc (v := 4) (lv' := [(1, .int 4), (0, .ref h0)]) hx hb dX7_init_118 hl (k := 0) rfl (by decide) (by decide) rfl (fun ls hl => ?_)
  refine lv_goto (tgt := 92) hx hb dX7_init_121 (by decide) ?_
  refine lv_iload_n hx hb dX7_init_92 rfl (lv_at hl 0 rfl) ?_
  refine lv_bipush (v := 6) hx hb dX7_init_93 (by decide) ?_
  refine lv_icmp_ge (tgt := 124) hx hb dX7_init_95 (by decide) (fun c_ => absurd c_ (by decide)) (fun c_ => ?_)
  refine lv_aload_n hx hb dX7_init_98 rfl (lv_at hl 1 rfl) ?_
  refine n_get fd_RX7_7 C hY hW 0 rfl (v := .ref q1) rfl dX7_init_99 ?_
  refine lv_iconst (v := 3) hx hb dX7_init_102 (by decide) ?_
  refine lv_iload_n hx hb dX7_init_103 rfl (lv_at hl 0 rfl) ?_
  refine lv_iadd hx hb dX7_init_104 ?_
  refine lv_sipush (v := 1000) hx hb dX7_init_105 (by decide) ?_
  refine lv_iload_n hx hb dX7_init_108 rfl (lv_at hl 0 rfl) ?_
  refine lv_imul hx hb dX7_init_109 ?_
  refine lv_bipush (v := 10) hx hb dX7_init_110 (by decide) ?_
  refine lv_iload_n hx hb dX7_init_112 rfl (lv_at hl 0 rfl) ?_
  refine lv_imul hx hb dX7_init_113 ?_
  refine lv_iadd hx hb dX7_init_114 ?_
  refine lv_iconst (v := 5) hx hb dX7_init_115 (by decide) ?_
  refine lv_iadd hx hb dX7_init_116 ?_
  refine n_iast C hY hW hS 10 rfl (i := 7) (by decide) (by decide) (by decide) dX7_init_117 (fun H locs hW hS => ?_)
  have hW : wW G.1 (fun z => z = h0 ∨ sz ≤ z) (((h0, .inr (7, [.ref q1, .ref q2, .ref q3, .ref q4, .int 0, .ref q5, .ref q6, .int 0, .int 0, .int 0, .int 0, .int 0, .long 0, .int 0, .ref q7, .ref q8, .ref q9, .ref q10])) :: ((q10, .inl (G.2.1 0, 40, .inl (fun _ => (0 : Int32)))) :: ((q9, .inl (G.2.1 0, 160, .inl (fun _ => (0 : Int32)))) :: ((q8, .inl (G.2.1 0, 4, .inl (fun _ => (0 : Int32)))) :: ((q7, .inl (G.2.1 0, 4, .inl (fun _ => (0 : Int32)))) :: ((q6, .inl (G.2.1 1, 120, .inl (fun _ => (0 : Int32)))) :: ((q5, .inl (G.2.1 0, 7, .inl (fun _ => (0 : Int32)))) :: ((q4, .inl (G.2.1 0, 75, .inl (fun _ => (0 : Int32)))) :: ((q3, .inl (G.2.1 0, 75, .inl (fun _ => (0 : Int32)))) :: ((q2, .inl (G.2.1 0, 75, .inl (fun _ => (0 : Int32)))) :: ((q1, .inl (G.2.1 0, 75, .inl (upd (upd (upd (upd (upd (upd (fun _ => (0 : Int32)) 2 1) 3 (((1000 * 0) + (10 * 0)) + 5)) 4 (((1000 * 1) + (10 * 1)) + 5)) 5 (((1000 * 2) + (10 * 2)) + 5)) 6 (((1000 * 3) + (10 * 3)) + 5)) 7 (((1000 * 4) + (10 * 4)) + 5)))) :: []))))))))))) : va_W) H := hW
  refine lv_iinc (v := 5) (lv' := [(1, .int 5), (0, .ref h0)]) hx hb dX7_init_118 hl (k := 0) rfl (by decide) (by decide) rfl (fun ls hl => ?_)
  refine lv_goto (tgt := 92) hx hb dX7_init_121 (by decide) ?_
  refine lv_iload_n hx hb dX7_init_92 rfl (lv_at hl 0 rfl) ?_
  refine lv_bipush (v := 6) hx hb dX7_init_93 (by decide) ?_
  refine lv_icmp_ge (tgt := 124) hx hb dX7_init_95 (by decide) (fun c_ => absurd c_ (by decide)) (fun c_ => ?_)
  refine lv_aload_n hx hb dX7_init_98 rfl (lv_at hl 1 rfl) ?_
  refine n_get fd_RX7_7 C hY hW 0 rfl (v := .ref q1) rfl dX7_init_99 ?_
  refine lv_iconst (v := 3) hx hb dX7_init_102 (by decide) ?_
  refine lv_iload_n hx hb dX7_init_103 rfl (lv_at hl 0 rfl) ?_
  refine lv_iadd hx hb dX7_init_104 ?_
  refine lv_sipush (v := 1000) hx hb dX7_init_105 (by decide) ?_
  refine lv_iload_n hx hb dX7_init_108 rfl (lv_at hl 0 rfl) ?_
  refine lv_imul hx hb dX7_init_109 ?_
  refine lv_bipush (v := 10) hx hb dX7_init_110 (by decide) ?_
  refine lv_iload_n hx hb dX7_init_112 rfl (lv_at hl 0 rfl) ?_
  refine lv_imul hx hb dX7_init_113 ?_
  refine lv_iadd hx hb dX7_init_114 ?_
  refine lv_iconst (v := 5) hx hb dX7_init_115 (by decide) ?_
  refine lv_iadd hx hb dX7_init_116 ?_
  refine n_iast C hY hW hS 10 rfl (i := 8) (by decide) (by decide) (by decide) dX7_init_117 (fun H locs hW hS => ?_)
  have hW : wW G.1 (fun z => z = h0 ∨ sz ≤ z) (((h0, .inr (7, [.ref q1, .ref q2, .ref q3, .ref q4, .int 0, .ref q5, .ref q6, .int 0, .int 0, .int 0, .int 0, .int 0, .long 0, .int 0, .ref q7, .ref q8, .ref q9, .ref q10])) :: ((q10, .inl (G.2.1 0, 40, .inl (fun _ => (0 : Int32)))) :: ((q9, .inl (G.2.1 0, 160, .inl (fun _ => (0 : Int32)))) :: ((q8, .inl (G.2.1 0, 4, .inl (fun _ => (0 : Int32)))) :: ((q7, .inl (G.2.1 0, 4, .inl (fun _ => (0 : Int32)))) :: ((q6, .inl (G.2.1 1, 120, .inl (fun _ => (0 : Int32)))) :: ((q5, .inl (G.2.1 0, 7, .inl (fun _ => (0 : Int32)))) :: ((q4, .inl (G.2.1 0, 75, .inl (fun _ => (0 : Int32)))) :: ((q3, .inl (G.2.1 0, 75, .inl (fun _ => (0 : Int32)))) :: ((q2, .inl (G.2.1 0, 75, .inl (fun _ => (0 : Int32)))) :: ((q1, .inl (G.2.1 0, 75, .inl (upd (upd (upd (upd (upd (upd (upd (fun _ => (0 : Int32)) 2 1) 3 (((1000 * 0) + (10 * 0)) + 5)) 4 (((1000 * 1) + (10 * 1)) + 5)) 5 (((1000 * 2) + (10 * 2)) + 5)) 6 (((1000 * 3) + (10 * 3)) + 5)) 7 (((1000 * 4) + (10 * 4)) + 5)) 8 (((1000 * 5) + (10 * 5)) + 5)))) :: []))))))))))) : va_W) H := hW
  refine lv_iinc (v := 6) (lv' := [(1, .int 6), (0, .ref h0)]) hx hb dX7_init_118 hl (k := 0) rfl (by decide) (by decide) rfl (fun ls hl => ?_)
  refine lv_goto (tgt := 92) hx hb dX7_init_121 (by decide) ?_
  refine lv_iload_n hx hb dX7_init_92 rfl (lv_at hl 0 rfl) ?_
  refine lv_bipush (v := 6) hx hb dX7_init_93 (by decide) ?_
  refine lv_icmp_ge (tgt := 124) hx hb dX7_init_95 (by decide) (fun c_ => ?_) (fun c_ => absurd (by decide) c_)
  exact n_ret C hr hlk hsz hW hS (fun k => ([0, 10, 9, 8, 7, 6, 5, 4, 3, 2, 1] : List Nat).getD k 0) (fun k => ([h0, q1, q2, q3, q4, q5, q6, q7, q8, q9, q10] : List Nat).getD k 0) rfl (pi_inj (by decide +kernel)) (lt_cases (lt_cases (lt_cases (lt_cases (lt_cases (lt_cases (lt_cases (lt_cases (lt_cases (lt_cases (lt_cases lt_none ⟨_, rfl, shEq.rf⟩) ⟨_, rfl, eI_cong (lt_cases (lt_cases (lt_cases (lt_cases (lt_cases (lt_cases (lt_cases (lt_cases (lt_cases (lt_cases (lt_cases (lt_cases (lt_cases (lt_cases (lt_cases (lt_cases (lt_cases (lt_cases (lt_cases (lt_cases (lt_cases (lt_cases (lt_cases (lt_cases (lt_cases (lt_cases (lt_cases (lt_cases (lt_cases (lt_cases (lt_cases (lt_cases (lt_cases (lt_cases (lt_cases (lt_cases (lt_cases (lt_cases (lt_cases (lt_cases (lt_cases (lt_cases (lt_cases (lt_cases (lt_cases (lt_cases (lt_cases (lt_cases (lt_cases (lt_cases (lt_cases (lt_cases (lt_cases (lt_cases (lt_cases (lt_cases (lt_cases (lt_cases (lt_cases (lt_cases (lt_cases (lt_cases (lt_cases (lt_cases (lt_cases (lt_cases (lt_cases (lt_cases (lt_cases (lt_cases (lt_cases (lt_cases (lt_cases (lt_cases (lt_cases lt_none (by decide)) (by decide)) (by decide)) (by decide)) (by decide)) (by decide)) (by decide)) (by decide)) (by decide)) (by decide)) (by decide)) (by decide)) (by decide)) (by decide)) (by decide)) (by decide)) (by decide)) (by decide)) (by decide)) (by decide)) (by decide)) (by decide)) (by decide)) (by decide)) (by decide)) (by decide)) (by decide)) (by decide)) (by decide)) (by decide)) (by decide)) (by decide)) (by decide)) (by decide)) (by decide)) (by decide)) (by decide)) (by decide)) (by decide)) (by decide)) (by decide)) (by decide)) (by decide)) (by decide)) (by decide)) (by decide)) (by decide)) (by decide)) (by decide)) (by decide)) (by decide)) (by decide)) (by decide)) (by decide)) (by decide)) (by decide)) (by decide)) (by decide)) (by decide)) (by decide)) (by decide)) (by decide)) (by decide)) (by decide)) (by decide)) (by decide)) (by decide)) (by decide)) (by decide)) (by decide)) (by decide)) (by decide)) (by decide)) (by decide)) (by decide))⟩) ⟨_, rfl, shEq.rf⟩) ⟨_, rfl, shEq.rf⟩) ⟨_, rfl, shEq.rf⟩) ⟨_, rfl, shEq.rf⟩) ⟨_, rfl, shEq.rf⟩) ⟨_, rfl, shEq.rf⟩) ⟨_, rfl, shEq.rf⟩) ⟨_, rfl, shEq.rf⟩) ⟨_, rfl, shEq.rf⟩) (by decide) (by decide) dX7_init_124
