
theorem shX_20 (G : gG) (ad : Nat → Nat) (f : Nat → Int32) : shX G ad 20 f = .inr (0, [.ref (ad 23), .ref (ad 21), .ref (ad 22), .int (f 0), .int (f 1), .int (f 2)]) := rfl
theorem shX_33 (G : gG) (ad : Nat → Nat) (f : Nat → Int32) : shX G ad 33 f = .inl (G.2.1 0, 6, .inl f) := rfl
theorem shX_34 (G : gG) (ad : Nat → Nat) (f : Nat → Int32) : shX G ad 34 f = .inl (G.2.1 0, 10, .inl f) := rfl
/-- a part picked by places, where cells alone agree -/
def shEq (D : va_G) (e1 e2 : va_E) : Prop := ∀ (a : Nat) (H : Heap), va_at D vwCl (a, e1) H ↔ va_at D vwCl (a, e2) H
theorem shEq.rf {D : va_G} {e : va_E} : shEq D e e := fun _ _ => Iff.rfl
theorem eF_cong {D : va_G} {cA : ClassId} {N : Nat} {f g : Nat → Nat} (h : ∀ j, j < N → f j = g j) : shEq D (eF cA N f) (eF cA N g) := by
  have e : arrV cA N (fun j => va_rf (some (f j))) = arrV cA N (fun j => va_rf (some (g j))) := by
    unfold arrV
    congr 2
    funext j
    show va_rf (some (f j.val)) = va_rf (some (g j.val))
    rw [h j.val j.isLt]
  intro a H
  show H[a]? = some (arrV cA N (fun j => va_rf (some (f j)))) ↔ H[a]? = some (arrV cA N (fun j => va_rf (some (g j))))
  rw [e]
theorem shC_cong {G : gG} {ad1 ad2 : Nat → Nat} (h : ∀ k, k < 12 → ad1 k = ad2 k) {i : Nat} (hi : i < 12) (f : Nat → Int32) : shEq G.1 (shC G ad1 i f) (shC G ad2 i f) := by
  by_cases h8 : i < 8
  · unfold shC
    rw [if_pos h8, if_pos h8]
    exact shEq.rf
  · obtain rfl | rfl | rfl | rfl : i = 8 ∨ i = 9 ∨ i = 10 ∨ i = 11 := by omega
    · rw [shC_8, shC_8, h 11 (by decide), h 9 (by decide), h 10 (by decide)]
      exact shEq.rf
    · exact shEq.rf
    · exact shEq.rf
    · exact eF_cong (fun j hj => h j (by omega))
theorem gP.pickE {D : va_G} {n : Nat} {ad : Nat → Nat} {sh sh1 : Nat → (Nat → Int32) → va_E} {σ : gM} {H : Heap} (h : gP D n ad (gE sh σ) H) (ι : Nat → Nat) (m : Nat) (hm : ∀ i, i < m → ι i < n) (hs : ∀ i, i < m → ∀ f, shEq D (sh (ι i) f) (sh1 i f)) : gP D m (fun i => ad (ι i)) (gE sh1 (mpick σ ι)) H := fun k hk => (hs k hk _ _ _).mp (h (ι k) (hm k hk))
theorem gP.backE {D : va_G} {b0 n : Nat} {ad : Nat → Nat} {sh sh1 : Nat → (Nat → Int32) → va_E} {σ τ : gM} {H H1 : Heap} (h : gP D n ad (gE sh σ) H) (hI : gI b0 n ad) (ι κ : Nat → Nat) (m : Nat) (hm : ∀ i, i < m → ι i < n ∧ κ (ι i) = i) (hs : ∀ i, i < m → ∀ f, shEq D (sh (ι i) f) (sh1 i f)) (hk : ∀ q : Nat, q < H.size → ¬ gA m (fun i => ad (ι i)) q → H1[q]? = H[q]?) (h1 : gP D m (fun i => ad (ι i)) (gE sh1 τ) H1) : gP D n ad (gE sh (mback σ ι κ m τ)) H1 := fun k hkn => by
  show va_at D vwCl (ad k, sh k (mback σ ι κ m τ k)) H1
  unfold mback
  by_cases hr : κ k < m ∧ ι (κ k) = k
  · rw [if_pos hr]
    have h2 : va_at D vwCl (ad (ι (κ k)), sh (ι (κ k)) (τ (κ k))) H1 := (hs (κ k) hr.1 (τ (κ k)) _ _).mpr (h1 (κ k) hr.1)
    rw [hr.2] at h2
    exact h2
  · rw [if_neg hr]
    have h2 := h k hkn
    refine h2.kept (hk (ad k) h2.lt ?_)
    rintro ⟨i, hi, he⟩
    have e := hI.1 k (ι i) hkn (hm i hi).1 he
    apply hr
    rw [e, (hm i hi).2]
    exact ⟨hi, rfl⟩
section
variable {p : Program} {l : Launch} {e : Env} {R : Room} {s : State} {m : MethodId} {args : Array Value} {below : List Frame} {meth : Method} {c : Code} {H : Heap} {locs : List Loc} {cells slots : Nat} {Q : State → Prop} {cc : ByteArray} {pc : Nat} {ls : Array Slot} {rest : List Value} {G : gG} {n : Nat} {ad : Nat → Nat} {sh : Nat → (Nat → Int32) → va_E} {σ : gM} {st0 : List Value} {sh1 : Nat → (Nat → Int32) → va_E}
theorem g_wrVq {ι κ : Nat → Nat} {m1 : Nat} {r : gM} {a : Array Value} {b0 : Nat} (hm : ∀ i, i < m1 → ι i < n ∧ κ (ι i) = i) (hs : ∀ i, i < m1 → ∀ f, shEq G.1 (sh (ι i) f) (sh1 i f)) (hI : gI b0 n ad) (hP : gP G.1 n ad (gE sh σ) H) (hS : va_S (gA n ad) s.heap H locs)
    (hr : va_Run p l e R s m args below meth c H locs cells slots 0 0 (F0 m pc ls st0) rest (va_Qv (fun τ : gM => τ = r) (fun τ t => gP G.1 m1 (fun i => ad (ι i)) (gE sh1 τ) t.heap) (gA m1 (fun i => ad (ι i))) a) (gA m1 (fun i => ad (ι i))))
    (kk : ∀ (H1 : Heap) (locs1 : List Loc), gP G.1 n ad (gE sh (mback σ ι κ m1 r)) H1 → va_S (gA n ad) s.heap H1 locs1 → W p l e R s m args below meth c H1 locs1 cells slots Q (F0 m (pc + 3) ls rest)) : W p l e R s m args below meth c H locs cells slots Q (F0 m pc ls st0) :=
  have hsub : ∀ q, gA m1 (fun i => ad (ι i)) q → gA n ad q := fun q h => by
    obtain ⟨k, hk, rfl⟩ := h
    exact ⟨ι k, (hm k hk).1, rfl⟩
  va_callv hr hS (fun q _ h => hsub q h) (fun q h => hsub q h) (fun u t H1 l1 ht _ hp hB hz hk hS1 => by
    subst hp
    refine kk H1 l1 (hP.backE hI ι κ m1 hm hs hk ?_) hS1
    rw [← ht]; exact hB)
end
def pkD (a b : Nat) : Nat → Nat := fun q => if q < 12 then a + q else b + (q - 12)
def kpD (a b : Nat) : Nat → Nat := fun k => if a ≤ k ∧ k < a + 12 then k - a else 12 + (k - b)
theorem pkD_lo {a b q : Nat} (h : q < 12) : pkD a b q = a + q := if_pos h
theorem pkD_hi {a b q : Nat} : pkD a b (12 + q) = b + q := by
  unfold pkD
  rw [if_neg (by omega), Nat.add_sub_cancel_left]
theorem kpD_lo {a b q : Nat} (h : q < 12) : kpD a b (a + q) = q := by
  unfold kpD
  rw [if_pos (by omega), Nat.add_sub_cancel_left]
theorem kpD_hi {a b q : Nat} (h : q < 12) (hab : a + 12 ≤ b ∨ b + 12 ≤ a) : kpD a b (b + q) = 12 + q := by
  unfold kpD
  rw [if_neg (by omega), Nat.add_sub_cancel_left]
theorem pkD_m {a b : Nat} (ha : a + 12 ≤ 55) (hb : b + 12 ≤ 55) (hab : a + 12 ≤ b ∨ b + 12 ≤ a) : ∀ i, i < 24 → pkD a b i < 55 ∧ kpD a b (pkD a b i) = i := by
  intro i hi
  by_cases h : i < 12
  · rw [pkD_lo h, kpD_lo h]
    exact ⟨by omega, rfl⟩
  · obtain ⟨j, rfl⟩ : ∃ j, i = 12 + j := ⟨i - 12, by omega⟩
    rw [pkD_hi, kpD_hi (by omega) hab]
    exact ⟨by omega, rfl⟩
theorem shX_o {G : gG} {ad : Nat → Nat} {o : Nat} (ho : o = 0 ∨ o = 12 ∨ o = 24) : ∀ i, i < 12 → ∀ f, shX G ad (o + i) f = shC G (fun i => ad (o + i)) i f := by
  rcases ho with rfl | rfl | rfl
  · exact shX_club G ad
  · exact shX_kept G ad
  · exact shX_trial G ad
theorem pkD_X (G : gG) (ad : Nat → Nat) {a b : Nat} (ha : a = 0 ∨ a = 12 ∨ a = 24) (hb : b = 0 ∨ b = 12 ∨ b = 24) : ∀ i, i < 24 → ∀ f, shEq G.1 (shX G ad (pkD a b i) f) (shD G (fun q => ad (pkD a b q)) i f) := by
  intro i hi f
  by_cases h : i < 12
  · rw [pkD_lo h, shX_o ha i h]
    unfold shD
    rw [if_pos h]
    exact shC_cong (fun k hk => by show ad (a + k) = ad (pkD a b k); rw [pkD_lo hk]) h f
  · obtain ⟨j, rfl⟩ : ∃ j, i = 12 + j := ⟨i - 12, by omega⟩
    rw [pkD_hi, shX_o hb j (by omega)]
    unfold shD
    rw [if_neg h, Nat.add_sub_cancel_left]
    exact shC_cong (fun k hk => by show ad (b + k) = ad (pkD a b (12 + k)); rw [pkD_hi]) (by omega) f
/-- a club of the object becomes another one -/
def bec (σ : gM) (a b : Nat) : gM := mback σ (pkD a b) (kpD a b) 24 (x_become0 (mpick σ (pkD a b)))
theorem mb2 {τ : gM} {g : Nat} (k : Nat) : mback τ (pk2 g (12 + g)) (kp2 g) 2 (x_become1 (mpick τ (pk2 g (12 + g)))) k = if k = g then (x_become1 (mpick τ (pk2 g (12 + g)))) 0 else τ k := by
  unfold mback
  by_cases h : k = g
  · subst h
    rw [if_pos rfl, show kp2 k k = 0 from if_pos rfl]
    exact if_pos ⟨by decide, rfl⟩
  · rw [if_neg h, show kp2 g k = 1 from if_neg h]
    by_cases h1 : 12 + g = k
    · subst h1
      exact if_pos ⟨by decide, rfl⟩
    · exact if_neg (fun q => h1 q.2)
theorem bc1 {ρ : gM} {j : Nat} (hj : j < 7) : (x_become1 ρ) 0 j = ρ 1 j := by
  obtain rfl | rfl | rfl | rfl | rfl | rfl | rfl : j = 0 ∨ j = 1 ∨ j = 2 ∨ j = 3 ∨ j = 4 ∨ j = 5 ∨ j = 6 := by omega
  all_goals rfl
theorem bcL {σ : gM} : ∀ (n g : Nat) (τ : gM), g + n ≤ 8 → (∀ k, 12 ≤ k → (x_become0_L2 σ n g τ) k = τ k) ∧ ((x_become0_L2 σ n g τ) 8 = upd (upd (upd (τ 8) 0 (τ 20 0)) 1 (τ 20 1)) 2 (τ 20 2)) ∧ (x_become0_L2 σ n g τ) 9 = va_cpy (τ 21) (τ 9) 0 0 6 ∧ (x_become0_L2 σ n g τ) 10 = va_cpy (τ 22) (τ 10) 0 0 10 ∧ (x_become0_L2 σ n g τ) 11 = τ 11 ∧ (∀ k, k < 8 → ∀ j, j < 7 → (x_become0_L2 σ n g τ) k j = if g ≤ k ∧ k < g + n then τ (12 + k) j else τ k j) := by
  intro n
  induction n with
  | zero =>
    intro g τ hg
    rw [x_become0_L2]
    refine ⟨fun k hk => ?_, rfl, rfl, rfl, rfl, fun k hk j hj => ?_⟩
    · rw [mset_ne _ _ _ (by omega), mset_ne _ _ _ (by omega), mset_ne _ _ _ (by omega), va_up_ne _ _ (by omega), va_up_ne _ _ (by omega)]
    · rw [mset_ne _ _ _ (by omega), mset_ne _ _ _ (by omega), mset_ne _ _ _ (by omega), va_up_ne _ _ (by omega), va_up_ne _ _ (by omega), if_neg (by omega)]
  | succ n ih =>
    intro g τ hg
    rw [x_become0_L2]
    obtain ⟨ρ, hρ⟩ : ∃ ρ, ρ = mback τ (pk2 g (12 + g)) (kp2 g) 2 (x_become1 (mpick τ (pk2 g (12 + g)))) := ⟨_, rfl⟩
    rw [← hρ]
    have hk : ∀ k, ¬ k = g → ρ k = τ k := fun k h => by rw [hρ, mb2, if_neg h]
    obtain ⟨h1, h2, h3, h4, h5, h6⟩ := ih (g + 1) ρ (by omega)
    refine ⟨fun k h => by rw [h1 k h, hk k (by omega)], ?_, ?_, ?_, ?_, fun k h j hj => ?_⟩
    · rw [h2, hk 8 (by omega), hk 20 (by omega)]
    · rw [h3, hk 9 (by omega), hk 21 (by omega)]
    · rw [h4, hk 10 (by omega), hk 22 (by omega)]
    · rw [h5, hk 11 (by omega)]
    · rw [h6 k h j hj]
      by_cases hkg : k = g
      · subst hkg
        rw [if_neg (by omega), if_pos (by omega), hρ, mb2, if_pos rfl, bc1 hj]
        rfl
      · rw [hk k hkg, hk (12 + k) (by omega)]
        by_cases q : g + 1 ≤ k ∧ k < g + 1 + n
        · rw [if_pos q, if_pos (by omega)]
        · rw [if_neg q, if_neg (by omega)]
/-- what become does, row by row -/
theorem bec_out {σ : gM} {a b k : Nat} {N : Nat} (hN : N ≤ 8) (hs : σ (b + 8) 0 = nI N) (hk : ¬ (a ≤ k ∧ k < a + 12)) : (bec σ a b) k = σ k := by
  have hz : nN ((mpick σ (pkD a b)) 20 0) = N := by
    show nN (σ (pkD a b (12 + 8)) 0) = N
    rw [pkD_hi, hs, nN_nI (by omega)]
  unfold bec mback
  split
  · rename_i h
    have e : kpD a b k = 12 + (k - b) := if_neg hk
    rw [e] at h ⊢
    unfold x_become0
    rw [hz, (bcL N 0 _ (by omega)).1 _ (by omega)]
    show σ (pkD a b (12 + (k - b))) = σ k
    rw [h.2]
  · rfl
theorem bec_in {σ : gM} {a b : Nat} {N : Nat} (hN : N ≤ 8) (hs : σ (b + 8) 0 = nI N) {i : Nat} (hi : i < 12) : (bec σ a b) (a + i) = (x_become0_L2 (mpick σ (pkD a b)) N 0 (mpick σ (pkD a b))) i := by
  have hz : nN ((mpick σ (pkD a b)) 20 0) = N := by
    show nN (σ (pkD a b (12 + 8)) 0) = N
    rw [pkD_hi, hs, nN_nI (by omega)]
  unfold bec mback
  rw [kpD_lo hi, pkD_lo hi, if_pos ⟨by omega, rfl⟩]
  unfold x_become0
  rw [hz]
theorem mp_lo {σ : gM} {a b i : Nat} (hi : i < 12) : mpick σ (pkD a b) i = σ (a + i) := by
  show σ (pkD a b i) = _
  rw [pkD_lo hi]
theorem mp_hi {σ : gM} {a b i : Nat} : mpick σ (pkD a b) (12 + i) = σ (b + i) := by
  show σ (pkD a b (12 + i)) = _
  rw [pkD_hi]
/-- the club that became: size, day, z; list; spots; gloves that are there -/
theorem bec_8 {σ : gM} {a b : Nat} {N : Nat} (hN : N ≤ 8) (hs : σ (b + 8) 0 = nI N) {j : Nat} (hj : j < 3) : (bec σ a b) (a + 8) j = σ (b + 8) j := by
  rw [bec_in hN hs (by decide), (bcL N 0 _ (by omega)).2.1]
  rw [show (20 : Nat) = 12 + 8 from rfl, mp_hi]
  obtain rfl | rfl | rfl : j = 0 ∨ j = 1 ∨ j = 2 := by omega
  all_goals rfl
theorem bec_9 {σ : gM} {a b : Nat} {N : Nat} (hN : N ≤ 8) (hs : σ (b + 8) 0 = nI N) {j : Nat} (hj : j < 6) : (bec σ a b) (a + 9) j = σ (b + 9) j := by
  rw [bec_in hN hs (by decide), (bcL N 0 _ (by omega)).2.2.1, pk_cpy_in (Nat.zero_le _) (by omega)]
  rw [show (21 : Nat) = 12 + 9 from rfl, mp_hi, Nat.zero_add, Nat.sub_zero]
theorem bec_10 {σ : gM} {a b : Nat} {N : Nat} (hN : N ≤ 8) (hs : σ (b + 8) 0 = nI N) {j : Nat} (hj : j < 10) : (bec σ a b) (a + 10) j = σ (b + 10) j := by
  rw [bec_in hN hs (by decide), (bcL N 0 _ (by omega)).2.2.2.1, pk_cpy_in (Nat.zero_le _) (by omega)]
  rw [show (22 : Nat) = 12 + 10 from rfl, mp_hi, Nat.zero_add, Nat.sub_zero]
theorem bec_g {σ : gM} {a b : Nat} {N : Nat} (hN : N ≤ 8) (hs : σ (b + 8) 0 = nI N) {g j : Nat} (hg : g < N) (hj : j < 7) : (bec σ a b) (a + g) j = σ (b + g) j := by
  rw [bec_in hN hs (by omega), (bcL N 0 _ (by omega)).2.2.2.2.2 g (by omega) j hj, if_pos (by omega), mp_hi]
theorem pdsL8 {away : Int32} {k N : Nat} {σ : gM} (hN : N ≤ 8) : ∀ (n i : Nat) (τ : gM), τ 8 0 = nI N → (x_passDays0_L2 σ k away n i τ) 8 0 = nI N := by
  intro n
  induction n with
  | zero => intro i τ h; rw [x_passDays0_L2]; exact h
  | succ n ih => intro i τ h; rw [x_passDays0_L2]; exact ih _ _ (pd_8 hN h away)
theorem pds_8 {σ : gM} {N : Nat} (hN : N ≤ 8) (hs : σ 8 0 = nI N) (k : Nat) (away : Int32) : (x_passDays0 σ k away) 8 0 = nI N := by
  unfold x_passDays0
  exact pdsL8 hN _ _ _ hs
theorem n0_of {x : Int32} (h : ¬ x < 1) : ¬ x < 0 := fun q => h (by
  have a := Int32.lt_iff_toInt_lt.mp q
  apply Int32.lt_iff_toInt_lt.mpr
  have b : (0 : Int32).toInt = 0 := rfl
  have c : (1 : Int32).toInt = 1 := rfl
  omega)
theorem xb_isIn (a b : Int32) : x_isIn a b = 0 ∨ x_isIn a b = 1 := by
  unfold x_isIn
  split
  · exact Or.inr rfl
  · exact Or.inl rfl
theorem has_of {σ : gM} {N : Nat} {g : Int32} (hN : N ≤ 8) (hs : σ 8 0 = nI N) (h : ¬ x_has0 σ g = 0) : g = nI (nN g) ∧ nN g < N := isW_of1 hs (by omega) h
