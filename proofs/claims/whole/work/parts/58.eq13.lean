/-! the class's tokens: what the byte loop leaves -/
theorem so_cases (b : Int32) : (b = 32 ∧ x_sortOf5 b = 18 ∧ m_letter b ≤ 0 ∧ m_isDigit b = 0) ∨ (b = 59 ∧ x_sortOf5 b = 15 ∧ m_letter b ≤ 0 ∧ m_isDigit b = 0) ∨ (b ≠ 32 ∧ b ≠ 59 ∧ x_sortOf5 b = 14 ∧ m_letter b ≤ 0 ∧ ¬ m_isDigit b = 0 ∧ 48 ≤ b.toInt ∧ b.toInt ≤ 57) ∨ (b ≠ 32 ∧ b ≠ 59 ∧ x_sortOf5 b = 13 ∧ ¬ m_letter b ≤ 0 ∧ 97 ≤ b.toInt ∧ b.toInt ≤ 122 ∧ m_letter b = b - 97 + 1) ∨ (b ≠ 32 ∧ b ≠ 59 ∧ x_sortOf5 b = 16 ∧ m_letter b ≤ 0 ∧ m_isDigit b = 0) := by
  have i97 : (97 : Int32).toInt = 97 := rfl
  have i122 : (122 : Int32).toInt = 122 := rfl
  have i48 : (48 : Int32).toInt = 48 := rfl
  have i57 : (57 : Int32).toInt = 57 := rfl
  have a1 : b < 97 ↔ b.toInt < 97 := by rw [Int32.lt_iff_toInt_lt, i97]
  have a2 : 122 < b ↔ 122 < b.toInt := by rw [Int32.lt_iff_toInt_lt, i122]
  have a3 : b < 48 ↔ b.toInt < 48 := by rw [Int32.lt_iff_toInt_lt, i48]
  have a4 : 57 < b ↔ 57 < b.toInt := by rw [Int32.lt_iff_toInt_lt, i57]
  have e32 : b = 32 → b.toInt = 32 := fun q => by rw [q]; rfl
  have e59 : b = 59 → b.toInt = 59 := fun q => by rw [q]; rfl
  by_cases c1 : 97 ≤ b.toInt ∧ b.toInt ≤ 122
  · right; right; right; left
    have n1 : ¬ b < 97 := fun q => by have := a1.mp q; omega
    have n2 : ¬ 122 < b := fun q => by have := a2.mp q; omega
    obtain ⟨n, hn, rfl⟩ := nI_of (x := b) (fun q => by have := Int32.lt_iff_toInt_lt.mp q; rw [show (0 : Int32).toInt = 0 from rfl] at this; omega)
    have hb := c1
    rw [nI_toInt hn] at hb
    have em : m_letter (nI n) = nI n - 97 + 1 := by
      unfold m_letter
      rw [if_neg n1, if_neg n2]
    have ev : nI n - 97 + 1 = nI (n - 97 + 1) := by
      rw [show (97 : Int32) = nI 97 from rfl, pk_sub (by omega), nI_1]
    refine ⟨fun q => by have := e32 q; omega, fun q => by have := e59 q; omega, by unfold x_sortOf5; rw [if_neg n1, if_neg n2], ?_, c1.1, c1.2, em⟩
    rw [em, ev]
    exact fun q => by have := (nI_leI (b := 0) (by omega) (by decide)).mp q; omega
  · have hl : m_letter b = 0 := by
      unfold m_letter
      by_cases q : b < 97
      · rw [if_pos q]
      · rw [if_neg q, if_pos (a2.mpr (by have : ¬ b.toInt < 97 := fun r => q (a1.mpr r); omega))]
    have hl' : m_letter b ≤ 0 := by rw [hl]; decide
    have hs : x_sortOf5 b = if b < 48 then (if b = 59 then 15 else (if b = 32 then 18 else 16)) else (if 57 < b then (if b = 59 then 15 else (if b = 32 then 18 else 16)) else 14) := by
      unfold x_sortOf5
      by_cases q : b < 97
      · rw [if_pos q]
      · rw [if_neg q, if_pos (a2.mpr (by have : ¬ b.toInt < 97 := fun r => q (a1.mpr r); omega))]
    by_cases c2 : 48 ≤ b.toInt ∧ b.toInt ≤ 57
    · right; right; left
      have n1 : ¬ b < 48 := fun q => by have := a3.mp q; omega
      have n2 : ¬ 57 < b := fun q => by have := a4.mp q; omega
      refine ⟨fun q => by have := e32 q; omega, fun q => by have := e59 q; omega, by rw [hs, if_neg n1, if_neg n2], hl', ?_, c2.1, c2.2⟩
      unfold m_isDigit
      rw [if_neg n1, if_neg n2]
      decide
    · have hd : m_isDigit b = 0 := by
        unfold m_isDigit
        by_cases q : b < 48
        · rw [if_pos q]
        · rw [if_neg q, if_pos (a4.mpr (by have : ¬ b.toInt < 48 := fun r => q (a3.mpr r); omega))]
      have hs2 : x_sortOf5 b = (if b = 59 then 15 else (if b = 32 then 18 else 16)) := by
        rw [hs]
        by_cases q : b < 48
        · rw [if_pos q]
        · rw [if_neg q, if_pos (a4.mpr (by have : ¬ b.toInt < 48 := fun r => q (a3.mpr r); omega))]
      by_cases d1 : b = 59
      · exact Or.inr (Or.inl ⟨d1, by rw [hs2, if_pos d1], hl', hd⟩)
      · by_cases d2 : b = 32
        · exact Or.inl ⟨d2, by rw [hs2, if_neg d1, if_pos d2], hl', hd⟩
        · exact Or.inr (Or.inr (Or.inr (Or.inr ⟨d2, d1, by rw [hs2, if_neg d1, if_neg d2], hl', hd⟩)))
/-- what the digits say, held at 100000 -/
def nf (β : Nat → Int32) (s : Nat) : Nat → Nat
  | 0 => 0
  | n + 1 => min 100000 (10 * nf β s n + (nN (β (s + n)) - 48))
def prv (τ : gM) (k : Nat) : Nat := if k = 0 then 0 else nN (τ 3 (k - 1))
def TI (β : Nat → Int32) (i : Nat) (τ : gM) (p k : Nat) : Prop := ∃ s e : Nat, τ 2 k = nI s ∧ τ 3 k = nI e ∧ p ≤ s ∧ s < e ∧ e ≤ i ∧ (∀ j, p ≤ j → j < s → x_sortOf5 (β j) = 18) ∧ (∀ j, s ≤ j → j < e → x_sortOf5 (β j) = τ 1 k) ∧ (¬ (τ 1 k = 13 ∨ τ 1 k = 14) → e = s + 1) ∧ ((τ 1 k = 13 ∨ τ 1 k = 14) → e < i → x_sortOf5 (β e) ≠ τ 1 k) ∧ (τ 1 k = 14 → τ 4 k = nI (nf β s (e - s))) ∧ τ 1 k ≠ 18
def INV (β : Nat → Int32) (T i c : Nat) (before : Int32) (τ : gM) : Prop := τ 0 0 = nI c ∧ c ≤ i ∧ τ 5 0 = nI T ∧ τ 6 = β ∧ (before = if i = 0 then 18 else x_sortOf5 (β (i - 1))) ∧ (∀ k, k < c → TI β i τ (prv τ k) k) ∧ prv τ c ≤ i ∧ (∀ j, prv τ c ≤ j → j < i → x_sortOf5 (β j) = 18) ∧ ∀ j, j < 121 → NB 100000 (τ 4 j)
theorem TI.lt {β : Nat → Int32} {T i c : Nat} {before : Int32} {τ : gM} (I : INV β T i c before τ) (hi : i < 2 ^ 31) {k e : Nat} (hk : k + 1 < c) (he : τ 3 k = nI e) (h2 : e ≤ i) : e < i := by
  obtain ⟨s', e', q1, q2, q3, q4, q5, -⟩ := I.2.2.2.2.2.1 (k + 1) hk
  unfold prv at q3
  rw [if_neg (by omega), Nat.add_sub_cancel, he, nN_nI (by omega)] at q3
  omega
theorem byteAt_is {τ : gM} {T i : Nat} (hT : T ≤ 120) (h5 : τ 5 0 = nI T) (hi : i < T) : x_byteAt3 (mget τ 5) (nI i) = τ 6 i := by
  unfold x_byteAt3
  rw [show (mget τ 5) 0 0 = τ 5 0 from rfl, h5, if_neg (win_iff.mpr ⟨by rw [nI_toInt (by omega)]; omega, by
    have := pk_sub_toInt (a := T) (b := 1) (by omega) (by decide)
    rw [show nI T - 1 = nI T - nI 1 from rfl, this, nI_toInt (by omega)]; omega⟩), nN_nI (by omega)]
  rfl
theorem TI.next {β : Nat → Int32} {i : Nat} {τ : gM} {p k : Nat} (h : TI β i τ p k) (hx : ∀ e, τ 3 k = nI e → e = i → (τ 1 k = 13 ∨ τ 1 k = 14) → x_sortOf5 (β i) ≠ τ 1 k) : TI β (i + 1) τ p k := by
  obtain ⟨s, e, a1, a2, a3, a4, a5, a6, a7, a8, a9, a10, a11⟩ := h
  refine ⟨s, e, a1, a2, a3, a4, by omega, a6, a7, a8, fun q1 q2 => ?_, a10, a11⟩
  by_cases c : e = i
  · rw [c]; exact hx e a2 c q1
  · exact a9 q1 (by omega)
theorem TI.cong {β : Nat → Int32} {i : Nat} {τ τ' : gM} {p k : Nat} (h : TI β i τ p k) (h1 : τ' 1 k = τ 1 k) (h2 : τ' 2 k = τ 2 k) (h3 : τ' 3 k = τ 3 k) (h4 : τ' 4 k = τ 4 k) : TI β i τ' p k := by
  unfold TI
  rw [h1, h2, h3, h4]
  exact h
theorem prv_cong {τ τ' : gM} {k : Nat} (h : ∀ j, j < k → τ' 3 j = τ 3 j) : prv τ' k = prv τ k := by
  unfold prv
  by_cases c : k = 0
  · rw [if_pos c, if_pos c]
  · rw [if_neg c, if_neg c, h _ (by omega)]
theorem begin_is {τ : gM} {c i : Nat} {so : Int32} (h0 : τ 0 0 = nI c) (hc : c < 121) : (x_begin5 τ so (nI i)) 0 = upd (τ 0) 0 (nI (c + 1)) ∧ (x_begin5 τ so (nI i)) 1 = upd (τ 1) c so ∧ (x_begin5 τ so (nI i)) 2 = upd (τ 2) c (nI i) ∧ (x_begin5 τ so (nI i)) 3 = upd (τ 3) c (nI i) ∧ (x_begin5 τ so (nI i)) 4 = upd (τ 4) c 0 ∧ ∀ k, 5 ≤ k → (x_begin5 τ so (nI i)) k = τ k := by
  unfold x_begin5
  rw [h0, if_neg (fun q => by have := (nI_leI (a := 121) (by decide) (by omega)).mp q; omega), nN_nI (by omega), nI_1]
  refine ⟨?_, ?_, ?_, ?_, ?_, fun k hk => ?_⟩
  · rw [mset_at, mset_ne _ _ _ (by decide), mset_ne _ _ _ (by decide), mset_ne _ _ _ (by decide), mset_ne _ _ _ (by decide)]
  · rw [mset_ne _ _ _ (by decide), mset_ne _ _ _ (by decide), mset_ne _ _ _ (by decide), mset_ne _ _ _ (by decide), mset_at]
  · rw [mset_ne _ _ _ (by decide), mset_ne _ _ _ (by decide), mset_ne _ _ _ (by decide), mset_at, mset_ne _ _ _ (by decide)]
  · rw [mset_ne _ _ _ (by decide), mset_ne _ _ _ (by decide), mset_at, mset_ne _ _ _ (by decide), mset_ne _ _ _ (by decide)]
  · rw [mset_ne _ _ _ (by decide), mset_at, mset_ne _ _ _ (by decide), mset_ne _ _ _ (by decide), mset_ne _ _ _ (by decide)]
  · rw [mset_ne _ _ _ (by omega), mset_ne _ _ _ (by omega), mset_ne _ _ _ (by omega), mset_ne _ _ _ (by omega), mset_ne _ _ _ (by omega)]
theorem take_is {τ : gM} {c i : Nat} {b : Int32} (h0 : τ 0 0 = nI (c + 1)) (hc : c < 121) : (x_takeUp5 τ b (nI i)) 3 = upd (τ 3) c (nI (i + 1)) ∧ (x_takeUp5 τ b (nI i)) 4 = (if τ 1 c = 14 then upd (τ 4) c (j_min 100000 (((10 * (τ 4 c)) + b) - 48)) else τ 4) ∧ ∀ k, k ≠ 3 → k ≠ 4 → (x_takeUp5 τ b (nI i)) k = τ k := by
  have e : nI (c + 1) - 1 = nI c := pk_sub (b := 1) (by omega)
  unfold x_takeUp5
  rw [h0, e, if_neg (win_iff.mpr ⟨by rw [nI_toInt (by omega)]; omega, by rw [nI_toInt (by omega), show (120 : Int32).toInt = 120 from rfl]; omega⟩), nN_nI (by omega), nI_1]
  by_cases q : τ 1 c = 14
  · rw [if_pos q, if_pos q]
    exact ⟨by rw [mset_ne _ _ _ (by decide), mset_at], by rw [mset_at, mset_ne _ _ _ (by decide)], fun k h3 h4 => by rw [mset_ne _ _ _ h4, mset_ne _ _ _ h3]⟩
  · rw [if_neg q, if_neg q]
    exact ⟨by rw [mset_at], by rw [mset_ne _ _ _ (by decide)], fun k h3 h4 => by rw [mset_ne _ _ _ h3]⟩
theorem num_step {m : Nat} {b : Int32} (hm : m ≤ 100000) (h : 48 ≤ b.toInt ∧ b.toInt ≤ 57) : j_min 100000 (((10 * nI m) + b) - 48) = nI (min 100000 (10 * m + (nN b - 48))) := by
  obtain ⟨n, hn, rfl⟩ := nI_of (x := b) (fun q => by have := Int32.lt_iff_toInt_lt.mp q; rw [show (0 : Int32).toInt = 0 from rfl] at this; omega)
  rw [nI_toInt hn] at h
  rw [nN_nI hn, show (10 : Int32) = nI 10 from rfl, pk_mul, nI_add, show (48 : Int32) = nI 48 from rfl, pk_sub (by omega)]
  unfold j_min
  have e : 10 * m + n - 48 = 10 * m + (n - 48) := by omega
  rw [e]
  have hlt : nI (10 * m + (n - 48)) < 100000 ↔ 10 * m + (n - 48) < 100000 := nI_ltI (b := 100000) (by omega) (by decide)
  by_cases c : 10 * m + (n - 48) < 100000
  · rw [if_pos (hlt.mpr c), Nat.min_eq_right (by omega)]
  · rw [if_neg (fun q => c (hlt.mp q)), Nat.min_eq_left (by omega)]
    rfl
theorem nf_le (β : Nat → Int32) (s : Nat) : ∀ n, nf β s n ≤ 100000
  | 0 => Nat.zero_le _
  | n + 1 => Nat.min_le_left _ _
theorem so_dig {b : Int32} (h : x_sortOf5 b = 14) : 48 ≤ b.toInt ∧ b.toInt ≤ 57 := by
  rcases so_cases b with q | q | q | q | q
  · rw [q.2.1] at h; exact absurd h (by decide)
  · rw [q.2.1] at h; exact absurd h (by decide)
  · exact ⟨q.2.2.2.2.2.1, q.2.2.2.2.2.2⟩
  · rw [q.2.2.1] at h; exact absurd h (by decide)
  · rw [q.2.2.1] at h; exact absurd h (by decide)
/-- the byte goes on with the last token -/
theorem INV.more {β : Nat → Int32} {T i c : Nat} {before : Int32} {τ : gM} (I : INV β T i c before τ) (hT : T ≤ 120) (hi : i < T) (hb : x_sortOf5 (β i) = before) (hk : before = 13 ∨ before = 14) : INV β T (i + 1) c before (x_takeUp5 τ (β i) (nI i)) := by
  obtain ⟨i0, i1, i2, i3, i4, i5, i6, i7, i8⟩ := I
  have I : INV β T i c before τ := ⟨i0, i1, i2, i3, i4, i5, i6, i7, i8⟩
  have hne : before ≠ 18 := by rcases hk with q | q <;> rw [q] <;> decide
  have ipos : i ≠ 0 := fun q => by rw [if_pos q] at i4; exact hne i4
  rw [if_neg ipos] at i4
  have hp : prv τ c = i := Nat.le_antisymm i6 (Nat.le_of_not_lt (fun q => hne (i4.trans (i7 (i - 1) (by omega) (by omega)))))
  have cpos : c ≠ 0 := fun q => by rw [q] at hp; exact ipos hp.symm
  obtain ⟨d, rfl⟩ : ∃ d, c = d + 1 := ⟨c - 1, by omega⟩
  obtain ⟨s, e, a1, a2, a3, a4, a5, a6, a7, a8, a9, a10, a11⟩ := i5 d (by omega)
  have he : e = i := by
    unfold prv at hp
    rw [if_neg (by omega), Nat.add_sub_cancel, a2, nN_nI (by omega)] at hp
    exact hp
  subst he
  have hso : τ 1 d = before := (a7 (e - 1) (by omega) (by omega)).symm.trans i4.symm
  obtain ⟨t3, t4, tk⟩ := take_is (b := β e) (i := e) i0 (by omega)
  have t4o : ∀ j, j ≠ d → (x_takeUp5 τ (β e) (nI e)) 4 j = τ 4 j := fun j hj => by
    rw [t4]
    split
    · exact upd_ne _ _ hj
    · rfl
  have pc : ∀ k, k ≤ d → prv (x_takeUp5 τ (β e) (nI e)) k = prv τ k := fun k hk => prv_cong (fun j hj => by rw [t3, upd_ne _ _ (by omega)])
  have pl : prv (x_takeUp5 τ (β e) (nI e)) (d + 1) = e + 1 := by
    unfold prv
    rw [if_neg (by omega), Nat.add_sub_cancel, t3, upd_at, nN_nI (by omega)]
  refine ⟨?_, by omega, ?_, ?_, ?_, fun k hk2 => ?_, ?_, fun j h1 h2 => ?_, fun j hj => ?_⟩
  · rw [tk 0 (by decide) (by decide)]; exact i0
  · rw [tk 5 (by decide) (by decide)]; exact i2
  · rw [tk 6 (by decide) (by decide)]; exact i3
  · rw [if_neg (by omega), Nat.add_sub_cancel]; exact hb.symm
  · rw [pc k (by omega)]
    by_cases ek : k = d
    · subst ek
      refine ⟨s, e + 1, by rw [tk 2 (by decide) (by decide)]; exact a1, by rw [t3, upd_at], a3, by omega, by omega, a6, fun j h1 h2 => ?_, ?_, fun _ q => by omega, ?_, by rw [tk 1 (by decide) (by decide)]; exact a11⟩
      · rw [tk 1 (by decide) (by decide)]
        by_cases q : j = e
        · rw [q, hso]; exact hb
        · exact a7 j h1 (by omega)
      · rw [tk 1 (by decide) (by decide), hso]
        exact fun q => absurd hk q
      · rw [tk 1 (by decide) (by decide)]
        intro q
        rw [t4, if_pos q, upd_at, a10 q, show e + 1 - s = (e - s) + 1 by omega]
        have hd : x_sortOf5 (β e) = 14 := by rw [hb, ← hso]; exact q
        rw [num_step (nf_le _ _ _) (so_dig hd)]
        show _ = nI (min 100000 (10 * nf β s (e - s) + (nN (β (s + (e - s))) - 48)))
        rw [show s + (e - s) = e by omega]
    · have hk3 := i5 k (by omega)
      obtain ⟨s', e', b1, b2, b3, b4, b5, b6⟩ := hk3
      have hlt := TI.lt I (by omega) (k := k) (by omega) b2 b5
      refine (TI.next (i5 k (by omega)) (fun e1 q1 q2 => ?_)).cong (by rw [tk 1 (by decide) (by decide)]) (by rw [tk 2 (by decide) (by decide)]) (by rw [t3, upd_ne _ _ ek]) (t4o k ek)
      have := (nI_eq (by omega) (by omega)).mp (b2.symm.trans q1)
      omega
  · rw [pl]; omega
  · rw [pl] at h1; omega
  · by_cases q : j = d
    · rw [q, t4]
      split
      · rename_i q14
        rw [upd_at, a10 q14, num_step (nf_le _ _ _) (so_dig (by rw [hb, ← hso]; exact q14))]
        exact ⟨_, Nat.min_le_left _ _, rfl⟩
      · exact i8 d (by omega)
    · rw [t4o j q]; exact i8 j hj
/-- a blank -/
theorem INV.blank {β : Nat → Int32} {T i c : Nat} {before : Int32} {τ : gM} (I : INV β T i c before τ) (hb : x_sortOf5 (β i) = 18) : INV β T (i + 1) c 18 τ := by
  obtain ⟨i0, i1, i2, i3, i4, i5, i6, i7, i8⟩ := I
  refine ⟨i0, by omega, i2, i3, ?_, fun k hk => (i5 k hk).next (fun e h1 h2 h3 q => ?_), by omega, fun j h1 h2 => ?_, i8⟩
  · rw [if_neg (by omega), Nat.add_sub_cancel, hb]
  · rw [hb] at q
    rcases h3 with r | r <;> rw [r] at q <;> exact absurd q (by decide)
  · by_cases q : j = i
    · rw [q]; exact hb
    · exact i7 j h1 (by omega)
/-- a new token -/
theorem INV.fresh {β : Nat → Int32} {T i c : Nat} {before so : Int32} {τ : gM} (I : INV β T i c before τ) (hT : T ≤ 120) (hi : i < T) (hb : x_sortOf5 (β i) = so) (hn : so ≠ 18) (hk : ¬ (so = before ∧ (so = 13 ∨ so = 14))) : INV β T (i + 1) (c + 1) so (x_takeUp5 (x_begin5 τ so (nI i)) (β i) (nI i)) := by
  obtain ⟨i0, i1, i2, i3, i4, i5, i6, i7, i8⟩ := I
  obtain ⟨g0, g1, g2, g3, g4, gk⟩ := begin_is (so := so) (i := i) i0 (by omega)
  have h0 : (x_begin5 τ so (nI i)) 0 0 = nI (c + 1) := by rw [g0, upd_at]
  obtain ⟨t3, t4, tk⟩ := take_is (b := β i) (i := i) h0 (by omega)
  rw [g3] at t3
  rw [g1, g4, upd_at, upd_at] at t4
  have r1 : (x_takeUp5 (x_begin5 τ so (nI i)) (β i) (nI i)) 1 = upd (τ 1) c so := (tk 1 (by decide) (by decide)).trans g1
  have r2 : (x_takeUp5 (x_begin5 τ so (nI i)) (β i) (nI i)) 2 = upd (τ 2) c (nI i) := (tk 2 (by decide) (by decide)).trans g2
  have r4o : ∀ j, j ≠ c → (x_takeUp5 (x_begin5 τ so (nI i)) (β i) (nI i)) 4 j = τ 4 j := fun j hj => by
    rw [t4]
    split
    · rw [upd_ne _ _ hj, upd_ne _ _ hj]
    · rw [upd_ne _ _ hj]
  have r4c : so = 14 → (x_takeUp5 (x_begin5 τ so (nI i)) (β i) (nI i)) 4 c = nI (nf β i 1) := fun q => by
    rw [t4, if_pos q, upd_at]
    exact num_step (m := 0) (Nat.zero_le _) (so_dig (hb.trans q))
  have pc : ∀ k, k ≤ c → prv (x_takeUp5 (x_begin5 τ so (nI i)) (β i) (nI i)) k = prv τ k := fun k hk => prv_cong (fun j hj => by rw [t3, upd_ne _ _ (by omega), upd_ne _ _ (by omega)])
  have pl : prv (x_takeUp5 (x_begin5 τ so (nI i)) (β i) (nI i)) (c + 1) = i + 1 := by
    unfold prv
    rw [if_neg (by omega), Nat.add_sub_cancel, t3, upd_at, nN_nI (by omega)]
  refine ⟨?_, by omega, ?_, ?_, ?_, fun k hk2 => ?_, ?_, fun j h1 h2 => ?_, fun j hj => ?_⟩
  · rw [tk 0 (by decide) (by decide)]; exact h0
  · rw [tk 5 (by decide) (by decide), gk 5 (by decide)]; exact i2
  · rw [tk 6 (by decide) (by decide), gk 6 (by decide)]; exact i3
  · rw [if_neg (by omega), Nat.add_sub_cancel]; exact hb.symm
  · rw [pc k (by omega)]
    by_cases ek : k = c
    · subst ek
      refine ⟨i, i + 1, by rw [r2, upd_at], by rw [t3, upd_at], i6, by omega, by omega, i7, fun j h1 h2 => ?_, fun _ => rfl, fun _ q => by omega, ?_, by rw [r1, upd_at]; exact hn⟩
      · rw [r1, upd_at, show j = i by omega]; exact hb
      · rw [r1, upd_at, show i + 1 - i = 1 by omega]; exact r4c
    · refine (TI.next (i5 k (by omega)) (fun e1 q1 q2 q3 q4 => ?_)).cong (by rw [r1, upd_ne _ _ ek]) (by rw [r2, upd_ne _ _ ek]) (by rw [t3, upd_ne _ _ ek, upd_ne _ _ ek]) (r4o k ek)
      obtain ⟨s', e', b1, b2, b3, b4, b5, b6, b7, -⟩ := i5 k (by omega)
      have e1' : e' = i := by
        have := (nI_eq (by omega) (by omega)).mp (b2.symm.trans q1)
        omega
      have hb2 : before = τ 1 k := by
        rw [i4, if_neg (by omega)]
        exact b7 (i - 1) (by omega) (by omega)
      refine hk ⟨?_, ?_⟩
      · rw [← hb, q4, hb2]
      · rw [← hb, q4]; exact q3
  · rw [pl]; omega
  · rw [pl] at h1; omega
  · by_cases q : j = c
    · by_cases q14 : so = 14
      · rw [q, r4c q14]; exact ⟨_, nf_le _ _ _, rfl⟩
      · rw [q, t4, if_neg q14, upd_at]; exact ⟨0, Nat.zero_le _, rfl⟩
    · rw [r4o j q]; exact i8 j hj
