/-! tape and sheets: answers alike -/
theorem by8 (x : Int32) {n : Nat} (hn : n ≤ 24) : (jushr x (nI n)).toInt8 = (jshr x (nI n)).toInt8 := by
  refine Int8.toBitVec_inj.mp (BitVec.eq_of_getLsbD_eq (fun i hi => ?_))
  rw [Int32.toBitVec_toInt8, Int32.toBitVec_toInt8, BitVec.getLsbD_signExtend, BitVec.getLsbD_signExtend, if_pos (by omega), if_pos (by omega)]
  congr 1
  show bt (jushr x (nI n)) i = bt (jshr x (nI n)) i
  unfold jushr jshr
  rw [b_ushr n (by omega), b_sshr n (by omega) x (by omega), if_pos (by omega)]
theorem mp2 {σ ρ : gM} {o : Nat} : (mput σ o 2 ρ) o = ρ 0 ∧ (mput σ o 2 ρ) (o + 1) = ρ 1 ∧ ∀ k, k ≠ o → k ≠ o + 1 → (mput σ o 2 ρ) k = σ k := by
  refine ⟨?_, ?_, fun k h1 h2 => mput_out _ _ (by omega)⟩
  · exact mput_in σ ρ (i := 0) (by decide)
  · exact mput_in σ ρ (i := 1) (by decide)
theorem R_tape {σ μ : gM} {T : Nat} {b b' : Int32} (h : R σ μ) (hT : μ 0 1 = nI T) (hlt : T < 120) (e : b.toInt8.toInt32 = b') : R (mput σ 42 2 (x_append3 (mget σ 42) b)) (mset (mset μ 6 (nN (μ 0 1)) b') 0 1 (μ 0 1 + 1)) ∧ (mset (mset μ 6 (nN (μ 0 1)) b') 0 1 (μ 0 1 + 1)) 0 1 = nI (T + 1) := by
  obtain ⟨T', t1, t2, t3, t4⟩ := h.2.2.1
  have eT : T' = T := by
    have := congrArg nN (t3.symm.trans hT)
    rw [nN_nI (by omega), nN_nI (by omega)] at this
    exact this
  subst eT
  have ha : x_append3 (mget σ 42) b = mset (mset (mget σ 42) 1 T' b') 0 0 (nI (T' + 1)) := by
    unfold x_append3
    rw [show (mget σ 42) 0 0 = σ 42 0 from rfl, t2, if_neg (fun q => by
      have := (nI_leI (a := 120) (b := T') (by decide) (by omega)).mp q
      omega), nN_nI (by omega), nI_1, e]
  have a0 : (x_append3 (mget σ 42) b) 0 = upd (σ 42) 0 (nI (T' + 1)) := by
    rw [ha, mset_at, mset_ne _ _ _ (by decide)]; rfl
  have a1 : (x_append3 (mget σ 42) b) 1 = upd (σ 43) T' b' := by
    rw [ha, mset_ne _ _ _ (by decide), mset_at]; rfl
  obtain ⟨p1, p2, p3⟩ := mp2 (σ := σ) (ρ := x_append3 (mget σ 42) b) (o := 42)
  have p2 : (mput σ 42 2 (x_append3 (mget σ 42) b)) 43 = (x_append3 (mget σ 42) b) 1 := p2
  have n1 : (mset (mset μ 6 (nN (μ 0 1)) b') 0 1 (μ 0 1 + 1)) 0 1 = nI (T' + 1) := by
    rw [mset_at, upd_at, t3, nI_1]
  have m0 : ∀ j, j ≠ 1 → (mset (mset μ 6 (nN (μ 0 1)) b') 0 1 (μ 0 1 + 1)) 0 j = μ 0 j := fun j hj => by
    rw [mset_at, upd_ne _ _ hj, mset_ne _ _ _ (by decide)]
  have m6 : (mset (mset μ 6 (nN (μ 0 1)) b') 0 1 (μ 0 1 + 1)) 6 = upd (μ 6) T' b' := by
    rw [mset_ne _ _ _ (by decide), mset_at, t3, nN_nI (by omega)]
  have mk : ∀ k, k ≠ 0 → k ≠ 6 → (mset (mset μ 6 (nN (μ 0 1)) b') 0 1 (μ 0 1 + 1)) k = μ k := fun k h1 h2 => by
    rw [mset_ne _ _ _ h1, mset_ne _ _ _ h2]
  refine ⟨R_parts h (Or.inr ⟨fun k hk => p3 k (by omega) (by omega), fun j _ => by rw [mk 1 (by decide) (by decide)]⟩) (Or.inr ⟨fun k _ hk => p3 k (by omega) (by omega), by rw [p3 44 (by decide) (by decide)], m0 0 (by decide), fun j _ => by rw [mk 4 (by decide) (by decide)]⟩) (Or.inl ⟨T' + 1, by omega, ?_, n1, fun j hj => ?_⟩) ((m0 2 (by decide)).trans h.2.2.2.1) (Or.inr ⟨fun k _ _ => p3 k (by omega) (by omega), mk 7 (by decide) (by decide), mk 8 (by decide) (by decide), mk 9 (by decide) (by decide)⟩) ⟨p3 45 (by decide) (by decide), mk 5 (by decide) (by decide)⟩ (p3 41 (by decide) (by decide)), n1⟩
  · rw [p1, a0, upd_at]
  · rw [p2, a1, m6]
    by_cases ej : j = T'
    · rw [ej, upd_at, upd_at]
    · rw [upd_ne _ _ ej, upd_ne _ _ ej]; exact t4 j (by omega)
theorem feedL {bytes k : Int32} {σ0 μ0 : gM} : ∀ (n : Nat) (kk : Int32) (T : Nat) (σ μ : gM), R σ μ → μ 0 1 = nI T → n ≤ 4 → T + n ≤ 120 → (n = 0 ∨ kk = nI (n - 1)) → (x_feed_L42 σ0 bytes k n kk σ).1 = (m_feed_L39 μ0 bytes k n kk μ).1 ∧ R (x_feed_L42 σ0 bytes k n kk σ).2 (m_feed_L39 μ0 bytes k n kk μ).2
  | 0, kk, T, σ, μ, h, hT, _, _, _ => by
    obtain ⟨T', t1, t2, t3⟩ := rf_T h
    exact ⟨t2.trans t3.symm, h⟩
  | n + 1, kk, T, σ, μ, h, hT, h4, hle, hk => by
    have ek : kk = nI n := by
      rcases hk with hk | hk
      · omega
      · exact hk
    subst ek
    have e8 : (8 : Int32) * nI n = nI (8 * n) := by rw [show (8 : Int32) = nI 8 from rfl, pk_mul]
    have eb : ((jushr bytes (8 * nI n)).toInt8.toInt32).toInt8.toInt32 = (((jshr bytes (8 * nI n)).toInt8.toInt32)).toInt8.toInt32 := by
      rw [e8, by8 bytes (by omega)]
    obtain ⟨r1, r2⟩ := R_tape h hT (by omega) eb
    unfold x_feed_L42 m_feed_L39
    refine feedL n _ (T + 1) _ _ r1 r2 (by omega) (by omega) ?_
    by_cases n0 : n = 0
    · exact Or.inl n0
    · right
      rw [show (-1 : Int32) = -(1 : Int32) from by decide +kernel, ← Int32.sub_eq_add_neg]
      exact pk_sub (b := 1) (by omega)
theorem eq_feed {σ μ : gM} (h : R σ μ) (bytes : Int32) (k : Int32) : (x_feed σ bytes k).1 = (m_feed μ bytes k).1 ∧ R (x_feed σ bytes k).2 (m_feed μ bytes k).2 := by
  obtain ⟨T, t1, t2, t3⟩ := rf_T h
  have b := in_int k 1 4
  rw [show (1 : Int64).toInt = 1 from rfl, show (4 : Int64).toInt = 4 from rfl] at b
  have l1 : k < 1 ↔ k.toInt < 1 := Int32.lt_iff_toInt_lt
  have l2 : k ≤ 4 ↔ k.toInt ≤ 4 := Int32.le_iff_toInt_le
  unfold x_feed m_feed
  by_cases c1 : k < 1
  · rw [if_pos c1, if_pos (Classical.byContradiction (fun q => by have := (b.mp q).1; have := l1.mp c1; omega))]
    exact ef0 h
  · rw [if_neg c1]
    by_cases c2 : k ≤ 4
    · rw [if_pos c2, if_neg (b.mpr ⟨by have : ¬ k.toInt < 1 := fun q => c1 (l1.mpr q); omega, l2.mp c2⟩), t2, t3]
      by_cases c3 : (nI T + k) ≤ 120
      · rw [if_pos c3, if_pos c3]
        obtain ⟨n, hn, rfl⟩ := nI_of (x := k) (fun q => c1 (Int32.lt_iff_toInt_lt.mpr (by have := Int32.lt_iff_toInt_lt.mp q; rw [show (0 : Int32).toInt = 0 from rfl] at this; rw [show (1 : Int32).toInt = 1 from rfl]; omega)))
        have hn4 : n ≤ 4 := by have := l2.mp c2; rw [nI_toInt hn] at this; omega
        have hn1 : 1 ≤ n := by have : ¬ (nI n).toInt < 1 := fun q => c1 (l1.mpr q); rw [nI_toInt hn] at this; omega
        rw [nI_add] at c3
        have hle := (nI_leI (a := T + n) (b := 120) (by omega) (by decide)).mp c3
        rw [nN_nI hn]
        exact feedL n _ T σ μ h t3 hn4 hle (Or.inr (pk_sub (b := 1) hn1))
      · rw [if_neg c3, if_neg c3]
        exact ef1 h
    · rw [if_neg c2, if_pos (Classical.byContradiction (fun q => c2 (l2.mpr (b.mp q).2)))]
      exact ef0 h
theorem R_sheets {σ σ' μ μ' : gM} (h : R σ μ) (hσ : ∀ k, k < 47 → σ' k = σ k) (hμ : ∀ k, k ≠ 7 → k ≠ 8 → k ≠ 9 → k ≠ 10 → μ' k = μ k) (hS : RS σ' μ') : R σ' μ' := by
  have m : ∀ k, k < 7 → μ' k = μ k := fun k hk => hμ k (by omega) (by omega) (by omega) (by omega)
  exact R_parts h (Or.inr ⟨fun k hk => hσ k (by omega), fun j _ => by rw [m 1 (by decide)]⟩) (Or.inr ⟨fun k _ hk => hσ k (by omega), by rw [hσ 44 (by decide)], by rw [m 0 (by decide)], fun j _ => by rw [m 4 (by decide)]⟩) (Or.inr ⟨by rw [hσ 42 (by decide)], hσ 43 (by decide), by rw [m 0 (by decide)], m 6 (by decide)⟩) (by rw [m 0 (by decide)]; exact h.2.2.2.1) (Or.inl hS) ⟨hσ 45 (by decide), m 5 (by decide)⟩ (hσ 41 (by decide))
theorem RS_one {σ σ' μ μ' : gM} {s : Nat} (h : RS σ μ) (hσ : ∀ k, k ≠ 47 + 2 * s → k ≠ 48 + 2 * s → σ' k = σ k) (h7 : ∀ q, q ≠ s → μ' 7 q = μ 7 q) (h8 : ∀ q, q ≠ s → μ' 8 q = μ 8 q) (h9 : ∀ j, (j < 40 * s ∨ 40 * s + 40 ≤ j) → μ' 9 j = μ 9 j) (hs : σ' (47 + 2 * s) 0 = μ' 7 s ∧ σ' (47 + 2 * s) 1 = μ' 8 s ∧ (μ' 7 s = 0 ∨ μ' 7 s = 8 ∨ μ' 7 s = 16 ∨ μ' 7 s = 32) ∧ ∃ Z : Nat, Z ≤ 40 ∧ μ' 8 s = nI Z ∧ ∀ i, i < Z → σ' (48 + 2 * s) i = μ' 9 (40 * s + i)) : RS σ' μ' := by
  intro q hq
  by_cases e : q = s
  · rw [e]; exact hs
  · obtain ⟨a1, a2, a3, Z, a4, a5, a6⟩ := h q hq
    rw [hσ (47 + 2 * q) (by omega) (by omega), hσ (48 + 2 * q) (by omega) (by omega), h7 q e, h8 q e]
    exact ⟨a1, a2, a3, Z, a4, a5, fun i hi => by rw [h9 _ (by omega)]; exact a6 i hi⟩
theorem lack_rel {σ μ : gM} (h : R σ μ) (sn : Int32) : (x_lackOf σ sn = -1000001 ∧ m_whyNone μ sn = 0) ∨ (x_lackOf σ sn = -1000006 ∧ m_whyNone μ sn = 5) ∨ (x_lackOf σ sn = 0 ∧ m_whyNone μ sn = -1 ∧ ∃ s, s < 4 ∧ sn = nI s ∧ ¬ μ 7 s = 0) := by
  unfold x_lackOf m_whyNone
  by_cases c1 : x_isSheet sn = 0
  · rw [if_pos c1, if_pos (show m_isSheet sn = 0 from (win (M := 3) rfl).mp c1)]
    exact Or.inl ⟨rfl, rfl⟩
  · rw [if_neg c1, if_neg (show ¬ m_isSheet sn = 0 from win_n (M := 3) rfl c1)]
    obtain ⟨s, hs, rfl⟩ := wn (M := 3) (by decide) c1
    rw [nN_nI (by omega)]
    have e := (h.2.2.2.2.1 s (by omega)).1
    unfold x_isMissing2
    rw [show (mget σ (47 + 2 * s)) 0 0 = σ (47 + 2 * s) 0 from rfl, e]
    by_cases c2 : μ 7 s = 0
    · rw [if_pos c2, if_pos c2, if_neg (by decide)]
      exact Or.inr (Or.inl ⟨rfl, rfl⟩)
    · rw [if_neg c2, if_neg c2, if_pos rfl]
      exact Or.inr (Or.inr ⟨rfl, rfl, s, by omega, rfl, c2⟩)
theorem R_num {σ μ : gM} {s i Z : Nat} {v : Int32} (h : R σ μ) (hs : s < 4) (hZ : μ 8 s = nI Z) (hi : i < Z) (hl : Z ≤ 40) : R (mput σ (47 + 2 * s) 2 (mset (mget σ (47 + 2 * s)) 1 i v)) (mset μ 9 (40 * s + i) v) := by
  obtain ⟨p1, p2, p3⟩ := mp2 (σ := σ) (ρ := mset (mget σ (47 + 2 * s)) 1 i v) (o := 47 + 2 * s)
  rw [mset_ne _ _ _ (by decide)] at p1
  rw [mset_at] at p2
  obtain ⟨a1, a2, a3, Z', a4, a5, a6⟩ := h.2.2.2.2.1 s hs
  have eZ : Z' = Z := by
    have := congrArg nN (a5.symm.trans hZ)
    rw [nN_nI (by omega), nN_nI (by omega)] at this
    exact this
  subst eZ
  have p1 : (mput σ (47 + 2 * s) 2 (mset (mget σ (47 + 2 * s)) 1 i v)) (47 + 2 * s) = σ (47 + 2 * s) := p1
  have p2 : (mput σ (47 + 2 * s) 2 (mset (mget σ (47 + 2 * s)) 1 i v)) (48 + 2 * s) = upd (σ (48 + 2 * s)) i v := by
    rw [show 48 + 2 * s = 47 + 2 * s + 1 by omega]
    exact p2
  refine R_sheets h (fun k hk => p3 k (by omega) (by omega)) (fun k _ _ k9 _ => mset_ne _ _ _ k9) (RS_one (s := s) h.2.2.2.2.1 (fun k h1 h2 => p3 k h1 (by omega)) (fun q _ => by rw [mset_ne _ _ _ (by decide)]) (fun q _ => by rw [mset_ne _ _ _ (by decide)]) (fun j hj => by rw [mset_at, upd_ne _ _ (by omega)]) ?_)
  rw [p1, p2, mset_ne _ _ _ (by decide), mset_ne _ _ _ (by decide), mset_at]
  refine ⟨a1, a2, a3, Z', a4, a5, fun j hj => ?_⟩
  by_cases e : j = i
  · rw [e, upd_at, upd_at]
  · rw [upd_ne _ _ e, upd_ne _ _ (by omega)]; exact a6 j hj
theorem Z_1 {Z : Nat} (h : Z ≤ 40) : (nI Z - 1).toInt = (Z : Int) - 1 := by
  have := pk_sub_toInt (a := Z) (b := 1) (by omega) (by decide)
  exact this
theorem eq_write {σ μ : gM} (h : R σ μ) (sn : Int32) (ix : Int32) (v : Int32) : (x_write σ sn ix v).1 = (m_write μ sn ix v).1 ∧ R (x_write σ sn ix v).2 (m_write μ sn ix v).2 := by
  unfold x_write m_write
  rcases lack_rel h sn with ⟨e1, e2⟩ | ⟨e1, e2⟩ | ⟨e1, e2, s, hs, rfl, hne⟩
  · rw [e1, e2, if_neg (by decide), if_pos (by decide)]
    exact ef0 h
  · rw [e1, e2, if_neg (by decide), if_pos (by decide)]
    exact ef5 h
  · rw [e1, e2, if_pos rfl, if_neg (show ¬ (0 : Int32) ≤ -1 by decide), nN_nI (by omega)]
    obtain ⟨a1, a2, a3, Z, a4, a5, a6⟩ := h.2.2.2.2.1 s hs
    rw [a2, a5]
    by_cases c1 : x_isWithin ix (nI Z - 1) = 0
    · rw [if_pos c1, if_pos ((win (Int32.toInt_toInt64 _)).mp c1)]
      exact ef0 h
    · rw [if_neg c1, if_neg (win_n (Int32.toInt_toInt64 _) c1)]
      have hw := win_iff.mp c1
      rw [Z_1 a4] at hw
      obtain ⟨i, hi, rfl⟩ := nI_of (x := ix) (fun q => by have := Int32.lt_iff_toInt_lt.mp q; rw [show (0 : Int32).toInt = 0 from rfl] at this; omega)
      rw [nI_toInt hi] at hw
      rw [nN_nI hi]
      unfold x_setNumber2
      rw [show (mget σ (47 + 2 * s)) 0 0 = σ (47 + 2 * s) 0 from rfl, a1]
      by_cases d1 : μ 7 s = 8
      · rw [if_pos d1, if_pos d1]
        exact ⟨rfl, R_num h hs a5 (by omega) a4⟩
      · rw [if_neg d1, if_neg d1]
        by_cases d2 : μ 7 s = 16
        · rw [if_pos d2, if_pos d2]
          exact ⟨rfl, R_num h hs a5 (by omega) a4⟩
        · rw [if_neg d2, if_neg d2]
          exact ⟨rfl, R_num h hs a5 (by omega) a4⟩
theorem loadL {sn : Int32} {s : Nat} (hs : s < 4) (hsn : nN sn = s) {σ0 μ0 : gM} : ∀ (n i : Nat) (σ μ : gM), i + n = 6 → R σ μ → (x_load_L18 σ0 sn n i σ).1 = (m_load_L18 μ0 sn n i μ).1 ∧ R (x_load_L18 σ0 sn n i σ).2 (m_load_L18 μ0 sn n i μ).2
  | 0, i, σ, μ, _, h => by
    unfold x_load_L18 m_load_L18
    split <;> exact ⟨rfl, h⟩
  | n + 1, i, σ, μ, e, h => by
    obtain ⟨a1, a2, a3, Z, a4, a5, a6⟩ := h.2.2.2.2.1 s hs
    unfold x_load_L18 m_load_L18
    rw [hsn, a2, a5]
    by_cases c1 : nI Z ≤ nI i
    · rw [if_pos c1, if_pos c1]; exact ⟨rfl, h⟩
    · rw [if_neg c1, if_neg c1]
      have hi : i < Z := by
        have : ¬ Z ≤ i := fun q => c1 ((nI_leI (by omega) (by omega)).mpr q)
        omega
      rw [a6 i hi]
      obtain ⟨q1, q2⟩ := isSay_iff (μ 9 (40 * s + i))
      by_cases c2 : x_isSaying (μ 9 (40 * s + i)) = 0
      · rw [if_pos c2, if_pos (q1.mp c2)]; exact ⟨rfl, h⟩
      · rw [if_neg c2, if_neg (fun q => c2 (q1.mpr q))]
        obtain ⟨N, H⟩ := h.1
        rw [mg0] at H
        refine loadL hs hsn n (i + 1) _ _ (by omega) ?_
        exact R_club h ⟨N, RC_say H (by omega) (q2 c2)⟩ (fun k hk => mset_ne _ _ _ (by omega)) (fun k h1 _ _ _ => mset_ne _ _ _ h1)
theorem eq_load {σ μ : gM} (h : R σ μ) (sn : Int32) : (x_load σ sn).1 = (m_load μ sn).1 ∧ R (x_load σ sn).2 (m_load μ sn).2 := by
  unfold x_load m_load
  rcases lack_rel h sn with ⟨e1, e2⟩ | ⟨e1, e2⟩ | ⟨e1, e2, s, hs, rfl, hne⟩
  · rw [e1, e2, if_neg (by decide), if_neg (by decide)]
    exact ef0 h
  · rw [e1, e2, if_neg (by decide), if_neg (by decide)]
    exact ef5 h
  · rw [e1, e2, if_pos rfl, if_pos (by decide)]
    exact loadL hs (nN_nI (by omega)) 6 0 _ _ rfl h
theorem judgeL {σ μ : gM} {sn : Int32} {s N Z : Nat} (hs : s < 4) (hsn : nN sn = s) (h : R σ μ) (H : RC σ (μ 1) N) (hZ : μ 8 s = nI Z) (hl : Z ≤ 40) : ∀ (n i : Nat), i + n = Z → (x_judge_L18 σ sn n i).1 = (m_judge_L18 μ sn n i).1 ∧ R (x_judge_L18 σ sn n i).2 (m_judge_L18 μ sn n i).2
  | 0, i, _ => ⟨rfl, h⟩
  | n + 1, i, e => by
    obtain ⟨a1, a2, a3, Z', a4, a5, a6⟩ := h.2.2.2.2.1 s hs
    have eZ : Z' = Z := by
      have e1 := congrArg nN (a5.symm.trans hZ)
      rw [nN_nI (by omega), nN_nI (by omega)] at e1
      exact e1
    subst eZ
    unfold x_judge_L18 m_judge_L18
    rw [mg0, hsn, a6 i (by omega)]
    have hi := has_iff H (nI i)
    by_cases c1 : x_has0 σ (nI i) = 0
    · rw [if_pos c1, if_pos (hi.mp c1)]; exact ⟨rfl, h⟩
    · rw [if_neg c1, if_neg (fun q => c1 (hi.mpr q))]
      obtain ⟨g, hg, eg⟩ := hasG H c1
      have h8 := H.n8
      have : i = g := (nI_eq (by omega) (by omega)).mp eg
      subst this
      rw [H.its hg (w := 5) (by decide)]
      by_cases c2 : m_its μ i 5 = μ 9 (40 * s + i)
      · rw [if_pos c2, if_pos c2.symm]
        exact judgeL hs hsn h H hZ hl n (i + 1) (by omega)
      · rw [if_neg c2, if_neg (fun q => c2 q.symm)]
        exact ⟨rfl, h⟩
theorem eq_judge {σ μ : gM} (h : R σ μ) (sn : Int32) : (x_judge σ sn).1 = (m_judge μ sn).1 ∧ R (x_judge σ sn).2 (m_judge μ sn).2 := by
  obtain ⟨N, H⟩ := h.1
  rw [mg0] at H
  unfold x_judge m_judge
  rcases lack_rel h sn with ⟨e1, e2⟩ | ⟨e1, e2⟩ | ⟨e1, e2, s, hs, rfl, hne⟩
  · rw [e1, e2, if_neg (by decide), if_neg (by decide)]
    exact ef0 h
  · rw [e1, e2, if_neg (by decide), if_neg (by decide)]
    exact ef5 h
  · obtain ⟨a1, a2, a3, Z, a4, a5, a6⟩ := h.2.2.2.2.1 s hs
    rw [e1, e2, if_pos rfl, if_pos (by decide), nN_nI (by omega), a2, a5, nN_nI (by omega)]
    exact judgeL hs (nN_nI (by omega)) h H a5 a4 Z 0 (by omega)
theorem zeroL {σ0 μ0 : gM} {sn bits size : Int32} {s : Nat} (hsn : nN sn = s) : ∀ (n i : Nat) (τ : gM), (m_sheet_L83 μ0 sn bits size n i τ).1 = τ 8 s ∧ (∀ k, k ≠ 9 → (m_sheet_L83 μ0 sn bits size n i τ).2 k = τ k) ∧ (∀ j, i ≤ j → j < i + n → (m_sheet_L83 μ0 sn bits size n i τ).2 9 (40 * s + j) = 0) ∧ (∀ j, (j < 40 * s + i ∨ 40 * s + i + n ≤ j) → (m_sheet_L83 μ0 sn bits size n i τ).2 9 j = τ 9 j)
  | 0, i, τ => by
    unfold m_sheet_L83
    rw [hsn]
    exact ⟨rfl, fun _ _ => rfl, fun j _ _ => by omega, fun _ _ => rfl⟩
  | n + 1, i, τ => by
    unfold m_sheet_L83
    rw [hsn]
    obtain ⟨b1, b2, b3, b4⟩ := zeroL (σ0 := σ0) hsn n (i + 1) (mset τ 9 (40 * s + i) 0)
    refine ⟨b1.trans (by rw [mset_ne _ _ _ (by decide)]), fun k hk => (b2 k hk).trans (mset_ne _ _ _ hk), fun j h1 h2 => ?_, fun j hj => ?_⟩
    · by_cases e : j = i
      · subst e
        rw [b4 _ (by omega), mset_at, upd_at]
      · exact b3 j (by omega) (by omega)
    · rw [b4 j (by omega), mset_at, upd_ne _ _ (by omega)]
theorem layL {ρ0 : gM} {bits : Int32} {K : Nat} : ∀ (n i : Nat) (τ : gM), (x_layOut2_L12 ρ0 bits K n i τ) 0 = τ 0 ∧ (∀ j, i ≤ j → j < i + n → (x_layOut2_L12 ρ0 bits K n i τ) 1 j = 0) ∧ (∀ j, (j < i) → (x_layOut2_L12 ρ0 bits K n i τ) 1 j = τ 1 j)
  | 0, i, τ => ⟨rfl, fun j _ _ => by omega, fun _ _ => rfl⟩
  | n + 1, i, τ => by
    unfold x_layOut2_L12
    obtain ⟨b1, b2, b3⟩ := layL (ρ0 := ρ0) (bits := bits) (K := K) n (i + 1) (mset τ 1 i 0)
    refine ⟨b1.trans (mset_ne _ _ _ (by decide)), fun j h1 h2 => ?_, fun j hj => ?_⟩
    · by_cases e : j = i
      · subst e
        rw [b3 _ (by omega), mset_at, upd_at]
      · exact b2 j (by omega) (by omega)
    · rw [b3 j (by omega), mset_at, upd_ne _ _ (by omega)]
theorem lay_rel {σ μ : gM} {s K : Nat} {bits size : Int32} (h : R σ μ) (hs : s < 4) (hK : K ≤ 40) (hb : bits = 0 ∨ bits = 8 ∨ bits = 16 ∨ bits = 32) : (mput σ (47 + 2 * s) 2 (x_layOut2 (mget σ (47 + 2 * s)) bits K)) (47 + 2 * s) 1 = (m_sheet_L83 μ (nI s) bits size 40 0 ((mset (mset μ 7 s bits) 8 s (nI K)))).1 ∧ R (mput σ (47 + 2 * s) 2 (x_layOut2 (mget σ (47 + 2 * s)) bits K)) (m_sheet_L83 μ (nI s) bits size 40 0 ((mset (mset μ 7 s bits) 8 s (nI K)))).2 := by
  obtain ⟨b1, b2, b3, b4⟩ := zeroL (σ0 := σ) (μ0 := μ) (sn := nI s) (bits := bits) (size := size) (s := s) (nN_nI (by omega)) 40 0 (mset (mset μ 7 s bits) 8 s (nI K))
  obtain ⟨c1, c2, c3⟩ := layL (ρ0 := mget σ (47 + 2 * s)) (bits := bits) (K := K) K 0 (mset (mset (mget σ (47 + 2 * s)) 0 0 bits) 0 1 (nI K))
  obtain ⟨p1, p2, p3⟩ := mp2 (σ := σ) (ρ := x_layOut2 (mget σ (47 + 2 * s)) bits K) (o := 47 + 2 * s)
  have p1 : (mput σ (47 + 2 * s) 2 (x_layOut2 (mget σ (47 + 2 * s)) bits K)) (47 + 2 * s) = upd (upd (σ (47 + 2 * s)) 0 bits) 1 (nI K) := by
    rw [p1]
    refine c1.trans ?_
    rw [mset_at, mset_at]
    rfl
  have p2 : (mput σ (47 + 2 * s) 2 (x_layOut2 (mget σ (47 + 2 * s)) bits K)) (48 + 2 * s) = (x_layOut2 (mget σ (47 + 2 * s)) bits K) 1 := by
    rw [show 48 + 2 * s = 47 + 2 * s + 1 by omega]
    exact p2
  have m7 : (m_sheet_L83 μ (nI s) bits size 40 0 ((mset (mset μ 7 s bits) 8 s (nI K)))).2 7 = upd (μ 7) s bits := by
    rw [b2 7 (by decide), mset_ne _ _ _ (by decide), mset_at]
  have m8 : (m_sheet_L83 μ (nI s) bits size 40 0 ((mset (mset μ 7 s bits) 8 s (nI K)))).2 8 = upd (μ 8) s (nI K) := by
    rw [b2 8 (by decide), mset_at, mset_ne _ _ _ (by decide)]
  refine ⟨?_, R_sheets h (fun k hk => p3 k (by omega) (by omega)) (fun k k7 k8 k9 _ => by rw [b2 k k9, mset_ne _ _ _ k8, mset_ne _ _ _ k7]) (RS_one (s := s) h.2.2.2.2.1 (fun k h1 h2 => p3 k h1 (by omega)) (fun q hq => by rw [m7, upd_ne _ _ hq]) (fun q hq => by rw [m8, upd_ne _ _ hq]) (fun j hj => ?_) ?_)⟩
  · rw [p1, upd_at, b1, mset_at, upd_at]
  · rw [b4 j (by omega), mset_ne _ _ _ (by decide), mset_ne _ _ _ (by decide)]
  · rw [p1, p2, m7, m8, upd_at, upd_at, upd_at, upd_ne _ _ (by decide), upd_at]
    refine ⟨rfl, rfl, hb, K, hK, rfl, fun i hi => ?_⟩
    rw [b3 i (by omega) (by omega)]
    exact c2 i (by omega) (by omega)
theorem eq_sheet {σ μ : gM} (h : R σ μ) (sn : Int32) (bits : Int32) (size : Int32) : (x_sheet σ sn bits size).1 = (m_sheet μ sn bits size).1 ∧ R (x_sheet σ sn bits size).2 (m_sheet μ sn bits size).2 := by
  unfold x_sheet m_sheet
  by_cases c1 : x_isSheet sn = 0
  · rw [if_pos c1, if_pos (show m_isSheet sn = 0 from (win (M := 3) rfl).mp c1)]
    exact ef0 h
  · rw [if_neg c1, if_neg (show ¬ m_isSheet sn = 0 from win_n (M := 3) rfl c1)]
    obtain ⟨s, hs, rfl⟩ := wn (M := 3) (by decide) c1
    rw [nN_nI (by omega)]
    by_cases z0 : 0 ≤ size
    · by_cases z4 : size ≤ 40
      · obtain ⟨K, hK, rfl⟩ := nI_of (x := size) (fun q => by have := Int32.lt_iff_toInt_lt.mp q; have := Int32.le_iff_toInt_le.mp z0; omega)
        have hK40 := (nI_leI (a := K) (b := 40) hK (by decide)).mp z4
        rw [nN_nI hK]
        simp only [if_pos z0, if_pos z4]
        by_cases d0 : bits = 0
        · rw [if_pos d0, if_pos d0, if_pos d0]
          exact lay_rel h (by omega) (by decide) (Or.inl d0)
        · rw [if_neg d0, if_neg d0]
          simp only [if_neg d0]
          by_cases d1 : bits = 8
          · rw [if_pos d1, if_pos d1]
            exact lay_rel h (by omega) hK40 (Or.inr (Or.inl d1))
          · rw [if_neg d1, if_neg d1]
            by_cases d2 : bits = 16
            · rw [if_pos d2, if_pos d2]
              exact lay_rel h (by omega) hK40 (Or.inr (Or.inr (Or.inl d2)))
            · rw [if_neg d2, if_neg d2]
              by_cases d3 : bits = 32
              · rw [if_pos d3, if_pos d3]
                exact lay_rel h (by omega) hK40 (Or.inr (Or.inr (Or.inr d3)))
              · rw [if_neg d3, if_neg d3]
                exact ef0 h
      · simp only [if_pos z0, if_neg z4]
        repeat' split
        all_goals exact ef0 h
    · simp only [if_neg z0]
      by_cases d0 : bits = 0
      · rw [if_pos d0, if_pos d0]; exact ef6 h
      · rw [if_neg d0, if_neg d0]
        by_cases d1 : bits = 8
        · rw [if_pos d1, if_pos d1]; exact ef6 h
        · rw [if_neg d1, if_neg d1]
          by_cases d2 : bits = 16
          · rw [if_pos d2, if_pos d2]; exact ef6 h
          · rw [if_neg d2, if_neg d2]
            by_cases d3 : bits = 32
            · rw [if_pos d3, if_pos d3]; exact ef6 h
            · rw [if_neg d3, if_neg d3]; exact ef0 h
