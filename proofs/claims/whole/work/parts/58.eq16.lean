/-! the two readers in step -/
def FRm (μ0 υ : gM) : Prop := (∀ r, r ≠ 0 → r ≠ 1 → υ r = μ0 r) ∧ ∀ j, j ≤ 2 → υ 0 j = μ0 0 j
def TKr (tk ρ : gM) : Prop := ∀ r, r < 5 → ρ (13 + r) = tk r
def CX (b : Nat → Int32) (T L : Nat) (tk μ0 : gM) : Prop := T ≤ 120 ∧ TS b T tk L ∧ m_byteAt μ0 = b ∧ μ0 0 1 = nI T
def PO (b : Nat → Int32) (T L : Nat) (tk μ0 ρ υ : gM) (k N : Nat) : Prop := TKr tk ρ ∧ FRm μ0 υ ∧ k < L ∧ ρ 12 0 = nI k ∧ ρ 12 1 = 0 ∧ υ 0 6 = -1 ∧ (υ 0 4 = (tkn b T (prv tk k)).1 ∧ υ 0 5 = nI (tkn b T (prv tk k)).2.1 ∧ υ 0 3 = nI (tkn b T (prv tk k)).2.2.1 ∧ jl (υ 0 7) (υ 0 8) = (tkn b T (prv tk k)).2.2.2) ∧ RC ρ (υ 1) N
def PW (T L : Nat) (tk μ0 ρ υ : gM) : Prop := TKr tk ρ ∧ FRm μ0 υ ∧ ρ 12 1 = 1 ∧ ∃ k s : Nat, k < L ∧ ρ 12 0 = nI k ∧ tk 2 k = nI s ∧ υ 0 6 = nI s ∧ s ≤ T
theorem at_is {b : Nat → Int32} {T L k : Nat} {tk μ0 ρ : gM} (C : CX b T L tk μ0) (t : TKr tk ρ) (hk : k < L) : x_sortAt5 (mget ρ 13) (nI k) = tk 1 k ∧ x_numberAt5 (mget ρ 13) (nI k) = tk 4 k ∧ x_startAt5 (mget ρ 13) (nI k) = tk 2 k := by
  obtain ⟨hT, ⟨t0, t1, t2, -⟩, -⟩ := C
  have z : (mget ρ 13) 0 0 = nI L := (congrFun (t 0 (by decide)) 0).trans t0
  have n1 : ¬ nI k < 0 := nI_pos (by omega)
  have n2 : ¬ nI L ≤ nI k := fun q => by have := (nI_leI (by omega) (by omega)).mp q; omega
  unfold x_sortAt5 x_numberAt5 x_startAt5
  rw [z, if_neg n1, if_neg n1, if_neg n1, if_neg n2, if_neg n2, if_neg n2, nN_nI (by omega)]
  exact ⟨congrFun (t 1 (by decide)) k, congrFun (t 4 (by decide)) k, congrFun (t 2 (by decide)) k⟩
theorem TKr.up {tk ρ ρ' : gM} (t : TKr tk ρ) (h : ∀ r, 13 ≤ r → ρ' r = ρ r) : TKr tk ρ' := fun r hr => (h _ (by omega)).trans (t r hr)
theorem RC.up {ρ ρ' : gM} {d : Nat → Int32} {N : Nat} (H : RC ρ d N) (h : ∀ r, r < 12 → ρ' r = ρ r) : RC ρ' d N := RC_cong (fun r hr => (h r hr).symm) (fun _ _ => rfl) H
/-- a token taken by both -/
theorem PO.adv {b : Nat → Int32} {T L k N : Nat} {tk μ0 ρ υ : gM} (C : CX b T L tk μ0) (p : PO b T L tk μ0 ρ υ k N) (h16 : tk 1 k ≠ 16) (h17 : tk 1 k ≠ 17) : PO b T L tk μ0 (mset ρ 12 0 (ρ 12 0 + 1)) (m_next υ) (k + 1) N := by
  obtain ⟨p1, p2, p3, p4, p5, p6, ⟨p7, p8, p9, p10⟩, p11⟩ := p
  obtain ⟨hT, ⟨t0, t1, t2, t3, t4⟩, c1, c2⟩ := C
  obtain ⟨s, e, s1, s2, s3, s4, s5, s6⟩ := t4 k p3
  have hk1 : k + 1 < L := by
    have : ¬ k + 1 = L := fun q => h17 (s5.mp q)
    omega
  have pe := s6 h17
  obtain ⟨-, -, -, -, s3', -⟩ := t4 (k + 1) hk1
  have qe : (tkn b T (prv tk k)).2.2.1 = e := by
    rcases s4 with q | q | q | q | q
    · exact absurd q.1 h17
    · rw [q.2]
    · exact absurd q.1 h16
    · exact q.2.2.2.1
    · exact q.2.2.1
  have hb : m_byteAt υ = b := (mb_cong (p2.2 1 (by decide)) (p2.1 6 (by decide) (by decide))).trans c1
  have nt := next_is hT ((p2.2 1 (by decide)).trans c2) (p9.trans (by rw [qe])) (by omega)
  rw [hb, ← pe] at nt
  obtain ⟨n1, n2, n3, n4, n5, n6⟩ := nt
  refine ⟨p1.up (fun r hr => mset_ne _ _ _ (by omega)), ⟨fun r h0 h1 => (n1 r h0).trans (p2.1 r h0 h1), fun j hj => (n2 j (by omega) (by omega) (by omega) (by omega) (by omega)).trans (p2.2 j hj)⟩, hk1, ?_, ?_, ?_, ⟨n3, n4, n5, n6⟩, ?_⟩
  · rw [mset_at, upd_at, p4, nI_1]
  · rw [mset_at, upd_ne _ _ (by decide)]; exact p5
  · exact (n2 6 (by decide) (by decide) (by decide) (by decide) (by decide)).trans p6
  · rw [n1 1 (by decide)]
    exact p11.up (fun r hr => mset_ne _ _ _ (by omega))
theorem PO.wrong {b : Nat → Int32} {T L k N : Nat} {tk μ0 ρ υ : gM} (C : CX b T L tk μ0) (p : PO b T L tk μ0 ρ υ k N) : PW T L tk μ0 (mset ρ 12 1 1) (m_wrongHere υ) := by
  obtain ⟨p1, p2, p3, p4, p5, p6, ⟨p7, p8, p9, p10⟩, p11⟩ := p
  obtain ⟨hT, ⟨t0, t1, t2, t3, t4⟩, c1, c2⟩ := C
  obtain ⟨s, e, s1, s2, s3, s4, s5, s6⟩ := t4 k p3
  have qs : (tkn b T (prv tk k)).2.1 = s := by
    rcases s4 with q | q | q | q | q
    · rw [q.2]
    · rw [q.2]
    · exact q.2.2
    · exact q.2.2.1
    · exact q.2.1
  refine ⟨p1.up (fun r hr => mset_ne _ _ _ (by omega)), ⟨fun r h0 h1 => (wh_row h0).trans (p2.1 r h0 h1), fun j hj => (wh_0 (by omega)).trans (p2.2 j hj)⟩, by rw [mset_at, upd_at], k, s, p3, by rw [mset_at, upd_ne _ _ (by decide)]; exact p4, s1, ?_, s2⟩
  unfold m_wrongHere
  rw [p6, if_neg (by decide), mset_at, upd_at, p8, qs]
theorem PW.again {T L : Nat} {tk μ0 ρ υ : gM} (p : PW T L tk μ0 ρ υ) : PW T L tk μ0 (mset ρ 12 1 1) υ := by
  obtain ⟨p1, p2, p3, k, s, p4, p5, p6, p7, p8⟩ := p
  exact ⟨p1.up (fun r hr => mset_ne _ _ _ (by omega)), p2, by rw [mset_at, upd_at], k, s, p4, by rw [mset_at, upd_ne _ _ (by decide)]; exact p5, p6, p7, p8⟩
theorem PW.rows {T L : Nat} {tk μ0 ρ ρ' υ : gM} (p : PW T L tk μ0 ρ υ) (h : ∀ r, 12 ≤ r → ρ' r = ρ r) : PW T L tk μ0 ρ' υ := by
  obtain ⟨p1, p2, p3, k, s, p4, p5, p6, p7, p8⟩ := p
  exact ⟨p1.up (fun r hr => h r (by omega)), p2, by rw [h 12 (by decide)]; exact p3, k, s, p4, by rw [h 12 (by decide)]; exact p5, p6, p7, p8⟩
theorem PW.pos {T L : Nat} {tk μ0 ρ υ : gM} (p : PW T L tk μ0 ρ υ) (hT : T ≤ 120) : 0 ≤ υ 0 6 := by
  obtain ⟨p1, p2, p3, k, s, p4, p5, p6, p7, p8⟩ := p
  rw [p7]
  exact nI_ge0 (by omega)
theorem PW.flag {T L : Nat} {tk μ0 ρ υ : gM} (p : PW T L tk μ0 ρ υ) : ¬ ρ 12 1 = 0 := by
  rw [p.2.2.1]; decide
/-- takes, in step: 1 and a step, or 0 and nothing -/
theorem PO.takes {b : Nat → Int32} {T L k N : Nat} {tk μ0 ρ υ : gM} (C : CX b T L tk μ0) (p : PO b T L tk μ0 ρ υ k N) (so : Int32) : x_takes4 ρ so = if tk 1 k = so then (1, mset ρ 12 0 (ρ 12 0 + 1)) else (0, ρ) := by
  unfold x_takes4
  rw [p.2.2.2.2.1, if_pos rfl]
  rw [show x_sortAt5 (mget ρ 13) (ρ 12 0) = tk 1 k by rw [p.2.2.2.1]; exact (at_is C p.1 p.2.2.1).1]
theorem PW.takes {T L : Nat} {tk μ0 ρ υ : gM} (p : PW T L tk μ0 ρ υ) (so : Int32) : x_takes4 ρ so = (0, ρ) := by
  unfold x_takes4
  rw [if_neg p.flag]
theorem w_lt : ∀ w, w < 13 → ¬ nI w = 16 ∧ ¬ nI w = 17 ∧ ¬ nI w = 14 ∧ ¬ nI w = 15 ∧ ¬ nI w = 13 := by decide +kernel
theorem PO.word {b : Nat → Int32} {T L k N w : Nat} {tk μ0 ρ υ : gM} (C : CX b T L tk μ0) (p : PO b T L tk μ0 ρ υ k N) (hw : w < 13) {W : Int64} (hW : W.toInt = tx_W.getD w 0) : (m_isWord υ W = 0) ↔ ¬ tk 1 k = nI w := by
  obtain ⟨p1, p2, p3, p4, p5, p6, ⟨p7, p8, p9, p10⟩, p11⟩ := p
  obtain ⟨hT, ⟨t0, t1, t2, t3, t4⟩, c1, c2⟩ := C
  obtain ⟨s, e, s1, s2, s3, s4, s5, s6⟩ := t4 k p3
  unfold m_isWord
  rw [p7, p10]
  have hc : ∀ v : Int64, lg_cmp v W = 0 ↔ v.toInt = tx_W.getD w 0 := fun v => by
    rw [lg_cmp_eq, ← hW]
    exact Int64.toInt_inj.symm
  obtain ⟨w16, w17, w14, w15, w13⟩ := w_lt w hw
  rcases s4 with q | q | q | q | q
  · rw [q.2, q.1]
    exact ⟨fun _ => fun r => w17 r.symm, fun _ => rfl⟩
  · rw [q.2, q.1]
    exact ⟨fun _ => fun r => w15 r.symm, fun _ => rfl⟩
  · rw [q.2.1, q.1]
    exact ⟨fun _ => fun r => w16 r.symm, fun _ => rfl⟩
  · rw [q.2.1, q.1]
    exact ⟨fun _ => fun r => w14 r.symm, fun _ => rfl⟩
  · rw [q.1, if_pos rfl]
    rcases q.2.2.2 with ⟨r1, r2⟩ | ⟨w', r1, r2, r3⟩
    · rw [if_neg (fun r => r2 w hw ((hc _).mp r)), r1]
      exact ⟨fun _ => fun r => w13 r.symm, fun _ => rfl⟩
    · by_cases ew : w' = w
      · subst ew
        rw [if_pos ((hc _).mpr r3), r2]
        exact ⟨fun r => absurd r (by decide), fun r => absurd rfl r⟩
      · have hne : tx_W.getD w' 0 ≠ tx_W.getD w 0 := (by decide +kernel : ∀ a, a < 13 → ∀ c, c < 13 → a ≠ c → tx_W.getD a 0 ≠ tx_W.getD c 0) w' r1 w hw ew
        rw [if_neg (fun r => hne (by have := (hc _).mp r; omega)), r2]
        exact ⟨fun _ => fun r => ew ((nI_eq (by omega) (by omega)).mp r), fun _ => rfl⟩
/-- a number, in step -/
theorem PO.num {b : Nat → Int32} {T L k N : Nat} {tk μ0 ρ υ : gM} (C : CX b T L tk μ0) (p : PO b T L tk μ0 ρ υ k N) (most : Int32) (hm : most.toInt ≤ 99999) : (∃ n : Nat, (x_takeNumber4 ρ most).1 = nI n ∧ (m_numberHere υ most).1 = nI n ∧ (n : Int) ≤ most.toInt ∧ PO b T L tk μ0 (x_takeNumber4 ρ most).2 (m_numberHere υ most).2 (k + 1) N) ∨ PW T L tk μ0 (x_takeNumber4 ρ most).2 (m_numberHere υ most).2 := by
  have pw := p.wrong C
  have pa := p.adv C
  obtain ⟨p1, p2, p3, p4, p5, p6, ⟨p7, p8, p9, p10⟩, p11⟩ := p
  obtain ⟨i1, i2, i3⟩ := at_is C p1 p3
  obtain ⟨hT, ⟨t0, t1, t2, t3, t4⟩, c1, c2⟩ := C
  obtain ⟨s, e, s1, s2, s3, s4, s5, s6⟩ := t4 k p3
  unfold x_takeNumber4 m_numberHere
  rw [p5, if_pos rfl, p7, p10]
  rw [show x_sortAt5 (mget ρ 13) (ρ 12 0) = tk 1 k by rw [p4]; exact i1, show x_numberAt5 (mget ρ 13) (ρ 12 0) = tk 4 k by rw [p4]; exact i2]
  rcases s4 with q | q | q | q | q
  · rw [q.2, q.1, if_neg (by decide), if_neg (show ¬ (0 : Int32) = 2 by decide)]
    exact Or.inr pw
  · rw [q.2, q.1, if_neg (by decide), if_neg (show ¬ (3 : Int32) = 2 by decide)]
    exact Or.inr pw
  · rw [q.2.1, q.1, if_neg (by decide), if_neg (show ¬ (4 : Int32) = 2 by decide)]
    exact Or.inr pw
  · have pa' := pa (by rw [q.1]; decide) (by rw [q.1]; decide)
    rw [q.2.1, q.1, if_pos rfl, if_pos rfl, q.2.2.2.2.2]
    have v0 := q.2.2.2.2.1
    generalize (tkn b T (prv tk k)).2.2.2 = v at v0
    have h1 : nI (min 100000 v.toInt.toNat) ≤ most ↔ v.toInt ≤ most.toInt := by
      rw [Int32.le_iff_toInt_le, nI_toInt (by omega)]
      omega
    have h2 : lg_cmp v most.toInt64 ≤ 0 ↔ v.toInt ≤ most.toInt := by
      rw [lg_cmp_le, Int64.le_iff_toInt_le, Int32.toInt_toInt64]
    by_cases c : v.toInt ≤ most.toInt
    · rw [if_pos (h1.mpr c), if_pos (h2.mpr c)]
      refine Or.inl ⟨v.toInt.toNat, ?_, ?_, by omega, pa'⟩
      · show nI (min 100000 v.toInt.toNat) = _
        rw [Nat.min_eq_right (by omega)]
      · show v.toInt32 = _
        refine Int32.toInt_inj.mp ?_
        rw [Int64.toInt_toInt32, nI_toInt (by omega), Int.bmod_eq_of_le (by omega) (by omega)]
        omega
    · rw [if_neg (fun r => c (h1.mp r)), if_neg (fun r => c (h2.mp r))]
      exact Or.inr pw
  · rw [q.1, if_neg (show ¬ (1 : Int32) = 2 by decide)]
    have hne : ¬ tk 1 k = 14 := by
      rcases q.2.2.2 with ⟨r1, -⟩ | ⟨w', r1, r2, -⟩
      · rw [r1]; decide
      · rw [r2]; exact (w_lt w' r1).2.2.1
    rw [if_neg hne]
    exact Or.inr pw
