/-! PURE LEVEL 26: digits of an order's number; cost -/
def dgI (x : Int32) (k : Nat) : Int32 := (x >>> nI (3 * k)) &&& 7
def dgN (x : Int32) (k : Nat) : Nat := (x >>> nI (3 * k)).toBitVec.toNat % 8
theorem dgI_n (x : Int32) (k : Nat) : dgI x k = nI (dgN x k) := pk_and _ 3 (by decide)
theorem dgN_lt (x : Int32) (k : Nat) : dgN x k < 8 := Nat.mod_lt _ (by omega)
theorem dg_m (x : Int32) {k : Nat} (hk : k < 6) : (x >>> (((3 : Int32) * nI k) &&& 31)) &&& 7 = nI (dgN x k) := by
  rw [← dgI_n]
  have : k = 0 ∨ k = 1 ∨ k = 2 ∨ k = 3 ∨ k = 4 ∨ k = 5 := by omega
  rcases this with h | h | h | h | h | h <;> subst h <;> rfl
theorem dg_c (x : Int32) {k : Nat} (hk : k < 6) : ((x.toUInt32 >>> (((3 : Int32) * nI k).toUInt32 &&& Int32.toUInt32 31)).toInt32 &&& 7) = nI (dgN x k) := by
  rw [← dgI_n]
  unfold dgI
  have e2 : ((((3 : Int32) * nI k).toUInt32 &&& Int32.toUInt32 31).toBitVec % 32).toNat = 3 * k := by
    have : k = 0 ∨ k = 1 ∨ k = 2 ∨ k = 3 ∨ k = 4 ∨ k = 5 := by omega
    rcases this with h | h | h | h | h | h <;> subst h <;> decide
  have e3 : (((nI (3 * k)).toBitVec).smod 32).toNat = 3 * k := by
    have : k = 0 ∨ k = 1 ∨ k = 2 ∨ k = 3 ∨ k = 4 ∨ k = 5 := by omega
    rcases this with h | h | h | h | h | h <;> subst h <;> decide
  have eA : (x.toUInt32 >>> (((3 : Int32) * nI k).toUInt32 &&& Int32.toUInt32 31)).toInt32.toBitVec = x.toBitVec >>> (3 * k) := by
    have : (x.toUInt32 >>> (((3 : Int32) * nI k).toUInt32 &&& Int32.toUInt32 31)).toInt32.toBitVec = x.toBitVec >>> ((((3 : Int32) * nI k).toUInt32 &&& Int32.toUInt32 31).toBitVec % 32).toNat := UInt32.toBitVec_shiftRight _ _
    rw [this, e2]
  have eB : (x >>> nI (3 * k)).toBitVec = x.toBitVec.sshiftRight (3 * k) := by
    show x.toBitVec.sshiftRight ((nI (3 * k)).toBitVec.smod 32).toNat = _
    rw [e3]
  apply Int32.toBitVec_inj.mp
  rw [Int32.toBitVec_and, Int32.toBitVec_and, eA, eB]
  apply BitVec.eq_of_getLsbD_eq
  intro i hi
  rw [BitVec.getLsbD_and, BitVec.getLsbD_and]
  by_cases h8 : i < 3
  · rw [BitVec.getLsbD_ushiftRight, BitVec.getLsbD_sshiftRight]
    simp [show 3 * k + i < 32 by omega, hi, show ¬ 32 ≤ i by omega]
  · have : (7 : Int32).toBitVec.getLsbD i = false := by
      show (BitVec.ofNat 32 (2 ^ 3 - 1)).getLsbD i = false
      rw [BitVec.getLsbD_ofNat, Nat.testBit_two_pow_sub_one]
      simp [h8]
    rw [this, Bool.and_false, Bool.and_false]
theorem sh_p {p : Nat} (hp : p < 8) : ((nI p &&& 31).toBitVec.smod 32).toNat = p := by
  have : p = 0 ∨ p = 1 ∨ p = 2 ∨ p = 3 ∨ p = 4 ∨ p = 5 ∨ p = 6 ∨ p = 7 := by omega
  rcases this with h | h | h | h | h | h | h | h <;> subst h <;> decide
theorem bit_at {S p : Nat} (hS : S < 256) (hp : p < 8) : ((nI S >>> (nI p &&& 31)) &&& 1 = 1) ↔ S.testBit p = true := by
  rw [pk_shrN (by omega) _ p (sh_p hp), pk_andN (by
    have : S / 2 ^ p ≤ S := Nat.div_le_self _ _
    omega) 1 (by decide), show (1 : Int32) = nI 1 from rfl, nI_eq (by omega) (by omega), Nat.testBit_eq_decide_div_mod_eq]
  simp
theorem bit_set {S p : Nat} (hS : S < 256) (hp : p < 8) : nI S ||| ((1 : Int32) <<< (nI p &&& 31)) = nI (S ||| 2 ^ p) := by
  have h2 : 2 ^ p < 256 := by
    have : 2 ^ p < 2 ^ 8 := Nat.pow_lt_pow_right (by omega) hp
    omega
  have h3 : S ||| 2 ^ p < 2 ^ 8 := Nat.or_lt_two_pow (by omega) (by omega)
  rw [show (1 : Int32) = nI 1 from rfl, pk_shlN _ p (sh_p hp) (by omega)]
  refine nI_of_bv ?_ (by omega)
  rw [Int32.toBitVec_or, BitVec.toNat_or, nI_bv (by omega), nI_bv (by omega), Nat.one_mul]
theorem c_digits_loop {Q : Int32 → (Nat → Int32) → Prop} {x : Int32} {n : Nat} (hn : n ≤ 6) (h1 : isOrd n (dgN x) → ∀ tr, (∀ k, k < n → tr k = nI (dgN x k)) → Q 1 tr) (h0 : ¬ isOrd n (dgN x) → ∀ tr, Q 0 tr) : ∀ (m i S : Nat) (tr : Nat → Int32), i + m = n → S < 256 → (∀ p, p < 8 → (S.testBit p = true ↔ ∃ k, k < i ∧ dgN x k = p)) → (∀ k, k < i → dgN x k < n) → (∀ j k, j < k → k < i → dgN x j ≠ dgN x k) → (∀ k, k < i → tr k = nI (dgN x k)) → wX0_tryDigits_4 Q (m + 1) x (nI S) (nI i) (nI n) tr := by
  intro m
  induction m with
  | zero =>
    intro i S tr hi hS a1 a2 a3 a4
    have e : i = n := by omega
    subst e
    exact ip_T (nI_le (Nat.le_refl _) (by omega)) (h1 ⟨a2, a3⟩ tr a4)
  | succ m ih =>
    intro i S tr hi hS a1 a2 a3 a4
    have h8 := dgN_lt x i
    refine ip_F (nI_ge (by omega) (by omega)) ?_
    rw [dg_c x (show i < 6 by omega), nI_leI (by omega) (by omega), bit_at hS h8, bit_set hS h8]
    refine ip_split (fun c => h0 (fun q => absurd (q.1 i (by omega)) (by omega)) tr) (fun c => ip_split' (fun d => h0 (fun q => ?_) tr) (fun d => ⟨vp_in_nI (by omega) (by omega), ?_⟩))
    · obtain ⟨k, hk, e⟩ := (a1 _ h8).mp d
      exact q.2 k i hk (by omega) e
    · rw [nI_clamp (by omega), nI_1]
      have h3 : S ||| 2 ^ dgN x i < 2 ^ 8 := Nat.or_lt_two_pow (by omega) (Nat.pow_lt_pow_right (by omega) h8)
      refine ih (i + 1) _ _ (by omega) (by omega) (fun p hp => ?_) (fun k hk => ?_) (fun j k hjk hk => ?_) (fun k hk => ?_)
      · rw [Nat.testBit_or, Nat.testBit_two_pow]
        by_cases q : dgN x i = p
        · simp [q]
          exact ⟨i, by omega, q⟩
        · simp [q]
          rw [a1 p hp]
          refine ⟨fun ⟨k, u, v⟩ => ⟨k, by omega, v⟩, fun ⟨k, u, v⟩ => ⟨k, ?_, v⟩⟩
          by_cases z : k = i
          · subst z; exact absurd v q
          · omega
      · by_cases q : k = i
        · subst q; omega
        · exact a2 k (by omega)
      · by_cases q : k = i
        · subst q
          intro e
          exact d ((a1 _ h8).mpr ⟨j, hjk, e⟩)
        · exact a3 j k hjk (by omega)
      · by_cases q : k = i
        · subst q; exact pk_us
        · rw [pk_un q]; exact a4 k (by omega)
theorem sim_cost {om : Nat → Option OR} {all met mtr ctr : Nat → Int32} {w : WH} (W : WfW w) (R : RW om all w) {y1 y2 : Int32} {K : Int32 → (Nat → Int32) → Int32 → (Nat → Int32) → (Nat → Int32) → Prop} (hK : ∀ r tr met' mtr', K r tr r met' mtr') :
    wX10_cost (fun r tr => wX11_cost (fun r2 met' mtr' => K r tr r2 met' mtr') y1 y2 all met mtr) y1 y2 (nI w.psize) w.frm w.takes ctr w.worth := by
  have hp := W.psize
  have ref : ∀ (v : Int32) (tr : Nat → Int32), inI y2 1 2 ≠ 0 → (isOrd w.psize (dgN y1) → v = cw w.frm w.takes w.worth y2 (dgN y1) w.psize 0 0 0 0) → (¬ isOrd w.psize (dgN y1) → v = -1) → wX11_cost (fun r2 met' mtr' => K v tr r2 met' mtr') y1 y2 all met mtr := by
    intro v tr hy q1 q0
    unfold wX11_cost
    rw [p_isIn]
    refine ip_F' hy ⟨7, ?_⟩
    have lp : ∀ (m i : Nat) (tr1 : Nat → Int32), i + m = 6 → (∀ k, k < i → tr1 k = nI (dgN y1 k)) → wX11_cost_13 (fun r2 met' mtr' => K v tr r2 met' mtr') (m + 1) y1 y2 (nI i) all met tr1 := by
      intro m
      induction m with
      | zero =>
        intro i tr1 hi a
        have e : i = 6 := by omega
        subst e
        refine ip_T (by decide) (m_isOrder W R (t := dgN y1) (fun k hk => ⟨a k (by omega), dgN_lt _ _⟩) (fun o met' => ip_F (by decide) (m_costs W R (t := dgN y1) (fun k hk => ⟨a k (by omega), o.1 k hk⟩) ?_)) (fun o met' => ip_T rfl ?_))
        · rw [← q1 o]; exact hK _ _ _ _
        · rw [q0 o]; exact hK _ _ _ _
      | succ m ih =>
        intro i tr1 hi a
        refine ip_F (nI_ge (a := i) (b := 6) (by omega) (by omega)) ⟨vp_in_nI (by omega) (by omega), ?_⟩
        rw [dg_m y1 (show i < 6 by omega), nI_clamp (by omega), nI_1]
        refine ih (i + 1) _ (by omega) (fun k hk => ?_)
        by_cases q : k = i
        · subst q; exact pk_us
        · rw [pk_un q]; exact a k (by omega)
    exact lp 6 0 mtr (by omega) (fun k hk => absurd hk (by omega))
  unfold wX10_cost
  rw [p_within]
  refine ip_split (fun c => ?_) (fun c => ⟨w.psize + 1, ?_⟩)
  · unfold wX11_cost
    exact p_isIn.mpr (ip_T' c (hK _ _ _ _))
  · refine c_digits_loop hp (fun o tr ht => ip_F' (by decide) (c_waiting hp (t := dgN y1) (fun k hk => ⟨ht k hk, by have := o.1 k hk; omega⟩) (ref _ _ c (fun _ => rfl) (fun n => absurd o n)))) (fun o tr => ip_T' rfl (ref _ _ c (fun n => absurd n o) (fun _ => rfl))) w.psize 0 0 ctr (by omega) (by omega) (fun p hp => ?_) (fun k hk => absurd hk (by omega)) (fun j k _ hk => absurd hk (by omega)) (fun k hk => absurd hk (by omega))
    rw [Nat.zero_testBit]
    exact ⟨fun q => absurd q (by decide), fun ⟨k, hk, _⟩ => absurd hk (by omega)⟩
