/-! PURE LEVEL 10: weather, feed -/
def weA (all : Nat → Int32) (a n : Nat) (c wy fo : Int32) : Nat → Int32 := rF all (460 + 3 * a) (3 * n) fun i => if (i - 460) % 3 = 0 then c else if (i - 460) % 3 = 1 then wy else fo
theorem ip_weather_loop {Q : Int32 → (Nat → Int32) → Prop} {all : Nat → Int32} {a n : Nat} {c wy fo : Int32} (hn : a + n ≤ 1000) (h : Q 1 (weA all a n c wy fo)) : ∀ (m i : Nat), i + m = n → wX11_weather_66 Q (m + 1) (nI a) (nI n) c wy fo (nI (a + i)) (weA all a i c wy fo) := by
  intro m
  induction m with
  | zero =>
    intro i hi
    have e : i = n := by omega
    subst e
    refine ip_T ?_ h
    rw [nI_add]
    exact nI_le (Nat.le_refl _) (by omega)
  | succ m ih =>
    intro i hi
    refine ip_F (by rw [nI_add]; exact nI_ge (by omega) (by omega)) ?_
    have e0 : (460 : Int32) + 3 * nI (a + i) = nI (460 + 3 * a + 3 * i) := by simp only [ip_lit, pk_mul, nI_add, Nat.mul_add, Nat.add_assoc]
    rw [e0, show nI (460 + 3 * a + 3 * i) + 1 = nI (460 + 3 * a + (3 * i + 1)) from nI_add _ 1, show nI (460 + 3 * a + 3 * i) + 2 = nI (460 + 3 * a + (3 * i + 1 + 1)) from nI_add _ 2]
    rw [nI_clamp (by omega), nI_clamp (by omega), nI_clamp (by omega), nI_1]
    refine ⟨vp_in_nI (by omega) (by omega), vp_in_nI (by omega) (by omega), vp_in_nI (by omega) (by omega), ?_⟩
    unfold weA at ih ⊢
    rw [rF_succ (n := 3 * i) (by rw [if_pos (by omega)]), rF_succ (n := 3 * i + 1) (by rw [if_neg (by omega), if_pos (by omega)]), rF_succ (n := 3 * i + 1 + 1) (by rw [if_neg (by omega), if_neg (by omega)])]
    exact ih (i + 1) (by omega)
theorem sim_weather {om : Nat → Option OR} {all : Nat → Int32} {w : WH} (W : WfW w) (R : RW om all w) {y1 y2 y3 y4 y5 : Int32} {K : Int32 → (Nat → Int32) → (Nat → Int32) → (Nat → Int32) → Int32 → (Nat → Int32) → Prop}
    (hK : ∀ r cold force way all', Ok om all (((((w.g.rows, w.g.cols, w.g.size, w.g.hour, w.g.laid, w.g.grown, w.g.melted, w.g.sea, w.g.fast, w.g.level, w.g.ridged, w.g.chan, w.g.str, w.g.fuel, w.g.place, w.g.told, w.g.moved, w.g.line, w.g.done, w.g.ord, (cold), (way), (force)) : GU)), w.tlen, w.tape, w.fault, w.place, w.psize, w.frm, w.takes, w.worth, w.ssize, w.settled) : WH) all' → K r cold force way r all') :
    wX10_weather (fun r a b c => wX11_weather (fun r2 all' => K r a b c r2 all') y1 y2 y3 y4 y5 all) y1 y2 y3 y4 y5 (nI w.g.hour) w.g.cold w.g.force w.g.way := by
  have hno : ∀ r, K r w.g.cold w.g.force w.g.way r all := fun r => hK _ _ _ _ _ (Ok.same W R)
  have hh := W.g.h1
  have v3 := ip_in (x := 3) 3 53700 rfl (by omega) (by omega)
  unfold wX10_weather wX11_weather
  simp only [p_within, p_isIn]
  rw [show (3 : Int32).toNatClampNeg = 3 from rfl, R.g.hour]
  refine ip_split (fun c1 => ⟨v3, ip_T c1 (hno _)⟩) (fun c1 => ip_split' (fun c2 => ⟨v3, ip_F c1 (ip_T c2 (hno _))⟩) (fun c2 => ip_split (fun c3 => ⟨v3, ip_F c1 (ip_F c2 (ip_T c3 (hno _)))⟩) (fun c3 => ip_split (fun c4 => ⟨v3, ip_F c1 (ip_F c2 (ip_F c3 (ip_T c4 (hno _))))⟩) (fun c4 => ip_split' (fun c5 => ⟨v3, ip_F c1 (ip_F c2 (ip_F c3 (ip_F c4 (ip_T' c5 (hno _)))))⟩) (fun c5 => ?_)))))
  have h999 : w.g.hour ≤ 999 := by
    by_cases q : w.g.hour ≤ 999
    · exact q
    · exfalso
      apply c1
      rw [inI_nz]
      have : w.g.hour = 1000 := by omega
      rw [this, ip_ltI, ip_ltI]
      have e1 : (nI 1000).toInt = 1000 := rfl
      have e2 : (999 : Int32).toInt = 999 := rfl
      omega
  obtain ⟨a, h1, h2, e1, -⟩ := (inI_rng y1 w.g.hour 999 (by omega) (by omega)).resolve_left c1
  subst e1
  have e1000 : (1000 : Int32) - nI a = nI (1000 - a) := pk_sub (a := 1000) (by omega)
  rw [e1000] at c2
  obtain ⟨n, h3, h4, e2, -⟩ := (inI_rng y2 1 (1000 - a) (by omega) (by omega)).resolve_left c2
  obtain ⟨wy, -, h6, e4, -⟩ := (inI_rng y4 0 3 (by omega) (by omega)).resolve_left c4
  obtain ⟨fo, -, h8, e5, -⟩ := (inI_rng y5 0 50 (by omega) (by omega)).resolve_left c5
  subst e2
  rw [nI_add]
  refine ip_put (by omega) ⟨v3, ip_F c1 (ip_F (by rw [e1000]; exact c2) (ip_F c3 (ip_F c4 (ip_F' c5 ⟨n + 1, ?_⟩))))⟩
  have := ip_weather_loop (Q := fun r2 all' => K 1 (rF w.g.cold a n fun _ => y3) (rF w.g.force a n fun _ => y5) (rF w.g.way a n fun _ => y4) r2 all') (all := all) (a := a) (n := n) (c := y3) (wy := y4) (fo := y5) (by omega) ?_ n 0 (by omega)
  · unfold weA at this
    rw [Nat.mul_zero, rF_0] at this
    exact this
  · refine hK 1 _ _ _ _ (Ok.gulf W R ?_ ?_ (fun i hi => rF_out (by omega)))
    · refine (Wf.mk' (k_r1 := W.g.r1) (k_r8 := W.g.r8) (k_c1 := W.g.c1) (k_c8 := W.g.c8) (k_s8 := W.g.s8) (k_h1 := W.g.h1) (k_sea := W.g.sea) (k_fast := W.g.fast) (k_out := W.g.out) (k_chan := W.g.chan) (k_place := W.g.place) (k_dist := W.g.dist) (k_str := W.g.str) (k_done := W.g.done) (k_way := fun t ht => ?_) (k_force := fun t ht => ?_))
      · show ∃ w' : Nat, w' ≤ 3 ∧ rF w.g.way a n (fun _ => y4) t = nI w'
        by_cases q : a ≤ t ∧ t < a + n
        · rw [rF_in q.1 q.2]; exact ⟨wy, h6, e4⟩
        · rw [rF_out (by omega)]; exact W.g.way t ht
      · show ∃ w' : Nat, w' ≤ 50 ∧ rF w.g.force a n (fun _ => y5) t = nI w'
        by_cases q : a ≤ t ∧ t < a + n
        · rw [rF_in q.1 q.2]; exact ⟨fo, h8, e5⟩
        · rw [rF_out (by omega)]; exact W.g.force t ht
    · have hs8 := W.g.s8
      have un : ∀ i, i < 460 ∨ 3460 ≤ i → weA all a n y3 y4 y5 i = all i := fun i hi => rF_out (by omega)
      have wt : ∀ (f : Nat → Int32) (d : Nat) (v : Int32), d < 3 → (∀ t, t < 1000 → all (460 + 3 * t + d) = f t) → (v = if d = 0 then y3 else if d = 1 then y4 else y5) → ∀ t, t < 1000 → weA all a n y3 y4 y5 (460 + 3 * t + d) = rF f a n (fun _ => v) t := by
        intro f d v hd h1 hv t ht
        unfold weA
        by_cases q : a ≤ t ∧ t < a + n
        · rw [rF_in q.1 q.2, rF_in (by omega) (by omega), show (460 + 3 * t + d - 460) % 3 = d by omega, hv]
        · rw [rF_out (by omega), rF_out (by omega)]; exact h1 t ht
      exact (Rg.mk'
        (k_rows := (un _ (by omega)).trans R.g.rows)
        (k_cols := (un _ (by omega)).trans R.g.cols)
        (k_size := (un _ (by omega)).trans R.g.size)
        (k_hour := (un _ (by omega)).trans R.g.hour)
        (k_laid := (un _ (by omega)).trans R.g.laid)
        (k_grown := (un _ (by omega)).trans R.g.grown)
        (k_melted := (un _ (by omega)).trans R.g.melted)
        (k_sea := fun j hj hi => (un _ (by omega)).trans (R.g.sea j hj hi))
        (k_level := fun j hj => (un _ (by omega)).trans (R.g.level j hj))
        (k_ridged := fun j hj => (un _ (by omega)).trans (R.g.ridged j hj))
        (k_chan := fun j hj => (un _ (by omega)).trans (R.g.chan j hj))
        (k_fast := fun j hj hi => (un _ (by omega)).trans (R.g.fast j hj hi))
        (k_str := fun j (hj : j < w.g.size) => (un _ (by omega)).trans (R.g.str j hj))
        (k_fuel := fun j (hj : j < w.g.size) => (un _ (by omega)).trans (R.g.fuel j hj))
        (k_prow := fun j (hj : j < w.g.size) => (un _ (by omega)).trans (R.g.prow j hj))
        (k_pcol := fun j (hj : j < w.g.size) => (un _ (by omega)).trans (R.g.pcol j hj))
        (k_told := fun j (hj : j < w.g.size) => (un _ (by omega)).trans (R.g.told j hj))
        (k_moved := fun j (hj : j < w.g.size) => (un _ (by omega)).trans (R.g.moved j hj))
        (k_line := fun j (hj : j < w.g.size) => (un _ (by omega)).trans (R.g.line j hj))
        (k_done := fun j (hj : j < w.g.size) => (un _ (by omega)).trans (R.g.done j hj))
        (k_ord := fun j (hj : j < w.g.size) => by
          rw [un _ (by omega)]
          exact (R.g.ord j hj).congr (fun k hk => un _ (by omega)) (fun k hk => un _ (by omega)))
        (k_cold := wt _ 0 _ (by omega) R.g.cold rfl)
        (k_way := wt _ 1 _ (by omega) R.g.way rfl)
        (k_force := wt _ 2 _ (by omega) R.g.force rfl)
        (k_od := R.g.od))
/-- the byte of a word that goes onto the tape as the j-th of four -/
def byI (x : Int32) (j : Nat) : Int32 := (x >>> nI (24 - 8 * j)) &&& 255
theorem byI_rng (x : Int32) (j : Nat) : ∃ b : Nat, b < 256 ∧ byI x j = nI b := by
  obtain ⟨b, hb, e⟩ := pk_andE (x >>> nI (24 - 8 * j)) (m := 255) 8 (by decide)
  exact ⟨b, hb, e⟩
theorem byI_u (x : Int32) (s : Int32) (k j : Nat) (hs : s = nI k) (hk : k ≤ 24) (hj : 24 - 8 * j = k) : ((x.toUInt32 >>> (s.toUInt32 &&& Int32.toUInt32 31)).toInt32 &&& 255) = byI x j := by
  subst hs
  unfold byI
  rw [hj]
  have e1 : ((nI k).toUInt32 &&& Int32.toUInt32 31).toBitVec = BitVec.ofNat 32 k := by
    have : k = 0 ∨ k = 1 ∨ k = 2 ∨ k = 3 ∨ k = 4 ∨ k = 5 ∨ k = 6 ∨ k = 7 ∨ k = 8 ∨ k = 9 ∨ k = 10 ∨ k = 11 ∨ k = 12 ∨ k = 13 ∨ k = 14 ∨ k = 15 ∨ k = 16 ∨ k = 17 ∨ k = 18 ∨ k = 19 ∨ k = 20 ∨ k = 21 ∨ k = 22 ∨ k = 23 ∨ k = 24 := by omega
    rcases this with h | h | h | h | h | h | h | h | h | h | h | h | h | h | h | h | h | h | h | h | h | h | h | h | h <;> subst h <;> decide
  have e2 : (((nI k).toUInt32 &&& Int32.toUInt32 31).toBitVec % 32).toNat = k := by
    rw [e1]
    have : k = 0 ∨ k = 1 ∨ k = 2 ∨ k = 3 ∨ k = 4 ∨ k = 5 ∨ k = 6 ∨ k = 7 ∨ k = 8 ∨ k = 9 ∨ k = 10 ∨ k = 11 ∨ k = 12 ∨ k = 13 ∨ k = 14 ∨ k = 15 ∨ k = 16 ∨ k = 17 ∨ k = 18 ∨ k = 19 ∨ k = 20 ∨ k = 21 ∨ k = 22 ∨ k = 23 ∨ k = 24 := by omega
    rcases this with h | h | h | h | h | h | h | h | h | h | h | h | h | h | h | h | h | h | h | h | h | h | h | h | h <;> subst h <;> decide
  have e3 : (((nI k).toBitVec).smod 32).toNat = k := by
    have : k = 0 ∨ k = 1 ∨ k = 2 ∨ k = 3 ∨ k = 4 ∨ k = 5 ∨ k = 6 ∨ k = 7 ∨ k = 8 ∨ k = 9 ∨ k = 10 ∨ k = 11 ∨ k = 12 ∨ k = 13 ∨ k = 14 ∨ k = 15 ∨ k = 16 ∨ k = 17 ∨ k = 18 ∨ k = 19 ∨ k = 20 ∨ k = 21 ∨ k = 22 ∨ k = 23 ∨ k = 24 := by omega
    rcases this with h | h | h | h | h | h | h | h | h | h | h | h | h | h | h | h | h | h | h | h | h | h | h | h | h <;> subst h <;> decide
  have eA : (x.toUInt32 >>> ((nI k).toUInt32 &&& Int32.toUInt32 31)).toInt32.toBitVec = x.toBitVec >>> k := by
    have : (x.toUInt32 >>> ((nI k).toUInt32 &&& Int32.toUInt32 31)).toInt32.toBitVec = x.toBitVec >>> (((nI k).toUInt32 &&& Int32.toUInt32 31).toBitVec % 32).toNat := UInt32.toBitVec_shiftRight _ _
    rw [this, e2]
  have eB : (x >>> nI k).toBitVec = x.toBitVec.sshiftRight k := by
    show x.toBitVec.sshiftRight ((nI k).toBitVec.smod 32).toNat = _
    rw [e3]
  apply Int32.toBitVec_inj.mp
  rw [Int32.toBitVec_and, Int32.toBitVec_and, eA, eB]
  apply BitVec.eq_of_getLsbD_eq
  intro i hi
  rw [BitVec.getLsbD_and, BitVec.getLsbD_and]
  by_cases h8 : i < 8
  · rw [BitVec.getLsbD_ushiftRight, BitVec.getLsbD_sshiftRight]
    simp [show k + i < 32 by omega, hi, show ¬ 32 ≤ i by omega]
  · have : (255 : Int32).toBitVec.getLsbD i = false := by
      show (BitVec.ofNat 32 (2 ^ 8 - 1)).getLsbD i = false
      rw [BitVec.getLsbD_ofNat, Nat.testBit_two_pow_sub_one]
      simp [h8]
    rw [this, Bool.and_false, Bool.and_false]
/-- twenty bytes fed -/
def feF (n : Nat) (a b c d e : Int32) (i : Nat) : Int32 := if i < n + 4 then byI a (i - n) else if i < n + 8 then byI b (i - n - 4) else if i < n + 12 then byI c (i - n - 8) else if i < n + 16 then byI d (i - n - 12) else byI e (i - n - 16)
theorem ip_append {Q : Int32 → (Nat → Int32) → Prop} {x : Int32} {f F : Nat → Int32} {n k : Nat} (hn : n + k + 4 ≤ 400) (h0 : F (n + k) = byI x 0) (h1 : F (n + k + 1) = byI x 1) (h2 : F (n + k + 2) = byI x 2) (h3 : F (n + k + 3) = byI x 3) (h : Q (nI (n + (k + 4))) (rF f n (k + 4) F)) : wX6_append Q x (nI (n + k)) (rF f n k F) := by
  have st : ∀ (m j : Nat) (s s' : Int32), j < 4 → s = nI (24 - 8 * j) → s' = s + -8 → F (n + (k + j)) = byI x j → wX6_append_3 Q m x s' (nI (n + (k + j + 1))) (rF f n (k + j + 1) F) → wX6_append_3 Q (m + 1) x s (nI (n + (k + j))) (rF f n (k + j) F) := by
    intro m j s s' hj hs hs' hF hr
    refine ip_F (by subst hs; exact nI_pos (by omega)) (ip_F (nI_ge (a := n + (k + j)) (b := 400) (by omega) (by omega)) ⟨vp_in_nI (by omega) (by omega), ?_⟩)
    rw [nI_clamp (by omega), byI_u x s (24 - 8 * j) j hs (by omega) rfl, rF_succ hF.symm, nI_1, ← hs']
    exact hr
  refine ⟨5, st 4 0 24 16 (by omega) rfl (by decide) h0 (st 3 1 16 8 (by omega) rfl (by decide) h1 (st 2 2 8 0 (by omega) rfl (by decide) h2 (st 1 3 0 (-8) (by omega) rfl (by decide) h3 ?_)))⟩
  exact ip_T (by decide) h
theorem m_feed_loop {Q : Int32 → (Nat → Int32) → Prop} {all : Nat → Int32} {n : Nat} {a b c d e : Int32} (hn : n + 20 ≤ 400) (h9 : all 9 = nI n) (h : Q (nI (n + 20)) (upd (rF all (10340 + n) 20 fun i => feF n a b c d e (i - 10340)) 9 (nI (n + 20)))) : ∀ (m i : Nat), i + m = 20 → wX11_feed_21 Q (m + 1) a b c d e (nI i) (upd (rF all (10340 + n) i fun i => feF n a b c d e (i - 10340)) 9 (nI (n + i))) := by
  have v9 := ip_in (x := 9) 9 53700 rfl (by omega) (by omega)
  intro m
  induction m with
  | zero =>
    intro i hi
    have e : i = 20 := by omega
    subst e
    refine ip_T (by decide) ⟨v9, ?_⟩
    rw [show (9 : Int32).toNatClampNeg = 9 from rfl, pk_us]
    exact h
  | succ m ih =>
    intro i hi
    refine ip_F (nI_ge (a := i) (b := 20) (by omega) (by omega)) ?_
    have key : ∀ x : Int32, feF n a b c d e (n + i) = byI x (i % 4) → wX11_feed_74 Q (wX11_feed_21 Q (m + 1)) a b c d e (nI i) x (upd (rF all (10340 + n) i fun i => feF n a b c d e (i - 10340)) 9 (nI (n + i))) := by
      intro x hx
      unfold wX11_feed_74
      rw [show (9 : Int32).toNatClampNeg = 9 from rfl, pk_us, show (10340 : Int32) + nI (n + i) = nI (10340 + n + i) from by rw [ip_lit, nI_add, Nat.add_assoc], nI_clamp (by omega), pk_un (by omega), pk_us, nI_1, nI_1]
      have ev : (x >>> (((24 : Int32) - ((8 : Int32) * (nI i - nI i / (4 : Int32) * (4 : Int32)))) &&& 31)) &&& (255 : Int32) = feF n a b c d e (n + i) := by
        rw [hx, show nI i - nI i / 4 * 4 = nI (i % 4) from pk_rem (d := 4) (by omega) (by omega) (by omega)]
        have h4 : i % 4 < 4 := Nat.mod_lt _ (by omega)
        generalize i % 4 = j at h4
        have : j = 0 ∨ j = 1 ∨ j = 2 ∨ j = 3 := by omega
        rcases this with h | h | h | h <;> subst h <;> rfl
      rw [ev]
      refine ⟨v9, vp_in_nI (by omega) (by omega), v9, v9, ?_⟩
      have := ih (i + 1) (by omega)
      have ee : upd (upd (upd (rF all (10340 + n) i fun i => feF n a b c d e (i - 10340)) 9 (nI (n + i))) (10340 + n + i) (feF n a b c d e (n + i))) 9 (nI (n + i + 1)) = upd (rF all (10340 + n) (i + 1) fun i => feF n a b c d e (i - 10340)) 9 (nI (n + (i + 1))) := by
        rw [← rF_succ (f := all) (a := 10340 + n) (n := i) (F := fun i => feF n a b c d e (i - 10340)) rfl]
        funext k
        by_cases k9 : k = 9
        · subst k9; rw [pk_us, pk_us]; rfl
        · rw [pk_un k9, pk_un k9]
          by_cases kk : k = 10340 + n + i
          · subst kk; rw [pk_us, pk_us, show 10340 + n + i - 10340 = n + i by omega]
          · rw [pk_un kk, pk_un kk, pk_un k9]
      rw [ee]
      exact this
    have lit : ∀ z : Nat, z ≤ 20 → ((nI z ≤ nI i) ↔ z ≤ i) := fun z hz => nI_leI (by omega) (by omega)
    refine ip_split (fun c4 => ip_split (fun c8 => ip_split (fun c12 => ip_split (fun c16 => key e ?_) (fun c16 => key d ?_)) (fun c12 => key c ?_)) (fun c8 => key b ?_)) (fun c4 => key a ?_)
    · have := (lit 16 (by omega)).mp c16
      unfold feF
      rw [if_neg (by omega), if_neg (by omega), if_neg (by omega), if_neg (by omega), show n + i - n - 16 = i % 4 by omega]
    · have h1 := (lit 12 (by omega)).mp c12
      have h2 : ¬ 16 ≤ i := fun q => c16 ((lit 16 (by omega)).mpr q)
      unfold feF
      rw [if_neg (by omega), if_neg (by omega), if_neg (by omega), if_pos (by omega), show n + i - n - 12 = i % 4 by omega]
    · have h1 := (lit 8 (by omega)).mp c8
      have h2 : ¬ 12 ≤ i := fun q => c12 ((lit 12 (by omega)).mpr q)
      unfold feF
      rw [if_neg (by omega), if_neg (by omega), if_pos (by omega), show n + i - n - 8 = i % 4 by omega]
    · have h1 := (lit 4 (by omega)).mp c4
      have h2 : ¬ 8 ≤ i := fun q => c8 ((lit 8 (by omega)).mpr q)
      unfold feF
      rw [if_neg (by omega), if_pos (by omega), show n + i - n - 4 = i % 4 by omega]
    · have h2 : ¬ 4 ≤ i := fun q => c4 ((lit 4 (by omega)).mpr q)
      unfold feF
      rw [if_pos (by omega), show n + i - n = i % 4 by omega]
theorem sim_feed {om : Nat → Option OR} {all : Nat → Int32} {w : WH} (W : WfW w) (R : RW om all w) {y1 y2 y3 y4 y5 : Int32} {K : Int32 → Int32 → (Nat → Int32) → Int32 → (Nat → Int32) → Prop}
    (hK : ∀ r n tape all', Ok om all ((w.g, (n), (tape), w.fault, w.place, w.psize, w.frm, w.takes, w.worth, w.ssize, w.settled) : WH) all' → K r (nI n) tape r all') :
    wX10_feed (fun r n t => wX11_feed (fun r2 all' => K r n t r2 all') y1 y2 y3 y4 y5 all) y1 y2 y3 y4 y5 (nI w.tlen) w.tape := by
  have ht := W.tlen
  have v9 := ip_in (x := 9) 9 53700 rfl (by omega) (by omega)
  unfold wX10_feed
  refine ip_split (fun c => ?_) (fun c => ?_)
  · rw [show (380 : Int32) = nI 380 from rfl, nI_leI (by omega) (by omega)] at c
    have a1 : ∀ (Q : Int32 → (Nat → Int32) → Prop) (f : Nat → Int32), wX6_append Q y1 (nI (w.tlen + 0)) (rF f w.tlen 0 (feF w.tlen y1 y2 y3 y4 y5)) → wX6_append Q y1 (nI w.tlen) f := fun Q f h => by rw [rF_0] at h; exact h
    refine a1 _ _ (ip_append (by omega) ?_ ?_ ?_ ?_ (ip_append (by omega) ?_ ?_ ?_ ?_ (ip_append (by omega) ?_ ?_ ?_ ?_ (ip_append (by omega) ?_ ?_ ?_ ?_ (ip_append (by omega) ?_ ?_ ?_ ?_ ?_)))))
    case refine_21 =>
      unfold wX11_feed
      rw [show (9 : Int32).toNatClampNeg = 9 from rfl, R.tlen, show nI w.tlen + 20 = nI (w.tlen + 20) from nI_add _ 20]
      refine ⟨v9, ip_T (nI_le (a := w.tlen + 20) (b := 400) (by omega) (by omega)) ⟨21, ?_⟩⟩
      have := m_feed_loop (Q := fun r2 all' => K (nI (w.tlen + 20)) (nI (w.tlen + 20)) (rF w.tape w.tlen 20 (feF w.tlen y1 y2 y3 y4 y5)) r2 all') (all := all) (n := w.tlen) (a := y1) (b := y2) (c := y3) (d := y4) (e := y5) (by omega) R.tlen ?_ 20 0 (by omega)
      · rw [rF_0] at this
        have e0 : upd all 9 (nI (w.tlen + 0)) = all := by
          funext k
          by_cases k9 : k = 9
          · subst k9; rw [pk_us, R.tlen]; rfl
          · rw [pk_un k9]
        rw [e0] at this
        exact this
      · have un : ∀ i, (i < 9 ∨ 9 < i ∧ i < 10340 ∨ 10740 ≤ i) → upd (rF all (10340 + w.tlen) 20 fun i => feF w.tlen y1 y2 y3 y4 y5 (i - 10340)) 9 (nI (w.tlen + 20)) i = all i := fun i hi => by
          rw [pk_un (by omega), rF_out (by omega)]
        refine hK _ (w.tlen + 20) _ _ ⟨(WfW.mk' (k_g := W.g) (k_tlen := (show w.tlen + 20 ≤ 400 by omega)) (k_tape := fun i hi => ?_) (k_psize := W.psize) (k_frm := W.frm) (k_takes := W.takes) (k_worth := W.worth) (k_ssize := W.ssize)), (RW.mk' (k_g := R.g.congr W.g.s8 (fun i hi => un i (by omega))) (k_tlen := pk_us) (k_tape := fun i hi => ?_) (k_fault := (un _ (by omega)).trans R.fault) (k_place := (un _ (by omega)).trans R.place) (k_psize := (un _ (by omega)).trans R.psize) (k_frm := fun k hk => (un _ (by have := W.psize; have : k < w.psize := hk; omega)).trans (R.frm k hk)) (k_takes := fun k hk => (un _ (by have := W.psize; have : k < w.psize := hk; omega)).trans (R.takes k hk)) (k_worth := fun k hk => (un _ (by have := W.psize; have : k < w.psize := hk; omega)).trans (R.worth k hk)) (k_ssize := (un _ (by omega)).trans R.ssize) (k_settled := fun k hk => (un _ (by have := W.ssize; have : k < w.ssize := hk; omega)).trans (R.settled k hk))), fun i hi => un i (by omega)⟩
        · show ∃ b : Nat, b < 256 ∧ rF w.tape w.tlen 20 (feF w.tlen y1 y2 y3 y4 y5) i = nI b
          have hi' : i < w.tlen + 20 := hi
          by_cases q : w.tlen ≤ i
          · rw [rF_in q hi']
            unfold feF
            split
            · exact byI_rng _ _
            · split
              · exact byI_rng _ _
              · split
                · exact byI_rng _ _
                · split <;> exact byI_rng _ _
          · rw [rF_out (by omega)]; exact W.tape i (by omega)
        · show upd (rF all (10340 + w.tlen) 20 fun i => feF w.tlen y1 y2 y3 y4 y5 (i - 10340)) 9 (nI (w.tlen + 20)) (10340 + i) = rF w.tape w.tlen 20 (feF w.tlen y1 y2 y3 y4 y5) i
          have hi' : i < w.tlen + 20 := hi
          rw [pk_un (by omega)]
          by_cases q : w.tlen ≤ i
          · rw [rF_in q hi', rF_in (by omega) (by omega), show 10340 + i - 10340 = i by omega]
          · rw [rF_out (by omega), rF_out (by omega)]; exact R.tape i (by omega)
    all_goals (unfold feF; first | rw [if_pos (by omega)] | rw [if_neg (by omega), if_pos (by omega)] | rw [if_neg (by omega), if_neg (by omega), if_pos (by omega)] | rw [if_neg (by omega), if_neg (by omega), if_neg (by omega), if_pos (by omega)] | rw [if_neg (by omega), if_neg (by omega), if_neg (by omega), if_neg (by omega)])
    all_goals congr 1; omega
  · rw [show (380 : Int32) = nI 380 from rfl, nI_leI (by omega) (by omega)] at c
    unfold wX11_feed
    rw [show (9 : Int32).toNatClampNeg = 9 from rfl, R.tlen, show nI w.tlen + 20 = nI (w.tlen + 20) from nI_add _ 20]
    exact ⟨v9, ip_F (by rw [show (400 : Int32) = nI 400 from rfl, nI_leI (by omega) (by omega)]; omega) (hK _ w.tlen _ _ (Ok.same W R))⟩
