/-! PURE LEVEL 23: blocks of the reference's row; ahead -/
def cpA (all : Nat → Int32) (f t : Nat) : Nat → Int32 := rF all (10740 * t) 10740 (fun i => all (10740 * f + (i - 10740 * t)))
theorem ip_copies {Q : (Nat → Int32) → Prop} {all : Nat → Int32} {f t : Nat} (hf : f < 5) (ht : t < 5) (hn : f ≠ t) (h : Q (cpA all f t)) : wX11_copies Q (nI f) (nI t) all := by
  refine ⟨10741, ?_⟩
  have lp : ∀ (m i : Nat), i + m = 10740 → wX11_copies_2 Q (m + 1) (nI f) (nI t) (nI i) (rF all (10740 * t) i (fun i => all (10740 * f + (i - 10740 * t)))) := by
    intro m
    induction m with
    | zero =>
      intro i hi
      have e : i = 10740 := by omega
      subst e
      exact ip_T (by decide) h
    | succ m ih =>
      intro i hi
      refine ip_F (nI_ge (a := i) (b := 10740) (by omega) (by omega)) ?_
      rw [show (10740 : Int32) * nI f + nI i = nI (10740 * f + i) from by simp only [ip_lit, pk_mul, nI_add], show (10740 : Int32) * nI t + nI i = nI (10740 * t + i) from by simp only [ip_lit, pk_mul, nI_add], nI_clamp (by omega), nI_clamp (by omega), nI_1]
      refine ⟨vp_in_nI (by omega) (by omega), vp_in_nI (by omega) (by omega), ?_⟩
      have e : rF all (10740 * t) i (fun i => all (10740 * f + (i - 10740 * t))) (10740 * f + i) = all (10740 * f + i) := rF_out (by omega)
      rw [e, rF_succ (F := fun i => all (10740 * f + (i - 10740 * t))) (by rw [show 10740 * t + i - 10740 * t = i by omega])]
      exact ih (i + 1) (by omega)
  have := lp 10740 0 (by omega)
  rw [rF_0] at this
  exact this
theorem cpA_in {all : Nat → Int32} {f t i : Nat} (hi : i < 10740) : cpA all f t (10740 * t + i) = all (10740 * f + i) := by
  unfold cpA
  rw [rF_in (by omega) (by omega), show 10740 * t + i - 10740 * t = i by omega]
theorem cpA_out {all : Nat → Int32} {f t i : Nat} (hi : i < 10740 * t ∨ 10740 * t + 10740 ≤ i) : cpA all f t i = all i := rF_out hi
/-- what an answer about the hours to come is, of a gulf that came out of g -/
def GU.fore (g g' : GU) (s wh : Nat) : Int32 := if wh = 4 then sumN g'.level 64 else if wh = 5 then sumN g'.ridged 64 else if wh = 0 then nI (g'.pl s / 8) else if wh = 1 then nI (g'.pl s % 8) else if wh = 2 then g'.fuel s else g'.moved s - g.moved s
theorem m_ahead_end {om : Nat → Option OR} {Q : Int32 → (Nat → Int32) → (Nat → Int32) → (Nat → Int32) → (Nat → Int32) → Prop} {all all1 co le pi : Nat → Int32} {w : WH} (W : WfW w) (R : RW om all w) {g' : GU} {wh s : Nat} {y2 : Int32} (hwh : wh ≤ 5) (hs : wh ≤ 3 → s < w.g.size ∧ y2 = nI s) (sz : g'.size = w.g.size) (ok : OkG om (cpA all 0 4) g' all1) (h : ∀ all', Ok om all w all' → Q (w.g.fore g' s wh) all' co le pi) : ((¬ nI wh = (4 : Int32) → ((¬ nI wh = (5 : Int32) → ((¬ nI wh = 0 → ((¬ nI wh = (1 : Int32) → ((¬ nI wh = (2 : Int32) → (wX11_its (fun r_10 => (wX11_ahead_131 Q y2 (nI wh) r_10 all1 co le pi)) y2 (5 : Int32) all1)) ∧ (nI wh = (2 : Int32) → (wX11_its (fun r_11 => (wX11_ahead_131 Q y2 (nI wh) r_11 all1 co le pi)) y2 (1 : Int32) all1)))) ∧ (nI wh = (1 : Int32) → (wX11_its (fun r_12 => (wX11_ahead_131 Q y2 (nI wh) r_12 all1 co le pi)) y2 (3 : Int32) all1)))) ∧ (nI wh = 0 → (wX11_its (fun r_13 => (wX11_ahead_131 Q y2 (nI wh) r_13 all1 co le pi)) y2 (2 : Int32) all1)))) ∧ (nI wh = (5 : Int32) → (wX11_iceOf (fun r_14 => (wX11_ahead_131 Q y2 (nI wh) r_14 all1 co le pi)) (2 : Int32) all1)))) ∧ (nI wh = (4 : Int32) → (wX11_iceOf (fun r_15 => (wX11_ahead_131 Q y2 (nI wh) r_15 all1 co le pi)) (1 : Int32) all1))) := by
  have s8 := W.g.s8
  have back : ∀ i, i < 42960 → cpA all1 4 0 i = all i := by
    intro i hi
    by_cases c : i < 10740
    · have h1 := cpA_in (all := all1) (f := 4) (t := 0) c
      have h2 := cpA_in (all := all) (f := 0) (t := 4) c
      rw [Nat.mul_zero, Nat.zero_add] at h1
      rw [Nat.mul_zero, Nat.zero_add] at h2
      rw [h1, ok.2.2 _ (by omega), h2]
    · rw [cpA_out (by omega), ok.2.2 _ (by omega), cpA_out (by omega)]
  have ok' : Ok om all w (cpA all1 4 0) := ⟨W, R.congr W (fun i hi => back i (by omega)), fun i hi => back i hi.2⟩
  have out : ∀ v : Int32, wh ≠ 3 → v = w.g.fore g' s wh → wX11_ahead_131 Q y2 (nI wh) v all1 co le pi := by
    intro v h3 hv
    unfold wX11_ahead_131
    refine ip_copies (f := 4) (t := 0) (by omega) (by omega) (by omega) (ip_F' (by rw [show (3 : Int32) = nI 3 from rfl, nI_eq (by omega) (by omega)]; exact h3) ?_)
    subst hv
    exact h _ ok'
  have its : ∀ (P : Int32 → Prop) (z : Nat) (x : Int32), wh ≤ 3 → z < 12 → all1 (360 + 12 * s + z) = x → P x → wX11_its P y2 (nI z) all1 := by
    intro P z x h3 hz e hp
    obtain ⟨h1, h2⟩ := hs h3
    subst h2
    exact ip_its s z (by omega) hz (by rw [e]; exact hp)
  have hwh' : wh = 0 ∨ wh = 1 ∨ wh = 2 ∨ wh = 3 ∨ wh = 4 ∨ wh = 5 := by omega
  rcases hwh' with e | e | e | e | e | e <;> subst e
  · obtain ⟨h1, h2⟩ := hs (by omega)
    exact ip_F' (by decide) (ip_F' (by decide) (ip_T' (by decide) (its _ 2 _ (by omega) (by omega) (ok.2.1.prow s (by rw [sz]; exact h1)) (out _ (by omega) rfl))))
  · obtain ⟨h1, h2⟩ := hs (by omega)
    exact ip_F' (by decide) (ip_F' (by decide) (ip_F' (by decide) (ip_T' (by decide) (its _ 3 _ (by omega) (by omega) (ok.2.1.pcol s (by rw [sz]; exact h1)) (out _ (by omega) rfl)))))
  · obtain ⟨h1, h2⟩ := hs (by omega)
    exact ip_F' (by decide) (ip_F' (by decide) (ip_F' (by decide) (ip_F' (by decide) (ip_T' (by decide) (its _ 1 _ (by omega) (by omega) (ok.2.1.fuel s (by rw [sz]; exact h1)) (out _ (by omega) rfl))))))
  · obtain ⟨h1, h2⟩ := hs (by omega)
    refine ip_F' (by decide) (ip_F' (by decide) (ip_F' (by decide) (ip_F' (by decide) (ip_F' (by decide) (its _ 5 _ (by omega) (by omega) (ok.2.1.moved s (by rw [sz]; exact h1)) ?_)))))
    unfold wX11_ahead_131
    refine ip_copies (f := 4) (t := 0) (by omega) (by omega) (by omega) (ip_T' (by decide) ?_)
    subst h2
    refine ip_its s 5 (by omega) (by omega) ?_
    rw [back _ (by omega), R.g.moved s h1]
    exact h _ ok'
  · exact ip_T' (by decide) (ip_ice1 ok.1 ok.2.1 (out _ (by omega) rfl))
  · exact ip_F' (by decide) (ip_T' (by decide) (ip_ice2 ok.1 ok.2.1 (out _ (by omega) rfl)))
theorem m_ahead {om : Nat → Option OR} {Q : Int32 → (Nat → Int32) → (Nat → Int32) → (Nat → Int32) → (Nat → Int32) → Prop} {all co le pi : Nat → Int32} {w : WH} (W : WfW w) (R : RW om all w) {gf : GU} (A : AgG w.g gf) {wh s j : Nat} {y2 : Int32} (hwh : wh ≤ 5) (hs : wh ≤ 3 → s < w.g.size ∧ y2 = nI s) (h1 : 1 ≤ j) (h2 : j ≤ 100) (hj : w.g.hour + j ≤ 1000) (h : ∀ all' co' le' pi', Ok om all w all' → Q (w.g.fore (hrN om gf j) s wh) all' co' le' pi') : wX11_ahead Q (nI j) y2 (nI wh) all co le pi := by
  have s8 := W.g.s8
  have Wf' : Wf gf := W.g.ag A
  have Rc : Rg om (cpA all 0 4) w.g := R.g.congr s8 (fun i hi => cpA_out (by omega))
  have Rf : Rg om (cpA all 0 4) gf := Rc.ag W.g A
  obtain ⟨⟨a1, a2, a3, a4, a5, a6, a7⟩, -, -, -⟩ := id A
  have body : wX11_ahead_33 Q (nI j) y2 (nI wh) all co le pi := by
    unfold wX11_ahead_33
    refine ip_copies (f := 0) (t := 4) (by omega) (by omega) (by omega) ⟨j + 1, ?_⟩
    have lp : ∀ (m i : Nat), i + m = j → ∀ all1 co1 le1 pi1, OkG om (cpA all 0 4) (hrN om gf i) all1 → wX11_ahead_42 Q (m + 1) (nI j) y2 (nI wh) (nI i) all1 co1 le1 pi1 := by
      intro m
      induction m with
      | zero =>
        intro i hi all1 co1 le1 pi1 ok
        have e : i = j := by omega
        subst e
        refine ip_T (nI_le (Nat.le_refl _) (by omega)) ?_
        exact m_ahead_end W R hwh hs ((hrN_same i).2.2.1.trans a3) ok (fun all' ok' => h all' co1 le1 pi1 ok')
      | succ m ih =>
        intro i hi all1 co1 le1 pi1 ok
        refine ip_F (nI_ge (by omega) (by omega)) (m_hour ok.1 ok.2.1 (by rw [hrN_hour, a4]; omega) (fun all2 co2 le2 pi2 ok2 => ?_))
        rw [nI_1]
        exact ih (i + 1) (by omega) all2 co2 le2 pi2 (ok.trans ok2)
    exact lp j 0 (by omega) _ co le pi (OkG.same Wf' Rf)
  unfold wX11_ahead
  refine m_mayGo W.g R.g (fun no => absurd (no j h1 h2 rfl) (by omega)) (fun _ _ _ _ _ => ip_F (by decide) (p_isIn.mpr (ip_F ?_ ?_)))
  · intro q
    rw [show (0 : Int32) = nI 0 from rfl, show (5 : Int32) = nI 5 from rfl, show nI 0 = (0 : Int32) from rfl] at q
    rw [inI_nz, show (0 : Int32) = nI 0 from rfl, nI_ltI (by omega) (by omega), nI_ltI (by omega) (by omega)] at q
    omega
  · rw [show (4 : Int32) = nI 4 from rfl, nI_leI (by omega) (by omega)]
    refine ip_split (fun _ => body) (fun c => ?_)
    obtain ⟨k1, k2⟩ := hs (by omega)
    exact ip_isShip W.g R.g (fun n => (no_ship (by omega) n k1 k2).elim) (fun _ _ _ => ip_F' (by decide) body)
theorem m_ahead_no {om : Nat → Option OR} {Q : Int32 → (Nat → Int32) → (Nat → Int32) → (Nat → Int32) → (Nat → Int32) → Prop} {all co le pi : Nat → Int32} {w : WH} (W : WfW w) (R : RW om all w) {y1 y2 y3 : Int32} (h : Q (-2) all co le pi) (c : (∀ j : Nat, 1 ≤ j → j ≤ 100 → y1 = nI j → 1000 < w.g.hour + j) ∨ inI y3 0 5 = 0 ∨ (∃ wh : Nat, wh ≤ 3 ∧ y3 = nI wh) ∧ (y2 < 0 ∨ nI w.g.size ≤ y2)) : wX11_ahead Q y1 y2 y3 all co le pi := by
  have s8 := W.g.s8
  unfold wX11_ahead
  refine m_mayGo W.g R.g (fun no => ip_T rfl h) (fun j h1 h2 e hj => ip_F (by decide) (p_isIn.mpr (ip_split (fun _ => h) (fun n => ?_))))
  rcases c with c | c | ⟨⟨wh, hw, ew⟩, c⟩
  · exact absurd (c j h1 h2 e) (by omega)
  · exact absurd c n
  · subst ew
    refine ip_F (by rw [show (4 : Int32) = nI 4 from rfl, nI_leI (by omega) (by omega)]; omega) ?_
    exact ip_isShip W.g R.g (fun _ => ip_T' rfl h) (fun s hs e => (no_ship (by omega) c hs e).elim)
