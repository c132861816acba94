/-! PURE LEVEL 25: what an order of passages costs -/
def cw (frm takes worth : Nat → Int32) (x1 : Int32) (t : Nat → Nat) : Nat → Nat → Int32 → Int32 → Int32 → Int32
  | 0, _, c, _, _ => c
  | m + 1, i, c, f1, f2 =>
    if x1 = 2 ∧ ¬ f1 ≤ f2 then cw frm takes worth x1 t m (i + 1) (c + worth (t i) * ((if f2 ≤ frm (t i) then frm (t i) else f2) - frm (t i))) f1 ((if f2 ≤ frm (t i) then frm (t i) else f2) + takes (t i))
    else cw frm takes worth x1 t m (i + 1) (c + worth (t i) * ((if f1 ≤ frm (t i) then frm (t i) else f1) - frm (t i))) ((if f1 ≤ frm (t i) then frm (t i) else f1) + takes (t i)) f2
theorem mx_eq (a b : Int32) : (if a < b then b else a) = if b ≤ a then a else b := by
  by_cases c : a < b
  · rw [if_pos c, if_neg (by rw [ip_leI]; rw [ip_ltI] at c; omega)]
  · rw [if_neg c, if_pos (by rw [ip_leI]; rw [ip_ltI] at c; omega)]
theorem c_waiting_loop {Q : Int32 → Prop} {frm takes worth tried : Nat → Int32} {x1 : Int32} {t : Nat → Nat} {n : Nat} (hn : n ≤ 6) (ht : ∀ k, k < n → tried k = nI (t k) ∧ t k < 6) : ∀ (m i : Nat) (c f1 f2 : Int32), i + m = n → Q (cw frm takes worth x1 t m i c f1 f2) → wX0_waiting_10 Q (m + 1) x1 c f1 f2 (nI i) (nI n) frm takes tried worth := by
  intro m
  induction m with
  | zero =>
    intro i c f1 f2 hi h
    exact ip_T (nI_le (by omega) (by omega)) h
  | succ m ih =>
    intro i c f1 f2 hi h
    obtain ⟨e, h6⟩ := ht i (by omega)
    refine ip_F (nI_ge (by omega) (by omega)) ⟨vp_in_nI (by omega) (by omega), ?_⟩
    rw [nI_clamp (by omega), e]
    have v := vp_in_nI h6 (show 6 < 2 ^ 31 by omega)
    unfold cw at h
    have first : ¬ (x1 = 2 ∧ ¬ f1 ≤ f2) → wX0_waiting_43 Q (wX0_waiting_10 Q (m + 1)) x1 c f1 f2 (nI i) (nI (t i)) (nI n) frm takes tried worth := fun n0 => by
      rw [if_neg n0] at h
      unfold wX0_waiting_43 wX0_waiting_44 wX0_waiting_64 wX0_waiting_121
      rw [nI_clamp (by omega), mx_eq, nI_1]
      exact ⟨v, ip_T rfl ⟨v, v, ip_T rfl ⟨v, ih (i + 1) _ _ _ (by omega) h⟩⟩⟩
    refine ip_split' (fun c2 => ip_split (fun d => first (fun q => q.2 d)) (fun d => ?_)) (fun c2 => first (fun q => c2 q.1))
    rw [if_pos ⟨c2, d⟩] at h
    unfold wX0_waiting_44 wX0_waiting_64 wX0_waiting_121
    rw [nI_clamp (by omega), mx_eq, mx_eq, nI_1]
    exact ⟨v, ip_F (by decide) ⟨v, v, ip_F (by decide) ⟨v, ih (i + 1) _ _ _ (by omega) h⟩⟩⟩
theorem c_waiting {Q : Int32 → Prop} {frm takes worth tried : Nat → Int32} {x1 : Int32} {t : Nat → Nat} {n : Nat} (hn : n ≤ 6) (ht : ∀ k, k < n → tried k = nI (t k) ∧ t k < 6) (h : Q (cw frm takes worth x1 t n 0 0 0 0)) : wX0_waiting Q x1 (nI n) frm takes tried worth :=
  ⟨n + 1, c_waiting_loop hn ht n 0 0 0 0 (by omega) h⟩
theorem m_costs_loop {Q : Int32 → Prop} {om : Nat → Option OR} {all tried : Nat → Int32} {w : WH} (W : WfW w) (R : RW om all w) {x1 : Int32} {t : Nat → Nat} (ht : ∀ k, k < w.psize → tried k = nI (t k) ∧ t k < w.psize) : ∀ (m i : Nat) (c f1 f2 : Int32), i + m = w.psize → Q (cw w.frm w.takes w.worth x1 t m i c f1 f2) → wX11_costs_10 Q (m + 1) x1 f1 f2 c (nI i) all tried := by
  have hp := W.psize
  have v7 := ip_in (x := 7) 7 53700 rfl (by omega) (by omega)
  intro m
  induction m with
  | zero =>
    intro i c f1 f2 hi h
    refine ⟨v7, ip_T ?_ h⟩
    rw [show (7 : Int32).toNatClampNeg = 7 from rfl, R.psize]
    exact nI_le (by omega) (by omega)
  | succ m ih =>
    intro i c f1 f2 hi h
    obtain ⟨e, h6⟩ := ht i (by omega)
    refine ⟨v7, ip_F ?_ ⟨vp_in_nI (by omega) (by omega), ?_⟩⟩
    · rw [show (7 : Int32).toNatClampNeg = 7 from rfl, R.psize]
      exact nI_ge (by omega) (by omega)
    rw [nI_clamp (by omega), e]
    have ea : (20 : Int32) + 3 * nI (t i) = nI (20 + 3 * t i) := by simp only [ip_lit, pk_mul, nI_add]
    rw [ea]
    have v0 := vp_in_nI (show 20 + 3 * t i < 53700 by omega) (by omega)
    have va := vp_in_nI (show 20 + 3 * t i + 1 < 53700 by omega) (by omega)
    have vb := vp_in_nI (show 20 + 3 * t i + 2 < 53700 by omega) (by omega)
    have e1 : nI (20 + 3 * t i) + 1 = nI (20 + 3 * t i + 1) := nI_add _ 1
    have e2 : nI (20 + 3 * t i) + 2 = nI (20 + 3 * t i + 2) := nI_add _ 2
    unfold cw at h
    have st : ∀ (s0 : Int32) (x7 : Int32), (x7 = 0 → Q (cw w.frm w.takes w.worth x1 t m (i + 1) (c + w.worth (t i) * ((if s0 ≤ w.frm (t i) then w.frm (t i) else s0) - w.frm (t i))) ((if s0 ≤ w.frm (t i) then w.frm (t i) else s0) + w.takes (t i)) f2)) → (¬ x7 = 0 → Q (cw w.frm w.takes w.worth x1 t m (i + 1) (c + w.worth (t i) * ((if s0 ≤ w.frm (t i) then w.frm (t i) else s0) - w.frm (t i))) f1 ((if s0 ≤ w.frm (t i) then w.frm (t i) else s0) + w.takes (t i)))) → wX11_costs_63 Q (wX11_costs_10 Q (m + 1)) x1 f1 f2 c (nI i) (nI (20 + 3 * t i)) x7 s0 all tried := by
      intro s0 x7 q0 q1
      have k89 : ∀ s : Int32, s = (if s0 ≤ w.frm (t i) then w.frm (t i) else s0) → wX11_costs_89 Q (wX11_costs_10 Q (m + 1)) x1 f1 f2 c (nI i) (nI (20 + 3 * t i)) x7 s all tried := by
        intro s hs
        subst hs
        unfold wX11_costs_89 wX11_costs_150
        rw [e1, e2, nI_clamp (by omega), nI_clamp (by omega), nI_clamp (by omega), R.frm _ h6, R.takes _ h6, R.worth _ h6, nI_1]
        exact ⟨vb, v0, ip_split (fun z => ⟨va, ih (i + 1) _ _ _ (by omega) (q0 z)⟩) (fun z => ⟨va, ih (i + 1) _ _ _ (by omega) (q1 z)⟩)⟩
      unfold wX11_costs_63
      rw [nI_clamp (by omega), R.frm _ h6]
      exact ⟨v0, ip_split (fun z => ⟨v0, k89 _ (by rw [if_pos z])⟩) (fun z => k89 _ (by rw [if_neg z]))⟩
    have first : ¬ (x1 = 2 ∧ ¬ f1 ≤ f2) → wX11_costs_50 Q (wX11_costs_10 Q (m + 1)) x1 f1 f2 c (nI i) (nI (20 + 3 * t i)) all tried := fun n0 => by
      rw [if_neg n0] at h
      exact ip_T rfl (st f1 0 (fun _ => h) (fun z => absurd rfl z))
    refine ip_split' (fun c2 => ip_split (fun d => first (fun q => q.2 d)) (fun d => ?_)) (fun c2 => first (fun q => c2 q.1))
    rw [if_pos ⟨c2, d⟩] at h
    exact ip_F (by decide) (st f2 1 (fun z => absurd z (by decide)) (fun _ => h))
theorem m_costs {Q : Int32 → Prop} {om : Nat → Option OR} {all tried : Nat → Int32} {w : WH} (W : WfW w) (R : RW om all w) {x1 : Int32} {t : Nat → Nat} (ht : ∀ k, k < w.psize → tried k = nI (t k) ∧ t k < w.psize) (h : Q (cw w.frm w.takes w.worth x1 t w.psize 0 0 0 0)) : wX11_costs Q x1 all tried :=
  ⟨w.psize + 1, m_costs_loop W R ht w.psize 0 0 0 0 (by omega) h⟩
/-- a cost is no negative number -/
theorem cw_pos {w : WH} (W : WfW w) {x1 : Int32} {t : Nat → Nat} (ht : ∀ k, k < w.psize → t k < w.psize) : ∀ (m i : Nat) (cN aN bN : Nat), i + m = w.psize → aN ≤ 1000 + 100 * i → bN ≤ 1000 + 100 * i → cN ≤ 200000 * i → ∃ q : Nat, q ≤ 1200000 ∧ cw w.frm w.takes w.worth x1 t m i (nI cN) (nI aN) (nI bN) = nI q := by
  have hp := W.psize
  intro m
  induction m with
  | zero =>
    intro i cN aN bN hi h1 h2 h3
    exact ⟨cN, by omega, rfl⟩
  | succ m ih =>
    intro i cN aN bN hi h1 h2 h3
    have h6 := ht i (by omega)
    obtain ⟨f, hf, ef⟩ := W.frm (t i) h6
    obtain ⟨tk, htk, et⟩ := W.takes (t i) h6
    obtain ⟨wo, hwo, ewo⟩ := W.worth (t i) h6
    have mx : ∀ a : Nat, a ≤ 1000 + 100 * i → ∃ z : Nat, f ≤ z ∧ z ≤ 1000 + 100 * i ∧ (if nI a ≤ w.frm (t i) then w.frm (t i) else nI a) = nI z := by
      intro a ha
      rw [ef]
      by_cases c : a ≤ f
      · rw [if_pos ((nI_leI (by omega) (by omega)).mpr c)]; exact ⟨f, by omega, by omega, rfl⟩
      · rw [if_neg (fun q => c ((nI_leI (by omega) (by omega)).mp q))]; exact ⟨a, by omega, ha, rfl⟩
    have co : ∀ z : Nat, f ≤ z → z ≤ 1000 + 100 * i → ∃ q : Nat, q ≤ 200000 * (i + 1) ∧ nI cN + w.worth (t i) * (nI z - w.frm (t i)) = nI q := by
      intro z h4 h5
      rw [ef, ewo, pk_sub h4, pk_mul, nI_add]
      refine ⟨cN + wo * (z - f), ?_, rfl⟩
      have : wo * (z - f) ≤ 100 * 1600 := Nat.mul_le_mul hwo (by omega)
      omega
    unfold cw
    by_cases c : x1 = 2 ∧ ¬ nI aN ≤ nI bN
    · rw [if_pos c]
      obtain ⟨z, z1, z2, ez⟩ := mx bN h2
      rw [ez]
      obtain ⟨q, q1, eq⟩ := co z z1 z2
      rw [eq, et, nI_add]
      exact ih (i + 1) q aN (z + tk) (by omega) (by omega) (by omega) q1
    · rw [if_neg c]
      obtain ⟨z, z1, z2, ez⟩ := mx aN h1
      rw [ez]
      obtain ⟨q, q1, eq⟩ := co z z1 z2
      rw [eq, et, nI_add]
      exact ih (i + 1) q (z + tk) bN (by omega) (by omega) (by omega) q1
def isOrd (n : Nat) (t : Nat → Nat) : Prop := (∀ k, k < n → t k < n) ∧ ∀ j k, j < k → k < n → t j ≠ t k
theorem m_isOrder_loop {Q : Int32 → (Nat → Int32) → Prop} {om : Nat → Option OR} {all tried : Nat → Int32} {w : WH} (W : WfW w) (R : RW om all w) {t : Nat → Nat} (ht : ∀ k, k < w.psize → tried k = nI (t k) ∧ t k < 8) (h1 : isOrd w.psize t → ∀ met', Q 1 met') (h0 : ¬ isOrd w.psize t → ∀ met', Q 0 met') : ∀ (m i : Nat) (met : Nat → Int32), i + m = w.psize → (∀ k, k < i → t k < w.psize) → (∀ j k, j < k → k < i → t j ≠ t k) → (∀ p, p < 8 → (met p = 0 ∨ met p = 1)) → (∀ p, p < 8 → (¬ met p = 0 ↔ ∃ k, k < i ∧ t k = p)) → wX11_isOrder_25 Q (m + 2) 1 (nI i) all met tried := by
  have hp := W.psize
  have v7 := ip_in (x := 7) 7 53700 rfl (by omega) (by omega)
  have e7 : all (7 : Int32).toNatClampNeg = nI w.psize := by rw [show (7 : Int32).toNatClampNeg = 7 from rfl, R.psize]
  intro m
  induction m with
  | zero =>
    intro i met hi a1 a2 a3 a4
    have e : i = w.psize := by omega
    subst e
    exact ⟨v7, ip_T (by rw [e7]; exact nI_le (Nat.le_refl _) (by omega)) ⟨rfl, h1 ⟨a1, a2⟩ met⟩⟩
  | succ m ih =>
    intro i met hi a1 a2 a3 a4
    obtain ⟨e, h8⟩ := ht i (by omega)
    have vi := vp_in_nI (show i < 6 by omega) (by omega)
    have vt := vp_in_nI h8 (show 8 < 2 ^ 31 by omega)
    refine ⟨v7, ip_F (by rw [e7]; exact nI_ge (by omega) (by omega)) (ip_F (by decide) ⟨vi, v7, ?_⟩)⟩
    rw [e7, nI_clamp (by omega), e, nI_clamp (by omega), nI_leI (by omega) (by omega)]
    have bad : ¬ isOrd w.psize t → wX11_isOrder_74 Q (wX11_isOrder_25 Q (m + 2)) (nI i) all met tried := fun nb => by
      unfold wX11_isOrder_74 wX11_isOrder_75
      rw [nI_clamp (by omega), e, nI_1]
      refine ⟨vi, vt, v7, ip_split (fun _ => ⟨rfl, h0 nb _⟩) (fun _ => ip_T rfl ⟨rfl, h0 nb _⟩)⟩
    refine ip_split (fun c => bad (fun q => absurd (q.1 i (by omega)) (by omega))) (fun c => ⟨vi, vt, ip_split' (fun d => ?_) (fun d => bad (fun q => ?_))⟩)
    · unfold wX11_isOrder_75
      rw [nI_clamp (by omega), e, nI_clamp (by omega), nI_1, ip_nb (Or.inr rfl)]
      have fresh : ∀ k, k < i → t k ≠ t i := fun k hk q => ((a4 (t i) h8).mpr ⟨k, hk, q⟩) d
      refine ⟨vi, vt, ih (i + 1) _ (by omega) (fun k hk => ?_) (fun j k hjk hk => ?_) (fun p hp8 => ?_) (fun p hp8 => ?_)⟩
      · by_cases q : k = i
        · subst q; omega
        · exact a1 k (by omega)
      · by_cases q : k = i
        · subst q; exact fresh j hjk
        · exact a2 j k hjk (by omega)
      · by_cases q : p = t i
        · subst q; rw [pk_us]; exact Or.inr rfl
        · rw [pk_un q]; exact a3 p hp8
      · by_cases q : p = t i
        · subst q; rw [pk_us]; exact ⟨fun _ => ⟨i, by omega, rfl⟩, fun _ => by decide⟩
        · rw [pk_un q, a4 p hp8]
          refine ⟨fun ⟨k, x, y⟩ => ⟨k, by omega, y⟩, fun ⟨k, x, y⟩ => ⟨k, ?_, y⟩⟩
          by_cases z : k = i
          · subst z; exact absurd y.symm q
          · omega
    · obtain ⟨k, hk, ek⟩ := (a4 (t i) h8).mp d
      exact q.2 k i hk (by omega) ek
theorem m_isOrder {Q : Int32 → (Nat → Int32) → Prop} {om : Nat → Option OR} {all met tried : Nat → Int32} {w : WH} (W : WfW w) (R : RW om all w) {t : Nat → Nat} (ht : ∀ k, k < w.psize → tried k = nI (t k) ∧ t k < 8) (h1 : isOrd w.psize t → ∀ met', Q 1 met') (h0 : ¬ isOrd w.psize t → ∀ met', Q 0 met') : wX11_isOrder Q all met tried := by
  refine ⟨9, ?_⟩
  have lp : ∀ (m i : Nat), i + m = 8 → wX11_isOrder_2 Q (m + 1) (nI i) all (rF met 0 i fun _ => 0) tried := by
    intro m
    induction m with
    | zero =>
      intro i hi
      have e : i = 8 := by omega
      subst e
      refine ip_T (by decide) ⟨w.psize + 2, m_isOrder_loop W R ht h1 h0 w.psize 0 _ (by omega) (fun k hk => absurd hk (by omega)) (fun j k _ hk => absurd hk (by omega)) (fun p hp => Or.inl (rF_in (by omega) (by omega))) (fun p hp => ⟨fun q => absurd (rF_in (by omega) (by omega)) q, fun ⟨k, hk, _⟩ => absurd hk (by omega)⟩)⟩
    | succ m ih =>
      intro i hi
      refine ip_F (nI_ge (a := i) (b := 8) (by omega) (by omega)) ⟨vp_in_nI (by omega) (by omega), ?_⟩
      rw [nI_clamp (by omega), nI_1, ip_nb (Or.inl rfl), rF_succ0 (f := met) (F := fun _ => (0 : Int32)) rfl]
      exact ih (i + 1) (by omega)
  have := lp 8 0 (by omega)
  rw [rF_0] at this
  exact this
