/-! PURE LEVEL 38: a line, in both -/
abbrev LR : Type := Bool × Nat × List Int32 × Nat × Nat
def enP (tk : Nat → Nat) (k : Nat) (st : List Int32) (w nu : Nat) : LR := if tk k = 59 then (true, k + 1, st, w, nu) else (false, k, [], 0, 0)
def acP (tk vl : Nat → Nat) (j : Nat) (st : List Int32) : LR := if tk j < 4 ∨ tk j = 13 ∨ tk j = 14 ∨ tk j = 15 then (if tk j = 15 then (if tk (j + 1) = 256 then enP tk (j + 2) st (tk j) (vl (j + 1)) else (false, j + 1, [], 0, 0)) else enP tk (j + 1) st (tk j) 0) else (false, j, [], 0, 0)
def lnP (tk vl : Nat → Nat) (i : Nat) : LR := if tk i = 16 then (if (tmP tk vl 8 (i + 1)).1 = true then (if tk (tmP tk vl 8 (i + 1)).2.1 = 58 then acP tk vl ((tmP tk vl 8 (i + 1)).2.1 + 1) (tmP tk vl 8 (i + 1)).2.2 else (false, (tmP tk vl 8 (i + 1)).2.1, [], 0, 0)) else (false, (tmP tk vl 8 (i + 1)).2.1, [], 0, 0)) else acP tk vl i []
def isActN (x : Nat) : Prop := x < 4 ∨ x = 13 ∨ x = 14 ∨ x = 15
theorem en_pg {n : Nat} {tk : Nat → Nat} (H : Ed n tk) {k w nu : Nat} {st : List Int32} (hk : k ≤ n) : k ≤ (enP tk k st w nu).2.1 ∧ (enP tk k st w nu).2.1 ≤ n ∧ ((enP tk k st w nu).1 = true → (enP tk k st w nu).2.1 = k + 1 ∧ (enP tk k st w nu).2.2 = (st, w, nu)) := by
  unfold enP
  by_cases c : tk k = 59
  · have l1 := H.lt hk (by omega)
    rw [if_pos c]
    exact ⟨by show k ≤ k + 1; omega, by show k + 1 ≤ n; omega, fun _ => ⟨rfl, rfl⟩⟩
  · rw [if_neg c]
    exact ⟨Nat.le_refl _, hk, fun q => absurd q (by simp)⟩
theorem ac_pg {n : Nat} {tk vl : Nat → Nat} (H : Ed n tk) (hv : ∀ j, vl j < 10000) {j : Nat} {st : List Int32} (hj : j ≤ n) : j ≤ (acP tk vl j st).2.1 ∧ (acP tk vl j st).2.1 ≤ n ∧ ((acP tk vl j st).1 = true → j + 2 ≤ (acP tk vl j st).2.1 ∧ (acP tk vl j st).2.2.1 = st ∧ isActN (acP tk vl j st).2.2.2.1 ∧ (acP tk vl j st).2.2.2.2 < 10000) := by
  unfold acP
  by_cases c : tk j < 4 ∨ tk j = 13 ∨ tk j = 14 ∨ tk j = 15
  · have l1 := H.lt hj (by omega)
    rw [if_pos c]
    by_cases d : tk j = 15
    · rw [if_pos d]
      by_cases e : tk (j + 1) = 256
      · have l2 := H.lt (i := j + 1) (by omega) (by omega)
        rw [if_pos e]
        obtain ⟨p1, p2, p3⟩ := en_pg H (k := j + 2) (st := st) (w := tk j) (nu := vl (j + 1)) (by omega)
        refine ⟨by omega, p2, fun q => ?_⟩
        obtain ⟨q1, q2⟩ := p3 q
        rw [q1, q2]
        exact ⟨by omega, rfl, c, hv _⟩
      · rw [if_neg e]
        exact ⟨by show j ≤ j + 1; omega, by show j + 1 ≤ n; omega, fun q => absurd q (by simp)⟩
    · rw [if_neg d]
      obtain ⟨p1, p2, p3⟩ := en_pg H (k := j + 1) (st := st) (w := tk j) (nu := 0) (by omega)
      refine ⟨by omega, p2, fun q => ?_⟩
      obtain ⟨q1, q2⟩ := p3 q
      rw [q1, q2]
      exact ⟨by omega, rfl, c, by show 0 < 10000; omega⟩
  · rw [if_neg c]
    exact ⟨Nat.le_refl _, hj, fun q => absurd q (by simp)⟩
theorem ln_pg {n : Nat} {tk vl : Nat → Nat} (H : Ed n tk) (hv : ∀ j, vl j < 10000) (htk : ∀ j, tk j < 1000) {i : Nat} (hi : i ≤ n) : i ≤ (lnP tk vl i).2.1 ∧ (lnP tk vl i).2.1 ≤ n ∧ ((lnP tk vl i).1 = true → i + 2 ≤ (lnP tk vl i).2.1 ∧ i + (lnP tk vl i).2.2.1.length ≤ (lnP tk vl i).2.1 ∧ isActN (lnP tk vl i).2.2.2.1 ∧ (lnP tk vl i).2.2.2.2 < 10000 ∧ ((lnP tk vl i).2.2.1 = [] ∨ depL (lnP tk vl i).2.2.1 0 = some 1)) := by
  unfold lnP
  by_cases c : tk i = 16
  · have l1 := H.lt hi (by omega)
    rw [if_pos c]
    obtain ⟨a1, a2, a3⟩ := tm_pg (vl := vl) H 8 (i + 1) (by omega)
    by_cases d : (tmP tk vl 8 (i + 1)).1 = true
    · rw [if_pos d]
      obtain ⟨a4, a5⟩ := a3 d
      by_cases e : tk (tmP tk vl 8 (i + 1)).2.1 = 58
      · have l2 := H.lt a2 (by omega)
        rw [if_pos e]
        obtain ⟨p1, p2, p3⟩ := ac_pg H hv (j := (tmP tk vl 8 (i + 1)).2.1 + 1) (st := (tmP tk vl 8 (i + 1)).2.2) (by omega)
        refine ⟨by omega, p2, fun q => ?_⟩
        obtain ⟨q1, q2, q3, q4⟩ := p3 q
        rw [q2]
        exact ⟨by omega, by omega, q3, q4, Or.inr (dp_tm hv htk 8 (i + 1) 0 (by omega) d)⟩
      · rw [if_neg e]
        exact ⟨by show i ≤ (tmP tk vl 8 (i + 1)).2.1; omega, a2, fun q => absurd q (by simp)⟩
    · rw [if_neg d]
      exact ⟨by show i ≤ (tmP tk vl 8 (i + 1)).2.1; omega, a2, fun q => absurd q (by simp)⟩
  · rw [if_neg c]
    obtain ⟨p1, p2, p3⟩ := ac_pg H hv (j := i) (st := []) hi
    refine ⟨p1, p2, fun q => ?_⟩
    obtain ⟨q1, q2, q3, q4⟩ := p3 q
    rw [q2]
    exact ⟨by omega, by show i + 0 ≤ _; omega, q3, q4, Or.inl rfl⟩
def kp (m : Nat) (f : Nat → Int32) (x : Int32) : Nat → Int32 := if m < 20 then upd f m x else f
theorem c_isAct {Q : Int32 → Prop} {x : Nat} (hx : x < 1000) (h : Q (bI (x < 4 ∨ x = 13 ∨ x = 14 ∨ x = 15))) : wX9_isAct Q (nI x) := by
  unfold wX9_isAct wX9_isAct_9 wX9_isAct_27
  have lit : ∀ z : Nat, z < 256 → ((nI x = nI z) ↔ x = z) := fun z hz => nI_eq (by omega) (by omega)
  refine ip_F (nI_pos (by omega)) ?_
  rw [show (3 : Int32) = nI 3 from rfl, nI_leI (by omega) (by omega)]
  refine ip_split (fun c => ?_) (fun c => ip_split (fun d => ?_) (fun d1 => ip_split (fun d => ?_) (fun d2 => ip_split' (fun d => ?_) (fun d3 => ?_))))
  · rw [bI_T (by omega)] at h; exact h
  · have := (lit 13 (by omega)).mp d
    rw [bI_T (by omega)] at h; exact h
  · have := (lit 14 (by omega)).mp d
    rw [bI_T (by omega)] at h; exact h
  · have := (lit 15 (by omega)).mp d
    rw [bI_T (by omega)] at h; exact h
  · have e1 : x ≠ 13 := fun q => d1 ((lit 13 (by omega)).mpr q)
    have e2 : x ≠ 14 := fun q => d2 ((lit 14 (by omega)).mpr q)
    have e3 : x ≠ 15 := fun q => d3 ((lit 15 (by omega)).mpr q)
    rw [bI_F (by omega)] at h; exact h
theorem c_line28 {Q : Int32 → Int32 → Int32 → Int32 → (Nat → Int32) → (Nat → Int32) → (Nat → Int32) → (Nat → Int32) → Prop} {n : Nat} {tk vl : Nat → Nat} {tkA vlA ac en nu st : Nat → Int32} (H : Ed n tk) (htk : ∀ j, j ≤ n → tkA j = nI (tk j) ∧ tk j < 1000) (hvl : ∀ j, j ≤ n → tk j = 256 → vlA j = nI (vl j)) (hv : ∀ j, vl j < 10000) {j sn m : Nat} {l : List Int32} (hj : j ≤ n) (hm : m ≤ 400) (qT : (acP tk vl j l).1 = true → Q 1 (nI (acP tk vl j l).2.1) (nI sn) (nI (m + 1)) (kp m ac (nI (acP tk vl j l).2.2.2.1)) (kp m en (nI sn)) (kp m nu (nI (acP tk vl j l).2.2.2.2)) st) (qF : (acP tk vl j l).1 = false → Q 0 (nI (acP tk vl j l).2.1) (nI sn) (nI m) ac en nu st) : wX5_readLine_28 Q (nI (n + 1)) (nI j) (nI sn) (nI m) ac en nu st tkA vlA := by
  have hn := H.1
  unfold wX5_readLine_28
  refine c_token H htk hj (c_isAct (htk j hj).2 ?_)
  unfold acP at qT qF
  by_cases c : tk j < 4 ∨ tk j = 13 ∨ tk j = 14 ∨ tk j = 15
  · rw [bI_T c]
    rw [if_pos c] at qT qF
    have l1 := H.lt hj (by omega)
    refine ip_F' (by decide) ?_
    have fin : ∀ (k v : Nat), k ≤ n → v < 10000 → ((enP tk k l (tk j) v).1 = true → Q 1 (nI (enP tk k l (tk j) v).2.1) (nI sn) (nI (m + 1)) (kp m ac (nI (enP tk k l (tk j) v).2.2.2.1)) (kp m en (nI sn)) (kp m nu (nI (enP tk k l (tk j) v).2.2.2.2)) st) → ((enP tk k l (tk j) v).1 = false → Q 0 (nI (enP tk k l (tk j) v).2.1) (nI sn) (nI m) ac en nu st) → wX5_readLine_66 Q (nI (tk j)) (nI v) (nI (n + 1)) (nI k) (nI sn) (nI m) ac en nu st tkA vlA := by
      intro k v hk hv' gT gF
      unfold wX5_readLine_66
      unfold enP at gT gF
      refine ip_F (nI_ne_m1 (by omega)) (c_take (c := 59) H htk hk (by omega) (fun d => ip_F' (by decide) ?_) (fun d => ip_T' rfl ?_))
      · rw [if_pos d] at gT
        have key := gT rfl
        unfold wX5_keepLine wX5_keepLine_42
        unfold kp at key
        by_cases m20 : m < 20
        · rw [if_pos m20, if_pos m20, if_pos m20] at key
          have v20 := vp_in_nI m20 (show 20 < 2 ^ 31 by omega)
          refine ip_F (nI_ge (a := m) (b := 20) m20 (by omega)) ⟨v20, v20, v20, ?_⟩
          rw [nI_clamp (by omega), nI_1]
          exact key
        · rw [if_neg m20, if_neg m20, if_neg m20] at key
          refine ip_T (nI_le (a := 20) (b := m) (by omega) (by omega)) ?_
          rw [nI_1]
          exact key
      · rw [if_neg d] at gF
        exact gF rfl
    have lit : (nI (tk j) = 15) ↔ tk j = 15 := by rw [show (15 : Int32) = nI 15 from rfl]; exact nI_eq (by omega) (by omega)
    rw [nI_1]
    refine ip_split' (fun d => ?_) (fun d => ?_)
    · have d' := lit.mp d
      rw [if_pos d'] at qT qF
      refine c_takeNumber H htk hvl (by omega) (fun e => ?_) (fun e => ?_)
      · rw [if_pos e] at qT qF
        have l2 := H.lt (i := j + 1) (by omega) (by omega)
        exact fin (j + 2) (vl (j + 1)) (by omega) (hv _) qT qF
      · rw [if_neg e] at qF
        unfold wX5_readLine_66
        exact ip_T rfl (qF rfl)
    · have d' : ¬ tk j = 15 := fun q => d (lit.mpr q)
      rw [if_neg d'] at qT qF
      exact fin (j + 1) 0 (by omega) (by omega) qT qF
  · rw [bI_F c]
    rw [if_neg c] at qF
    exact ip_T' rfl (qF rfl)
theorem c_line {Q : Int32 → Int32 → Int32 → Int32 → (Nat → Int32) → (Nat → Int32) → (Nat → Int32) → (Nat → Int32) → Prop} {n : Nat} {tk vl : Nat → Nat} {tkA vlA ac en nu st : Nat → Int32} (H : Ed n tk) (htk : ∀ j, j ≤ n → tkA j = nI (tk j) ∧ tk j < 1000) (hvl : ∀ j, j ≤ n → tk j = 256 → vlA j = nI (vl j)) (hv : ∀ j, vl j < 10000) {i sn m : Nat} (hi : i ≤ n) (hsn : sn ≤ i) (hm : m ≤ 400) (qT : (lnP tk vl i).1 = true → ∀ st', SpR sn (lnP tk vl i).2.2.1 st st' → Q 1 (nI (lnP tk vl i).2.1) (nI (sn + (lnP tk vl i).2.2.1.length)) (nI (m + 1)) (kp m ac (nI (lnP tk vl i).2.2.2.1)) (kp m en (nI (sn + (lnP tk vl i).2.2.1.length))) (kp m nu (nI (lnP tk vl i).2.2.2.2)) st') (qF : (lnP tk vl i).1 = false → ∀ sn' st', Q 0 (nI (lnP tk vl i).2.1) sn' (nI m) ac en nu st') : wX5_readLine Q (nI (n + 1)) (nI i) (nI sn) (nI m) ac en nu st tkA vlA := by
  have hn := H.1
  unfold wX5_readLine
  unfold lnP at qT qF
  refine c_take (c := 16) H htk hi (by omega) (fun c => ip_F (by decide) ?_) (fun c => ip_T rfl ?_)
  · rw [if_pos c] at qT qF
    have l1 := H.lt hi (by omega)
    obtain ⟨a1, a2, a3⟩ := tm_pg (vl := vl) H 8 (i + 1) (by omega)
    refine c_term H htk hvl hv 8 (by omega) _ (i + 1) sn st (by omega) (by omega) (fun e st' S => ip_F (by decide) (c_take (c := 58) H htk a2 (by omega) (fun d => ip_F' (by decide) ?_) (fun d => ip_T' rfl ?_))) (fun e sn' st' => ip_T rfl ?_)
    · rw [if_pos e, if_pos d] at qT qF
      have l2 := H.lt a2 (by omega)
      refine c_line28 H htk hvl hv (l := (tmP tk vl 8 (i + 1)).2.2) (by omega) hm (fun q => ?_) (fun q => qF q _ _)
      have e2 := ((ac_pg H hv (j := (tmP tk vl 8 (i + 1)).2.1 + 1) (st := (tmP tk vl 8 (i + 1)).2.2) (by omega)).2.2 q).2.1
      have key := qT q st' (by rw [e2]; exact S)
      rw [e2] at key
      exact key
    · rw [if_pos e, if_neg d] at qF
      exact qF rfl _ _
    · rw [if_neg (by rw [e]; simp)] at qF
      exact qF rfl _ _
  · rw [if_neg c] at qT qF
    refine c_line28 H htk hvl hv (l := []) hi hm (fun q => ?_) (fun q => qF q _ _)
    have e2 := ((ac_pg H hv (j := i) (st := []) hi).2.2 q).2.1
    have key := qT q st (by rw [e2]; exact SpR.nil)
    rw [e2] at key
    exact key
def up4 (m : Nat) (rl : Nat → Int32) (x y z v : Int32) : Nat → Int32 := if m < 20 then upd (upd (upd (upd rl (4 * m) x) (4 * m + 1) y) (4 * m + 2) z) (4 * m + 3) v else rl
theorem m_line79 {Q : Int32 → Int32 → Int32 → Int32 → Int32 → Int32 → Int32 → Int32 → Int32 → Int32 → (Nat → Int32) → (Nat → Int32) → (Nat → Int32) → Prop} {b : Nat → Nat} {L n : Nat} {al ra rl : Nat → Int32} (H : BY b L (fun p => al (10340 + p))) (En : Ed n (TKo b L)) (hv : ∀ j, VLo b L j < 10000) {j m a a0 : Nat} {l : List Int32} {nx wh to nu sg wd op x1 x3 : Int32} (hj : j ≤ n) (hm : m ≤ 400) (hx : (x1 = 0 ∧ m < 20) ∨ (¬ x1 = 0 ∧ ¬ m < 20)) (R : RT b L j nx wh to nu sg wd)
    (qT : (acP (TKo b L) (VLo b L) j l).1 = true → ∀ nx' wh' to' nu' sg' wd', RT b L (acP (TKo b L) (VLo b L) j l).2.1 nx' wh' to' nu' sg' wd' → Q nx' wh' to' nu' sg' wd' 0 op (nI (m + 1)) (nI a) ra al (up4 m rl (if x3 = 0 then -1 else nI a0) (nI a) (nI (wordR (acP (TKo b L) (VLo b L) j l).2.2.2.1)) (nI (acP (TKo b L) (VLo b L) j l).2.2.2.2)))
    (qF : (acP (TKo b L) (VLo b L) j l).1 = false → ∀ nx' wh' to' nu' sg' wd' ln' rl', Q nx' wh' to' nu' sg' wd' 1 op ln' (nI a) ra (stA al (PLo b L (acP (TKo b L) (VLo b L) j l).2.1)) rl') : wX11_aLine_79 Q x1 (nI a0) x3 (nI L) nx wh to nu sg wd 0 op (nI m) (nI a) ra al rl := by
  unfold wX11_aLine_79
  refine ip_T' rfl ?_
  have stop : acP (TKo b L) (VLo b L) j l = (false, j, [], 0, 0) → wX11_aLine_122 Q (nI L) nx wh to nu sg wd 0 op (nI m) (nI a) ra al rl := fun e => by
    rw [e] at qF
    unfold wX11_aLine_122
    rw [R.2.1]
    exact m_stops (qF rfl nx _ to nu sg wd _ _)
  have noact : ¬ (TKo b L j < 4 ∨ TKo b L j = 13 ∨ TKo b L j = 14 ∨ TKo b L j = 15) → acP (TKo b L) (VLo b L) j l = (false, j, [], 0, 0) := fun q => by unfold acP; rw [if_neg q]
  rcases R.2.2 with ⟨t, e⟩ | ⟨t, e, -⟩ | ⟨t, e, -⟩ | ⟨t, e, ew⟩ | ⟨t, e⟩
  · exact ip_F' (by rw [e]; decide) (stop (noact (by unfold TKo; omega)))
  · exact ip_F' (by rw [e]; decide) (stop (noact (by unfold TKo; omega)))
  · exact ip_F' (by rw [e]; decide) (stop (noact (by unfold TKo; omega)))
  · refine ip_T' e ?_
    have t20 : TKo b L j < 20 := t
    have ew' : wd = nI (wordR (TKo b L j)) := ew
    have hw40 := (wordR_lt _ t20).1
    have l1 := En.lt hj (by omega)
    have i1 : (inI wd 8 11 ≠ 0 ↔ TKo b L j < 4) := by
      rw [ew', Ne, inI_nz, show (8 : Int32) = nI 8 from rfl, show (11 : Int32) = nI 11 from rfl, nI_ltI (by omega) (by omega), nI_ltI (by omega) (by omega)]
      unfold wordR
      split <;> (try split) <;> (try split) <;> (try split) <;> omega
    have i2 : (inI wd 24 26 ≠ 0 ↔ (TKo b L j = 13 ∨ TKo b L j = 14 ∨ TKo b L j = 15)) := by
      rw [ew', Ne, inI_nz, show (24 : Int32) = nI 24 from rfl, show (26 : Int32) = nI 26 from rfl, nI_ltI (by omega) (by omega), nI_ltI (by omega) (by omega)]
      unfold wordR
      split <;> (try split) <;> (try split) <;> (try split) <;> omega
    have go : (TKo b L j < 4 ∨ TKo b L j = 13 ∨ TKo b L j = 14 ∨ TKo b L j = 15) → wX11_aLine_127 Q x1 (nI a0) x3 (nI L) nx wh to nu sg wd 0 op (nI m) (nI a) ra al rl := by
      intro c
      unfold acP at qT qF
      rw [if_pos c] at qT qF
      unfold wX11_aLine_127
      refine m_adv H R (fun nx1 wh1 to1 nu1 sg1 wd1 R1 => ?_)
      have lines : ∀ (al' : Nat → Int32) (wr' : Int32) (v : Nat) (nx' wh' to' nu' sg' wd' : Int32), (∀ rl', rl' = up4 m rl (if x3 = 0 then -1 else nI a0) (nI a) wd (nI v) → Q nx' wh' to' nu' sg' wd' wr' op (nI (m + 1)) (nI a) ra al' rl') → ((¬ x1 = 0 → wX11_aLine_231 Q (nI L) nx' wh' to' nu' sg' wd' wr' op (nI m) (nI a) ra al' rl) ∧ (x1 = 0 → (x3 = 0 → wX11_aLine_183 Q wd (nI v) (4 * nI m) (-1) (nI L) nx' wh' to' nu' sg' wd' wr' op (nI m) (nI a) ra al' rl) ∧ (¬ x3 = 0 → wX11_aLine_183 Q wd (nI v) (4 * nI m) (nI a0) (nI L) nx' wh' to' nu' sg' wd' wr' op (nI m) (nI a) ra al' rl))) := by
        intro al' wr' v nx' wh' to' nu' sg' wd' hq
        have key := hq _ rfl
        unfold up4 at key
        unfold wX11_aLine_183 wX11_aLine_231
        rcases hx with ⟨x0, m20⟩ | ⟨x0, m20⟩
        · rw [if_pos m20] at key
          have e4 : (4 : Int32) * nI m = nI (4 * m) := by rw [ip_lit, pk_mul]
          rw [e4, show nI (4 * m) + 1 = nI (4 * m + 1) from nI_add _ 1, show nI (4 * m) + 2 = nI (4 * m + 2) from nI_add _ 2, show nI (4 * m) + 3 = nI (4 * m + 3) from nI_add _ 3, nI_clamp (by omega), nI_clamp (by omega), nI_clamp (by omega), nI_clamp (by omega), nI_1]
          have v0 := vp_in_nI (show 4 * m < 80 by omega) (by omega)
          have va := vp_in_nI (show 4 * m + 1 < 80 by omega) (by omega)
          have vb := vp_in_nI (show 4 * m + 2 < 80 by omega) (by omega)
          have vc := vp_in_nI (show 4 * m + 3 < 80 by omega) (by omega)
          refine ip_T' x0 (ip_split (fun z => ⟨v0, va, vb, vc, ?_⟩) (fun z => ⟨v0, va, vb, vc, ?_⟩))
          · rw [if_pos z] at key; exact key
          · rw [if_neg z] at key; exact key
        · rw [if_neg m20] at key
          refine ip_F' x0 ?_
          rw [nI_1]
          exact key
      have fin : ∀ (k v : Nat) (nx' wh' to' nu' sg' wd' : Int32), RT b L k nx' wh' to' nu' sg' wd' → ((enP (TKo b L) k l (TKo b L j) v).1 = true → ∀ nx'' wh'' to'' nu'' sg'' wd'', RT b L (enP (TKo b L) k l (TKo b L j) v).2.1 nx'' wh'' to'' nu'' sg'' wd'' → Q nx'' wh'' to'' nu'' sg'' wd'' 0 op (nI (m + 1)) (nI a) ra al (up4 m rl (if x3 = 0 then -1 else nI a0) (nI a) (nI (wordR (enP (TKo b L) k l (TKo b L j) v).2.2.2.1)) (nI (enP (TKo b L) k l (TKo b L j) v).2.2.2.2))) → ((enP (TKo b L) k l (TKo b L j) v).1 = false → ∀ nx'' wh'' to'' nu'' sg'' wd'' ln'' rl'', Q nx'' wh'' to'' nu'' sg'' wd'' 1 op ln'' (nI a) ra (stA al (PLo b L (enP (TKo b L) k l (TKo b L j) v).2.1)) rl'') → wX11_aLine_152 Q x1 (nI a0) x3 wd (nI v) (nI L) nx' wh' to' nu' sg' wd' 0 op (nI m) (nI a) ra al rl := by
        intro k v nx' wh' to' nu' sg' wd' R' gT gF
        unfold wX11_aLine_152 wX11_must
        unfold enP at gT gF
        refine m_sign R' (c := 59) (by omega) ?_
        by_cases d : TKo b L k = 59
        · rw [bI_T d]
          rw [if_pos d] at gT
          refine ip_F (by decide) (m_adv H R' (fun nx2 wh2 to2 nu2 sg2 wd2 R2 => lines al 0 v nx2 wh2 to2 nu2 sg2 wd2 (fun rl' er => ?_)))
          rw [er, ew']
          exact gT rfl nx2 wh2 to2 nu2 sg2 wd2 R2
        · rw [bI_F d]
          rw [if_neg d] at gF
          refine ip_T rfl ?_
          rw [R'.2.1]
          exact m_stops (lines _ 1 v nx' _ to' nu' sg' wd' (fun rl' er => gF rfl nx' _ to' nu' sg' wd' _ rl'))
      have lit : (wd = 26) ↔ TKo b L j = 15 := by
        rw [ew', show (26 : Int32) = nI 26 from rfl, nI_eq (by omega) (by omega)]
        constructor
        · intro q; exact wordR_inj _ t20 15 (by omega) (by rw [q]; rfl)
        · intro q; rw [q]; rfl
      refine ip_split' (fun d => ?_) (fun d => ?_)
      · have d' := lit.mp d
        rw [if_pos d'] at qT qF
        unfold wX11_numbered wX11_numbered_27
        refine ip_T' rfl ?_
        have nonum : TKo b L (j + 1) ≠ 256 → wX11_stops (fun f_wrong_1 r_all_2 => wX11_aLine_152 Q x1 (nI a0) x3 wd nu1 (nI L) nx1 wh1 to1 nu1 sg1 wd1 f_wrong_1 op (nI m) (nI a) ra r_all_2 rl) wh1 0 al := by
          intro ne
          rw [if_neg ne] at qF
          rw [R1.2.1]
          refine m_stops ?_
          unfold wX11_aLine_152 wX11_must wX11_isSign
          refine ip_F' (by decide) (ip_T rfl (m_stopsW ?_))
          have hq := fun nx'' wh'' to'' nu'' sg'' wd'' ln'' rl'' => qF rfl nx'' wh'' to'' nu'' sg'' wd'' ln'' rl''
          unfold wX11_aLine_183 wX11_aLine_231
          rcases hx with ⟨x0, m20⟩ | ⟨x0, m20⟩
          · have e4 : (4 : Int32) * nI m = nI (4 * m) := by rw [ip_lit, pk_mul]
            rw [e4, show nI (4 * m) + 1 = nI (4 * m + 1) from nI_add _ 1, show nI (4 * m) + 2 = nI (4 * m + 2) from nI_add _ 2, show nI (4 * m) + 3 = nI (4 * m + 3) from nI_add _ 3]
            have v0 := vp_in_nI (show 4 * m < 80 by omega) (by omega)
            have va := vp_in_nI (show 4 * m + 1 < 80 by omega) (by omega)
            have vb := vp_in_nI (show 4 * m + 2 < 80 by omega) (by omega)
            have vc := vp_in_nI (show 4 * m + 3 < 80 by omega) (by omega)
            exact ip_T' x0 (ip_split (fun z => ⟨v0, va, vb, vc, hq _ _ _ _ _ _ _ _⟩) (fun z => ⟨v0, va, vb, vc, hq _ _ _ _ _ _ _ _⟩))
          · exact ip_F' x0 (hq _ _ _ _ _ _ _ _)
        rcases R1.2.2 with ⟨t, e⟩ | ⟨t, e, enu⟩ | ⟨t, e, -⟩ | ⟨t, e, -⟩ | ⟨t, e⟩
        · exact ip_F' (by rw [e]; decide) (nonum (by unfold TKo; omega))
        · refine ip_T' e (m_adv H R1 (fun nx2 wh2 to2 nu2 sg2 wd2 R2 => ?_))
          rw [if_pos (show TKo b L (j + 1) = 256 from t)] at qT qF
          rw [enu]
          exact fin (j + 2) (VLo b L (j + 1)) nx2 wh2 to2 nu2 sg2 wd2 R2 qT qF
        · exact ip_F' (by rw [e]; decide) (nonum (by unfold TKo; omega))
        · exact ip_F' (by rw [e]; decide) (nonum (by unfold TKo; omega))
        · exact ip_F' (by rw [e]; decide) (nonum (by unfold TKo; omega))
      · have d' : ¬ TKo b L j = 15 := fun q => d (lit.mpr q)
        rw [if_neg d'] at qT qF
        exact fin (j + 1) 0 nx1 wh1 to1 nu1 sg1 wd1 R1 qT qF
    refine p_isIn.mpr (ip_split' (fun c1 => p_isIn.mpr (ip_split' (fun c2 => stop (noact ?_)) (fun c2 => go (Or.inr (i2.mp c2))))) (fun c1 => go (Or.inl (i1.mp c1))))
    intro q
    rcases q with q | q
    · exact (i1.mpr q) c1
    · exact (i2.mpr q) c2
  · exact ip_F' (by rw [e]; decide) (stop (noact (by unfold TKo; omega)))
