/-! PURE LEVEL 36: the reference reads a term -/
def RT (b : Nat → Nat) (L i : Nat) (nx wh to nu sg wd : Int32) : Prop := nx = nI (NO b L (i + 1)) ∧ wh = nI (PLo b L i) ∧ RTk b L (NO b L i) to nu sg wd
def stA (al : Nat → Int32) (p : Nat) : Nat → Int32 := upd (upd al 10 1) 11 (nI p)
def AcR (a : Nat) (l : List Int32) (ra ra' : Nat → Int32) : Prop := (∀ k, k < 3 * a → ra' k = ra k) ∧ ∀ k, k < l.length → StepR (l.getD k 0) (ra' (3 * (a + k))) (ra' (3 * (a + k) + 1)) (ra' (3 * (a + k) + 2))
theorem AcR.nil {a : Nat} {ra : Nat → Int32} : AcR a [] ra ra := ⟨fun _ _ => rfl, fun k hk => absurd hk (by simp)⟩
theorem AcR.app {a : Nat} {l1 l2 : List Int32} {r0 r1 r2 : Nat → Int32} (h : AcR a l1 r0 r1) (k : AcR (a + l1.length) l2 r1 r2) : AcR a (l1 ++ l2) r0 r2 := by
  refine ⟨fun j hj => (k.1 j (by omega)).trans (h.1 j hj), fun j hj => ?_⟩
  rw [List.length_append] at hj
  by_cases c : j < l1.length
  · rw [k.1 _ (by omega), k.1 _ (by omega), k.1 _ (by omega)]
    have e : (l1 ++ l2).getD j 0 = l1.getD j 0 := by simp [List.getD_eq_getElem?_getD, List.getElem?_append_left c]
    rw [e]
    exact h.2 j c
  · have e := k.2 (j - l1.length) (by omega)
    rw [show a + l1.length + (j - l1.length) = a + j by omega] at e
    have e' : (l1 ++ l2).getD j 0 = l2.getD (j - l1.length) 0 := by simp [List.getD_eq_getElem?_getD, List.getElem?_append_right (Nat.le_of_not_lt c)]
    rw [e']
    exact e
def em3 (ra : Nat → Int32) (a : Nat) (x y z : Int32) : Nat → Int32 := upd (upd (upd ra (3 * a) x) (3 * a + 1) y) (3 * a + 2) z
theorem AcR.one {a : Nat} {ra : Nat → Int32} {s x y z : Int32} (h : StepR s x y z) : AcR a [s] ra (em3 ra a x y z) := by
  refine ⟨fun k hk => ?_, fun k hk => ?_⟩
  · unfold em3
    rw [pk_un (by omega), pk_un (by omega), pk_un (by omega)]
  · have : k = 0 := by
      have : k < 1 := hk
      omega
    subst this
    have e0 : em3 ra a x y z (3 * a) = x := by unfold em3; rw [pk_un (by omega), pk_un (by omega), pk_us]
    have e1 : em3 ra a x y z (3 * a + 1) = y := by unfold em3; rw [pk_un (by omega), pk_us]
    have e2 : em3 ra a x y z (3 * a + 2) = z := by unfold em3; rw [pk_us]
    show StepR s (em3 ra a x y z (3 * a)) (em3 ra a x y z (3 * a + 1)) (em3 ra a x y z (3 * a + 2))
    rw [e0, e1, e2]
    exact h
theorem m_emit {Q : Int32 → (Nat → Int32) → Prop} {x y z : Int32} {a : Nat} {ra : Nat → Int32} (ha : a < 260) (h : Q (nI (a + 1)) (em3 ra a x y z)) : wX11_emit Q x y z (nI a) ra := by
  unfold wX11_emit
  rw [show (3 : Int32) * nI a = nI (3 * a) from by rw [ip_lit, pk_mul], show nI (3 * a) + 1 = nI (3 * a + 1) from nI_add _ 1, show nI (3 * a) + 2 = nI (3 * a + 2) from nI_add _ 2, nI_clamp (by omega), nI_clamp (by omega), nI_clamp (by omega), nI_1]
  exact ⟨vp_in_nI (by omega) (by omega), vp_in_nI (by omega) (by omega), vp_in_nI (by omega) (by omega), h⟩
theorem wordR_inj : ∀ x, x < 20 → ∀ y, y < 20 → wordR x = wordR y → x = y := by decide +kernel
theorem wordR_lt : ∀ x, x < 20 → wordR x < 40 ∧ (wordR x ≤ 12 ↔ x ≤ 12) := by decide +kernel
theorem m_adv {Q : Int32 → Int32 → Int32 → Int32 → Int32 → Int32 → Prop} {b : Nat → Nat} {L i : Nat} {al : Nat → Int32} {nx wh to nu sg wd : Int32} (H : BY b L (fun p => al (10340 + p))) (R : RT b L i nx wh to nu sg wd) (h : ∀ nx' wh' to' nu' sg' wd', RT b L (i + 1) nx' wh' to' nu' sg' wd' → Q nx' wh' to' nu' sg' wd') : wX11_advance Q (nI L) nx wh to nu sg wd al := by
  obtain ⟨e1, -, -⟩ := R
  subst e1
  exact m_advance H (NO_le _) (fun to' nu' sg' wd' q => h _ _ _ _ _ _ ⟨rfl, rfl, q⟩)
theorem m_takes {Q : Int32 → Int32 → Int32 → Int32 → Int32 → Int32 → Int32 → Prop} {b : Nat → Nat} {L i j : Nat} {al : Nat → Int32} {nx wh to nu sg wd : Int32} (H : BY b L (fun p => al (10340 + p))) (R : RT b L i nx wh to nu sg wd) (hj : j < 20) (h1 : TKo b L i = j → ∀ nx' wh' to' nu' sg' wd', RT b L (i + 1) nx' wh' to' nu' sg' wd' → Q 1 nx' wh' to' nu' sg' wd') (h0 : TKo b L i ≠ j → Q 0 nx wh to nu sg wd) : wX11_takesWord Q (nI (wordR j)) (nI L) nx wh to nu sg wd 0 al := by
  have hw := (wordR_lt j hj).1
  unfold wX11_takesWord wX11_isWord
  refine ip_T' rfl ?_
  rcases R.2.2 with ⟨t, e⟩ | ⟨t, e, -⟩ | ⟨t, e, -⟩ | ⟨t, e, ew⟩ | ⟨t, e⟩
  · exact ip_F' (by rw [e]; decide) (ip_T' rfl (h0 (by unfold TKo; omega)))
  · exact ip_F' (by rw [e]; decide) (ip_T' rfl (h0 (by unfold TKo; omega)))
  · exact ip_F' (by rw [e]; decide) (ip_T' rfl (h0 (by unfold TKo; omega)))
  · refine ip_T' e ?_
    have hw2 := (wordR_lt _ t).1
    subst ew
    rw [nI_eq (by omega) (by omega)]
    refine ip_split' (fun c => ip_F' (by decide) (m_adv H R (h1 (wordR_inj _ t j hj c)))) (fun c => ip_T' rfl ?_)
    exact h0 (fun q => c (by unfold TKo at q; rw [q]))
  · exact ip_F' (by rw [e]; decide) (ip_T' rfl (h0 (by unfold TKo; omega)))
theorem m_takesW {Q : Int32 → Int32 → Int32 → Int32 → Int32 → Int32 → Int32 → Prop} {x L nx wh to nu sg wd : Int32} {al : Nat → Int32} (h : Q 0 nx wh to nu sg wd) : wX11_takesWord Q x L nx wh to nu sg wd 1 al := by
  unfold wX11_takesWord wX11_isWord
  exact ip_F' (by decide) (ip_T' rfl h)
theorem m_sign {Q : Int32 → Prop} {b : Nat → Nat} {L i c : Nat} {nx wh to nu sg wd : Int32} (R : RT b L i nx wh to nu sg wd) (hc : isSgn c) (h : Q (bI (TKo b L i = c))) : wX11_isSign Q (nI c) to sg 0 := by
  unfold wX11_isSign
  refine ip_T' rfl ?_
  have no : TKo b L i ≠ c → Q 0 := fun n => by rw [bI_F n] at h; exact h
  rcases R.2.2 with ⟨t, e⟩ | ⟨t, e, -⟩ | ⟨t, e, es⟩ | ⟨t, e, -⟩ | ⟨t, e⟩
  · exact ip_F' (by rw [e]; decide) (no (by unfold TKo; omega))
  · exact ip_F' (by rw [e]; decide) (no (by unfold TKo; omega))
  · refine ip_T' e ?_
    rw [es, nI_eq (by omega) (by omega)]
    refine ip_split' (fun q => ?_) (fun q => no q)
    rw [bI_T (show TKo b L i = c from q)] at h
    exact h
  · exact ip_F' (by rw [e]; decide) (no (by unfold TKo; omega))
  · exact ip_F' (by rw [e]; decide) (no (by unfold TKo; omega))
theorem m_stops {Q : Int32 → (Nat → Int32) → Prop} {al : Nat → Int32} {p : Nat} (h : Q 1 (stA al p)) : wX11_stops Q (nI p) 0 al := by
  unfold wX11_stops
  exact ip_T rfl ⟨ip_in 10 _ rfl (by omega) (by omega), ip_in 11 _ rfl (by omega) (by omega), h⟩
theorem m_stopsW {Q : Int32 → (Nat → Int32) → Prop} {al : Nat → Int32} {p : Int32} (h : Q 1 al) : wX11_stops Q p 1 al := by
  unfold wX11_stops
  exact ip_F (by decide) h
def Bd (b : Nat → Nat) (L a i a' k : Nat) : Prop := 2 * a' + PLo b L i ≤ 2 * a + PLo b L k
def MR (b : Nat → Nat) (L n : Nat) (al : Nat → Int32) (op : Int32) (E : Nat → PR) (C : (Int32 → Int32 → Int32 → Int32 → Int32 → Int32 → Int32 → Int32 → Int32 → (Nat → Int32) → (Nat → Int32) → Prop) → Int32 → Int32 → Int32 → Int32 → Int32 → Int32 → Int32 → (Nat → Int32) → Prop) : Prop :=
  ∀ (Q : Int32 → Int32 → Int32 → Int32 → Int32 → Int32 → Int32 → Int32 → Int32 → (Nat → Int32) → (Nat → Int32) → Prop) (i a : Nat) (ra : Nat → Int32) (nx wh to nu sg wd : Int32), i ≤ n → 2 * a ≤ PLo b L i → RT b L i nx wh to nu sg wd →
    ((E i).1 = true → ∀ nx' wh' to' nu' sg' wd' ra', RT b L (E i).2.1 nx' wh' to' nu' sg' wd' → AcR a (E i).2.2 ra ra' → Bd b L a i (a + (E i).2.2.length) (E i).2.1 → Q nx' wh' to' nu' sg' wd' 0 op (nI (a + (E i).2.2.length)) ra' al) →
    ((E i).1 = false → ∀ nx' wh' to' nu' sg' wd' op' a' ra', Bd b L a i a' (E i).2.1 → Q nx' wh' to' nu' sg' wd' 1 op' (nI a') ra' (stA al (PLo b L (E i).2.1))) → C Q nx wh to nu sg wd (nI a) ra
theorem m_base {b : Nat → Nat} {L n : Nat} {al : Nat → Int32} {op : Int32} {T : Nat → PR} {RA : (Int32 → Int32 → Int32 → Int32 → Int32 → Int32 → Int32 → Int32 → Int32 → (Nat → Int32) → (Nat → Int32) → Prop) → Int32 → Int32 → Int32 → Int32 → Int32 → Int32 → Int32 → Int32 → Int32 → Int32 → (Nat → Int32) → (Nat → Int32) → Prop} (H : BY b L (fun p => al (10340 + p))) (En : Ed n (TKo b L)) (hv : ∀ j, VLo b L j < 10000) (hTg : Pg n T) (hT : MR b L n al op T (fun Q nx wh to nu sg wd ac ra => RA Q (nI L) nx wh to nu sg wd 0 op ac ra al)) : MR b L n al op (baseP (TKo b L) (VLo b L) T) (fun Q nx wh to nu sg wd ac ra => wX11_atom RA Q (nI L) nx wh to nu sg wd 0 op ac ra al) := by
  have hL := H.1
  intro Q i a ra nx wh to nu sg wd hi ha R qT qF
  have pli := (PL_le (b := b) (L := L) (i := i)).2
  have pls := PL_s (b := b) (L := L) (i := i)
  have pls1 := PL_s (b := b) (L := L) (i := i + 1)
  have pls2 := PL_s (b := b) (L := L) (i := i + 2)
  have stop48 : cmpP (TKo b L) (VLo b L) i = (false, i, []) → TKo b L i ≠ 40 → wX11_atom_48 RA Q (nI L) nx wh to nu sg wd 0 op (nI a) ra al := fun e ne => by
    unfold wX11_atom_48
    rw [R.2.1]
    refine m_stops ?_
    unfold baseP at qF
    rw [if_neg ne, e] at qF
    have key := qF rfl nx (nI (PLo b L i)) to nu sg wd op a ra (Nat.le_refl _)
    exact key
  unfold wX11_atom
  refine m_sign R (c := 40) (Or.inl rfl) ?_
  by_cases c : TKo b L i = 40
  · rw [bI_T c]
    unfold baseP at qT qF
    rw [if_pos c] at qT qF
    unfold parP at qT qF
    have l1 := En.lt hi (by omega)
    obtain ⟨p1, p2, p3⟩ := hTg (i + 1) (by omega)
    refine ip_F (by decide) (m_adv H R (fun nx1 wh1 to1 nu1 sg1 wd1 R1 => hT _ (i + 1) a ra nx1 wh1 to1 nu1 sg1 wd1 (by omega) (by omega) R1 (fun e nx2 wh2 to2 nu2 sg2 wd2 ra2 R2 A2 B2 => ?_) (fun e nx2 wh2 to2 nu2 sg2 wd2 op2 a2 ra2 B2 => ?_)))
    · rw [if_pos e] at qT qF
      unfold wX11_must
      refine m_sign R2 (c := 41) (Or.inr (Or.inl rfl)) ?_
      by_cases d : TKo b L (T (i + 1)).2.1 = 41
      · rw [bI_T d]
        rw [if_pos d] at qT
        have plk := PL_s (b := b) (L := L) (i := (T (i + 1)).2.1)
        unfold Bd at B2 qT
        exact ip_F (by decide) (m_adv H R2 (fun nx3 wh3 to3 nu3 sg3 wd3 R3 => qT rfl nx3 wh3 to3 nu3 sg3 wd3 ra2 R3 A2 (by show 2 * (a + (T (i + 1)).2.2.length) + PLo b L i ≤ 2 * a + PLo b L ((T (i + 1)).2.1 + 1); omega)))
      · rw [bI_F d]
        rw [if_neg d] at qF
        refine ip_T rfl ?_
        rw [R2.2.1]
        unfold Bd at B2
        exact m_stops (qF rfl nx2 _ to2 nu2 sg2 wd2 op _ ra2 (by show 2 * (a + (T (i + 1)).2.2.length) + PLo b L i ≤ 2 * a + PLo b L (T (i + 1)).2.1; omega))
    · rw [if_neg (by rw [e]; simp)] at qF
      unfold wX11_must wX11_isSign
      unfold Bd at B2
      refine ip_F' (by decide) (ip_T rfl (m_stopsW (qF rfl nx2 wh2 to2 nu2 sg2 wd2 op2 a2 ra2 (by show 2 * a2 + PLo b L i ≤ 2 * a + PLo b L (T (i + 1)).2.1; omega))))
  · rw [bI_F c]
    refine ip_T rfl (ip_T' rfl ?_)
    rcases R.2.2 with ⟨t, e⟩ | ⟨t, e, -⟩ | ⟨t, e, -⟩ | ⟨t, e, ew⟩ | ⟨t, e⟩
    · exact ip_F' (by rw [e]; decide) (stop48 (by unfold cmpP; rw [if_neg (by unfold TKo; omega)]) c)
    · exact ip_F' (by rw [e]; decide) (stop48 (by unfold cmpP; rw [if_neg (by unfold TKo; omega)]) c)
    · exact ip_F' (by rw [e]; decide) (stop48 (by unfold cmpP; rw [if_neg (by unfold TKo; omega)]) c)
    · refine ip_T' e ?_
      have t20 : TKo b L i < 20 := t
      have hw := wordR_lt _ t20
      have ew' : wd = nI (wordR (TKo b L i)) := ew
      subst ew'
      rw [show (12 : Int32) = nI 12 from rfl, nI_leI (by omega) (by omega), hw.2]
      refine ip_split (fun w12 => ?_) (fun w12 => ?_)
      · unfold baseP at qT qF
        rw [if_neg c] at qT qF
        unfold cmpP at qT qF
        rw [if_pos w12] at qT qF
        have l1 := En.lt hi (by omega)
        refine m_adv H R (fun nx1 wh1 to1 nu1 sg1 wd1 R1 => ?_)
        have ok94 : (TKo b L (i + 1) = 60 ∨ TKo b L (i + 1) = 61 ∨ TKo b L (i + 1) = 62) → wX11_atom_94 RA Q (nI (wordR (TKo b L i))) (nI L) nx1 wh1 to1 nu1 sg1 wd1 0 op (nI a) ra al := by
          intro d
          rw [if_pos d] at qT qF
          have l2 := En.lt (i := i + 1) (by omega) (by omega)
          have es : sg1 = nI (TKo b L (i + 1)) := by
            rcases R1.2.2 with ⟨t, e⟩ | ⟨t, e, -⟩ | ⟨t, e, es⟩ | ⟨t, e, -⟩ | ⟨t, e⟩
            · exfalso; unfold TKo at d; omega
            · exfalso; unfold TKo at d; omega
            · exact es
            · exfalso; unfold TKo at d; omega
            · exfalso; unfold TKo at d; omega
          unfold wX11_atom_94
          refine m_adv H R1 (fun nx2 wh2 to2 nu2 sg2 wd2 R2 => ?_)
          unfold wX11_numbered wX11_numbered_27
          refine ip_T' rfl ?_
          have a260 : a < 260 := by omega
          have nonum : TKo b L (i + 2) ≠ 256 → wX11_stops (fun f_wrong_1 r_all_2 => wX11_emit (fun f_acts_18 r_act_19 => Q nx2 wh2 to2 nu2 sg2 wd2 f_wrong_1 op f_acts_18 r_act_19 r_all_2) (nI (wordR (TKo b L i))) sg1 nu2 (nI a) ra) wh2 0 al := by
            intro ne
            rw [if_neg ne] at qF
            rw [R2.2.1]
            refine m_stops (m_emit a260 ?_)
            exact qF rfl nx2 _ to2 nu2 sg2 wd2 op (a + 1) _ (by
              show 2 * (a + 1) + PLo b L i ≤ 2 * a + PLo b L (i + 2)
              have h1 := pls.2.2 t20
              have h2 : PLo b L (i + 1) ≤ PLo b L (i + 2) := pls1.1
              omega)
          have num : TKo b L (i + 2) = 256 → nu2 = nI (VLo b L (i + 2)) → wX11_advance (fun f_next_5 f_where_6 f_token_7 f_number_8 f_sign_9 f_word_10 => wX11_emit (fun f_acts_18 r_act_19 => Q f_next_5 f_where_6 f_token_7 f_number_8 f_sign_9 f_word_10 0 op f_acts_18 r_act_19 al) (nI (wordR (TKo b L i))) sg1 nu2 (nI a) ra) (nI L) nx2 wh2 to2 nu2 sg2 wd2 al := by
            intro en enu
            rw [if_pos en] at qT
            refine m_adv H R2 (fun nx3 wh3 to3 nu3 sg3 wd3 R3 => m_emit a260 ?_)
            have sr : StepR (nI (TKo b L i * 4194304 + TKo b L (i + 1) * 16384 + VLo b L (i + 2))) (nI (wordR (TKo b L i))) sg1 nu2 := Or.inr (Or.inr (Or.inr ⟨TKo b L i, TKo b L (i + 1), VLo b L (i + 2), w12, by omega, by have := hv (i + 2); omega, rfl, rfl, es, enu⟩))
            exact qT rfl nx3 wh3 to3 nu3 sg3 wd3 _ R3 (AcR.one sr) (by
              show 2 * (a + 1) + PLo b L i ≤ 2 * a + PLo b L (i + 3)
              have h1 := pls.2.2 t20
              have h2 : PLo b L (i + 1) ≤ PLo b L (i + 2) := pls1.1
              have h3 : PLo b L (i + 2) ≤ PLo b L (i + 3) := pls2.1
              omega)
          rcases R2.2.2 with ⟨t, e⟩ | ⟨t, e, enu⟩ | ⟨t, e, -⟩ | ⟨t, e, -⟩ | ⟨t, e⟩
          · exact ip_F' (by rw [e]; decide) (nonum (by show tkO b L (NO b L (i + 1 + 1)) ≠ 256; omega))
          · exact ip_T' e (num t enu)
          · exact ip_F' (by rw [e]; decide) (nonum (by show tkO b L (NO b L (i + 1 + 1)) ≠ 256; omega))
          · exact ip_F' (by rw [e]; decide) (nonum (by show tkO b L (NO b L (i + 1 + 1)) ≠ 256; omega))
          · exact ip_F' (by rw [e]; decide) (nonum (by show tkO b L (NO b L (i + 1 + 1)) ≠ 256; omega))
        refine m_sign R1 (c := 61) (by omega) ?_
        by_cases d1 : TKo b L (i + 1) = 61
        · rw [bI_T d1]; exact ip_F' (by decide) (ok94 (by omega))
        · rw [bI_F d1]
          refine ip_T' rfl (m_sign R1 (c := 60) (by omega) ?_)
          by_cases d2 : TKo b L (i + 1) = 60
          · rw [bI_T d2]; exact ip_F' (by decide) (ok94 (by omega))
          · rw [bI_F d2]
            refine ip_T' rfl (m_sign R1 (c := 62) (by omega) ?_)
            by_cases d3 : TKo b L (i + 1) = 62
            · rw [bI_T d3]; exact ip_F' (by decide) (ok94 (by omega))
            · rw [bI_F d3]
              refine ip_T' rfl ?_
              rw [if_neg (by omega)] at qF
              rw [R1.2.1]
              exact m_stops (qF rfl nx1 _ to1 nu1 sg1 wd1 op a ra (by
                show 2 * a + PLo b L i ≤ 2 * a + PLo b L (i + 1)
                have := pls.1
                omega))
      · exact stop48 (by unfold cmpP; rw [if_neg w12]) c
    · exact ip_F' (by rw [e]; decide) (stop48 (by unfold cmpP; rw [if_neg (by unfold TKo; omega)]) c)
