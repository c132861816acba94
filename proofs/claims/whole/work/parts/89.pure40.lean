/-! PURE LEVEL 39: a line in the reference; all lines -/
theorem PL_mono {b : Nat → Nat} {L i k : Nat} (h : i ≤ k) : PLo b L i ≤ PLo b L k := by
  obtain ⟨d, rfl⟩ : ∃ d, k = i + d := ⟨k - i, by omega⟩
  clear h
  induction d with
  | zero => exact Nat.le_refl _
  | succ d ih => exact Nat.le_trans ih (PL_s (b := b) (L := L) (i := i + d)).1
theorem m_line {Q : Int32 → Int32 → Int32 → Int32 → Int32 → Int32 → Int32 → Int32 → Int32 → Int32 → (Nat → Int32) → (Nat → Int32) → (Nat → Int32) → Prop} {b : Nat → Nat} {L n : Nat} {al ra rl : Nat → Int32} (H : BY b L (fun p => al (10340 + p))) (En : Ed n (TKo b L)) (hv : ∀ j, VLo b L j < 10000) (htk : ∀ j, TKo b L j < 1000) {i m a : Nat} {nx wh to nu sg wd op x1 : Int32} (hi : i ≤ n) (hm : m ≤ 400) (ha : 2 * a ≤ PLo b L i) (hx : (x1 = 0 ∧ m < 20) ∨ (¬ x1 = 0 ∧ ¬ m < 20)) (R : RT b L i nx wh to nu sg wd)
    (qT : (lnP (TKo b L) (VLo b L) i).1 = true → ∀ nx' wh' to' nu' sg' wd' op' ra', RT b L (lnP (TKo b L) (VLo b L) i).2.1 nx' wh' to' nu' sg' wd' → AcR a (lnP (TKo b L) (VLo b L) i).2.2.1 ra ra' → Bd b L a i (a + (lnP (TKo b L) (VLo b L) i).2.2.1.length) (lnP (TKo b L) (VLo b L) i).2.1 → Q nx' wh' to' nu' sg' wd' 0 op' (nI (m + 1)) (nI (a + (lnP (TKo b L) (VLo b L) i).2.2.1.length)) ra' al (up4 m rl (if (lnP (TKo b L) (VLo b L) i).2.2.1 = [] then -1 else nI a) (nI (a + (lnP (TKo b L) (VLo b L) i).2.2.1.length)) (nI (wordR (lnP (TKo b L) (VLo b L) i).2.2.2.1)) (nI (lnP (TKo b L) (VLo b L) i).2.2.2.2)))
    (qF : (lnP (TKo b L) (VLo b L) i).1 = false → ∀ nx' wh' to' nu' sg' wd' op' ln' ac' ra' rl', Q nx' wh' to' nu' sg' wd' 1 op' ln' ac' ra' (stA al (PLo b L (lnP (TKo b L) (VLo b L) i).2.1)) rl') : wX11_aLine_48 Q x1 (nI L) nx wh to nu sg wd 0 op (nI m) (nI a) ra al rl := by
  have hL := H.1
  have pls := PL_s (b := b) (L := L) (i := i)
  unfold wX11_aLine_48
  unfold lnP at qT qF
  refine m_takes (j := 16) H R (by omega) (fun c nx1 wh1 to1 nu1 sg1 wd1 R1 => ip_F (by decide) ?_) (fun c => ip_T rfl ?_)
  · rw [if_pos c] at qT qF
    have l1 := En.lt hi (by omega)
    have h2 := pls.2.2 (by omega)
    obtain ⟨a1, a2, a3⟩ := tm_pg (vl := VLo b L) En 8 (i + 1) (by omega)
    refine m_term H En hv 8 (by omega) _ (i + 1) a ra nx1 wh1 to1 nu1 sg1 wd1 (by omega) (by omega) R1 (fun e nx2 wh2 to2 nu2 sg2 wd2 ra2 R2 A2 B2 => ?_) (fun e nx2 wh2 to2 nu2 sg2 wd2 op2 a2' ra2 B2 => ?_)
    · rw [if_pos e] at qT qF
      unfold Bd at B2
      unfold wX11_must
      refine m_sign R2 (c := 58) (by omega) ?_
      by_cases d : TKo b L (tmP (TKo b L) (VLo b L) 8 (i + 1)).2.1 = 58
      · rw [bI_T d]
        rw [if_pos d] at qT qF
        have l2 := En.lt a2 (by omega)
        have plk := PL_s (b := b) (L := L) (i := (tmP (TKo b L) (VLo b L) 8 (i + 1)).2.1)
        refine ip_F (by decide) (m_adv H R2 (fun nx3 wh3 to3 nu3 sg3 wd3 R3 => m_line79 (l := (tmP (TKo b L) (VLo b L) 8 (i + 1)).2.2) H En hv (by omega) hm hx R3 (fun q nx4 wh4 to4 nu4 sg4 wd4 R4 => ?_) (fun q nx4 wh4 to4 nu4 sg4 wd4 ln4 rl4 => qF q nx4 wh4 to4 nu4 sg4 wd4 _ ln4 _ ra2 rl4)))
        have pac := ac_pg En hv (j := (tmP (TKo b L) (VLo b L) 8 (i + 1)).2.1 + 1) (st := (tmP (TKo b L) (VLo b L) 8 (i + 1)).2.2) (by omega)
        obtain ⟨q1, e2, -, -⟩ := pac.2.2 q
        have ne : ¬ (tmP (TKo b L) (VLo b L) 8 (i + 1)).2.2 = [] := fun z => by
          have dp := dp_tm hv htk 8 (i + 1) 0 (by omega) e
          rw [z] at dp
          have dp' : some 0 = some 1 := dp
          exact absurd dp' (by simp)
        have plmono : PLo b L (tmP (TKo b L) (VLo b L) 8 (i + 1)).2.1 ≤ PLo b L (acP (TKo b L) (VLo b L) ((tmP (TKo b L) (VLo b L) 8 (i + 1)).2.1 + 1) (tmP (TKo b L) (VLo b L) 8 (i + 1)).2.2).2.1 := PL_mono (by omega)
        have key := qT q nx4 wh4 to4 nu4 sg4 wd4 (nI 0) ra2 R4 (by rw [e2]; exact A2) (by
          rw [e2]
          unfold Bd
          omega)
        rw [e2, if_neg ne] at key
        rw [if_neg (by decide)]
        exact key
      · rw [bI_F d]
        rw [if_neg d] at qF
        refine ip_T rfl ?_
        rw [R2.2.1]
        refine m_stops ?_
        unfold wX11_aLine_79 wX11_aLine_122
        exact ip_F' (by decide) (m_stopsW (qF rfl nx2 _ to2 nu2 sg2 wd2 _ _ _ ra2 rl))
    · rw [if_neg (by rw [e]; simp)] at qF
      unfold wX11_must wX11_isSign
      refine ip_F' (by decide) (ip_T rfl (m_stopsW ?_))
      unfold wX11_aLine_79 wX11_aLine_122
      exact ip_F' (by decide) (m_stopsW (qF rfl nx2 wh2 to2 nu2 sg2 wd2 op2 _ _ ra2 rl))
  · rw [if_neg c] at qT qF
    refine m_line79 (l := []) (a0 := a) H En hv hi hm hx R (fun q nx4 wh4 to4 nu4 sg4 wd4 R4 => ?_) (fun q nx4 wh4 to4 nu4 sg4 wd4 ln4 rl4 => qF q nx4 wh4 to4 nu4 sg4 wd4 _ ln4 _ ra rl4)
    have pac := ac_pg En hv (j := i) (st := []) hi
    obtain ⟨q1, e2, -, -⟩ := pac.2.2 q
    have plmono : PLo b L i ≤ PLo b L (acP (TKo b L) (VLo b L) i []).2.1 := PL_mono pac.1
    have key := qT q nx4 wh4 to4 nu4 sg4 wd4 op ra R4 (by rw [e2]; exact AcR.nil) (by
      rw [e2]
      unfold Bd
      show 2 * (a + 0) + PLo b L i ≤ _
      omega)
    rw [e2, if_pos rfl] at key
    rw [if_pos rfl]
    exact key
/-- all lines: 0, a text without a fault; 1, a fault of form at this token; 2, too many lines from this token on -/
abbrev RD : Type := Nat × Nat × List Int32 × List (Nat × Nat × Nat)
def rdP (tk vl : Nat → Nat) : Nat → Nat → List Int32 → List (Nat × Nat × Nat) → Option Nat → RD
  | 0, _, ss, ls, _ => (0, 0, ss, ls)
  | f + 1, i, ss, ls, sp => if tk i = 257 then (match sp with | none => (0, 0, ss, ls) | some p => (2, p, ss, ls)) else
    (if (lnP tk vl i).1 = true then rdP tk vl f (lnP tk vl i).2.1 (ss ++ (lnP tk vl i).2.2.1) (ls ++ [(ss.length + (lnP tk vl i).2.2.1.length, (lnP tk vl i).2.2.2.1, (lnP tk vl i).2.2.2.2)]) (if ls.length = 20 then some i else sp) else (1, (lnP tk vl i).2.1, [], []))
theorem rdP_s (tk vl : Nat → Nat) (f i : Nat) (ss : List Int32) (ls : List (Nat × Nat × Nat)) (sp : Option Nat) : rdP tk vl (f + 1) i ss ls sp = if tk i = 257 then (match sp with | none => (0, 0, ss, ls) | some p => (2, p, ss, ls)) else (if (lnP tk vl i).1 = true then rdP tk vl f (lnP tk vl i).2.1 (ss ++ (lnP tk vl i).2.2.1) (ls ++ [(ss.length + (lnP tk vl i).2.2.1.length, (lnP tk vl i).2.2.2.1, (lnP tk vl i).2.2.2.2)]) (if ls.length = 20 then some i else sp) else (1, (lnP tk vl i).2.1, [], [])) := rfl
/-- the rows hold the first lines -/
def LnC (ls : List (Nat × Nat × Nat)) (ac en nu : Nat → Int32) : Prop := ∀ k, k < ls.length → k < 20 → en k = nI (ls.getD k (0, 0, 0)).1 ∧ ac k = nI (ls.getD k (0, 0, 0)).2.1 ∧ nu k = nI (ls.getD k (0, 0, 0)).2.2
theorem getD_app1 {α : Type} {l : List α} {x d : α} {k : Nat} (h : k < l.length) : (l ++ [x]).getD k d = l.getD k d := by
  simp [List.getD_eq_getElem?_getD, List.getElem?_append_left h]
theorem getD_app2 {α : Type} {l : List α} {x d : α} : (l ++ [x]).getD l.length d = x := by
  simp [List.getD_eq_getElem?_getD]
theorem LnC.add {ls : List (Nat × Nat × Nat)} {ac en nu : Nat → Int32} {e w v : Nat} (h : LnC ls ac en nu) : LnC (ls ++ [(e, w, v)]) (kp ls.length ac (nI w)) (kp ls.length en (nI e)) (kp ls.length nu (nI v)) := by
  intro k hk h20
  rw [List.length_append] at hk
  have hk' : k < ls.length + 1 := hk
  unfold kp
  by_cases c : k = ls.length
  · subst c
    rw [if_pos h20, if_pos h20, if_pos h20, pk_us, pk_us, pk_us, getD_app2]
    exact ⟨rfl, rfl, rfl⟩
  · rw [getD_app1 (by omega)]
    by_cases d : ls.length < 20
    · rw [if_pos d, if_pos d, if_pos d, pk_un c, pk_un c, pk_un c]
      exact h k (by omega) h20
    · rw [if_neg d, if_neg d, if_neg d]
      exact h k (by omega) h20
/-- what the surplus line's place is, as the class keeps it -/
def spI (b : Nat → Nat) (L : Nat) (sp : Option Nat) : Int32 := match sp with | none => -1 | some p => nI (PLo b L p)
theorem c_read_loop {Q : Int32 → Int32 → Int32 → Int32 → Int32 → Int32 → (Nat → Int32) → (Nat → Int32) → (Nat → Int32) → (Nat → Int32) → (Nat → Int32) → (Nat → Int32) → (Nat → Int32) → Prop} {b : Nat → Nat} {L n : Nat} {tkA plA vlA by' : Nat → Int32} {X : RD} {fl : Int32} (hL : L ≤ 400) (H : Ed n (TKo b L)) (htk : ∀ j, j ≤ n → tkA j = nI (TKo b L j) ∧ TKo b L j < 1000) (hpl : ∀ j, j ≤ n → plA j = nI (PLo b L j)) (hvl : ∀ j, j ≤ n → TKo b L j = 256 → vlA j = nI (VLo b L j)) (hv : ∀ j, VLo b L j < 10000) (htk2 : ∀ j, TKo b L j < 1000)
    (h0 : ∀ at' ac en nu st, X.1 = 0 → X.2.2.1.length ≤ 400 → SpR 0 X.2.2.1 st st → LnC X.2.2.2 ac en nu → Q (nI (n + 1)) at' (nI X.2.2.1.length) (nI X.2.2.2.length) 0 (-1) ac en nu plA st tkA vlA)
    (h1 : ∀ at' sn ln ac en nu st, X.1 = 1 → Q (nI (n + 1)) at' sn ln 1 (nI (PLo b L X.2.1)) ac en nu plA st tkA vlA)
    (h2 : ∀ at' sn ln ac en nu st, X.1 = 2 → Q (nI (n + 1)) at' sn ln 2 (nI (PLo b L X.2.1)) ac en nu plA st tkA vlA) : ∀ (f i k : Nat) (ss : List Int32) (ls : List (Nat × Nat × Nat)) (sp : Option Nat) (ac en nu st : Nat → Int32), n < i + f → i ≤ n → k ≤ i → ss.length ≤ i → ls.length ≤ i → SpR 0 ss st st → LnC ls ac en nu → rdP (TKo b L) (VLo b L) f i ss ls sp = X → wX5_read_34 Q (f + 1) (spI b L sp) (nI k) fl (nI (n + 1)) (nI i) (nI ss.length) (nI ls.length) 0 (-1) by' ac en nu plA st tkA vlA := by
  have hn := H.1
  intro f
  induction f with
  | zero => intro i k ss ls sp ac en nu st a1 a2; omega
  | succ f ih =>
    intro i k ss ls sp ac en nu st a1 a2 a3 a4 a5 S LC eX
    rw [rdP_s] at eX
    have pl257 : TKo b L i = 257 → wX5_read_92 Q (spI b L sp) fl (nI (n + 1)) (nI i) (nI ss.length) (nI ls.length) 0 (-1) by' ac en nu plA st tkA vlA := by
      intro e
      rw [if_pos e] at eX
      unfold wX5_read_92
      cases sp with
      | none =>
        have eX' : ((0, 0, ss, ls) : RD) = X := eX
        subst eX'
        exact ip_T rfl (h0 _ _ _ _ _ rfl (by show ss.length ≤ 400; omega) S LC)
      | some p =>
        have eX' : ((2, p, ss, ls) : RD) = X := eX
        subst eX'
        have := (PL_le (b := b) (L := L) (i := p)).2
        exact ip_F (nI_ne_m1 (by omega)) (h2 _ _ _ _ _ _ _ rfl)
    refine ip_split (fun c400 => ?_) (fun _ => c_token H htk a2 ?_)
    · rw [show (400 : Int32) = nI 400 from rfl, nI_leI (by omega) (by omega)] at c400
      refine pl257 ?_
      have : i = n := by omega
      subst this
      exact H.2.1
    · have lit : (nI (TKo b L i) = 257) ↔ TKo b L i = 257 := by
        rw [show (257 : Int32) = nI 257 from rfl]; exact nI_eq (by have := htk2 i; omega) (by omega)
      refine ip_split (fun c => pl257 (lit.mp c)) (fun c => ?_)
      have c' : ¬ TKo b L i = 257 := fun q => c (lit.mpr q)
      rw [if_neg c'] at eX
      have l1 := H.lt a2 c'
      have body : ∀ sp' : Option Nat, sp' = (if ls.length = 20 then some i else sp) → wX5_read_65 Q (wX5_read_34 Q (f + 1)) (spI b L sp') (nI k) fl (nI (n + 1)) (nI i) (nI ss.length) (nI ls.length) 0 (-1) by' ac en nu plA st tkA vlA := by
        intro sp' esp
        rw [← esp] at eX
        unfold wX5_read_65
        obtain ⟨p1, p2, p3⟩ := ln_pg H hv htk2 (i := i) a2
        refine c_line H htk hvl hv a2 a4 (by omega) (fun e st' S' => ip_F' (by decide) ?_) (fun e sn' st' => ip_T' rfl ?_)
        · rw [if_pos e] at eX
          obtain ⟨p4, p5, p6, p7, p8⟩ := p3 e
          rw [nI_1]
          have el : ss.length + (lnP (TKo b L) (VLo b L) i).2.2.1.length = (ss ++ (lnP (TKo b L) (VLo b L) i).2.2.1).length := by rw [List.length_append]
          have el2 : ls.length + 1 = (ls ++ [(ss.length + (lnP (TKo b L) (VLo b L) i).2.2.1.length, (lnP (TKo b L) (VLo b L) i).2.2.2.1, (lnP (TKo b L) (VLo b L) i).2.2.2.2)]).length := by rw [List.length_append]; rfl
          have S2 : SpR 0 (ss ++ (lnP (TKo b L) (VLo b L) i).2.2.1) st' st' := by
            refine ⟨fun _ _ => rfl, fun j hj => ?_⟩
            rw [List.length_append] at hj
            rw [Nat.zero_add]
            by_cases q : j < ss.length
            · rw [S'.1 j q]
              have := S.2 j q
              rw [Nat.zero_add] at this
              rw [this]
              simp [List.getD_eq_getElem?_getD, List.getElem?_append_left q]
            · have := S'.2 (j - ss.length) (by omega)
              rw [show ss.length + (j - ss.length) = j by omega] at this
              rw [this]
              simp [List.getD_eq_getElem?_getD, List.getElem?_append_right (Nat.le_of_not_lt q)]
          have LC2 := LC.add (e := ss.length + (lnP (TKo b L) (VLo b L) i).2.2.1.length) (w := (lnP (TKo b L) (VLo b L) i).2.2.2.1) (v := (lnP (TKo b L) (VLo b L) i).2.2.2.2)
          have key := ih (lnP (TKo b L) (VLo b L) i).2.1 (k + 1) (ss ++ (lnP (TKo b L) (VLo b L) i).2.2.1) _ sp' _ _ _ st' (by omega) p2 (by omega) (by rw [List.length_append]; omega) (by rw [← el2]; omega) S2 LC2 eX
          rw [← el, ← el2] at key
          exact key
        · rw [if_neg (by rw [e]; simp)] at eX
          subst eX
          unfold wX5_placeHere
          refine ip_F (nI_ge (by omega) (by omega)) ⟨vp_in_nI (by omega) (by omega), ?_⟩
          rw [nI_clamp (by omega), hpl _ p2]
          exact h1 _ _ _ _ _ _ _ rfl
      have lit20 : (nI ls.length = 20) ↔ ls.length = 20 := by
        rw [show (20 : Int32) = nI 20 from rfl]; exact nI_eq (by omega) (by omega)
      refine ip_split' (fun d => ?_) (fun d => body sp (by rw [if_neg (fun q => d (lit20.mpr q))]))
      unfold wX5_placeHere
      refine ip_F (nI_ge (by omega) (by omega)) ⟨vp_in_nI (by omega) (by omega), ?_⟩
      rw [nI_clamp (by omega), hpl i a2]
      exact body (some i) (by rw [if_pos (lit20.mp d)])
