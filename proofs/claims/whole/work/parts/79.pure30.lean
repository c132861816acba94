/-! PURE LEVEL 29: turns in the reference; turns -/
def SetE (all all1 : Nat → Int32) : Prop := ∀ i, (i < 12 ∨ 18 ≤ i) → all1 i = all i
theorem SetE.rw' {om : Nat → Option OR} {all all1 : Nat → Int32} {w : WH} (W : WfW w) (R : RW om all w) (h : SetE all all1) : RW om all1 ((w.g, w.tlen, w.tape, w.fault, w.place, w.psize, w.frm, w.takes, w.worth, w.ssize, (fun k => all1 (12 + k))) : WH) := by
  have hp := W.psize
  exact RW.mk' (k_g := R.g.congr W.g.s8 (fun i hi => h i (by omega))) (k_tlen := (h _ (by omega)).trans R.tlen) (k_tape := fun i hi => (h _ (by omega)).trans (R.tape i hi)) (k_fault := (h _ (by omega)).trans R.fault) (k_place := (h _ (by omega)).trans R.place) (k_psize := (h _ (by omega)).trans R.psize) (k_frm := fun k hk => (h _ (by omega)).trans (R.frm k hk)) (k_takes := fun k hk => (h _ (by omega)).trans (R.takes k hk)) (k_worth := fun k hk => (h _ (by omega)).trans (R.worth k hk)) (k_ssize := (h _ (by omega)).trans R.ssize) (k_settled := fun k hk => rfl)
theorem pow_bd {n : Nat} (hn : n ≤ 6) : n ^ n ≤ 46656 ∧ ∀ i, i ≤ n → n ^ i ≤ 46656 := by
  have : n = 0 ∨ n = 1 ∨ n = 2 ∨ n = 3 ∨ n = 4 ∨ n = 5 ∨ n = 6 := by omega
  have key : ∀ i, i ≤ n → n ^ i ≤ 46656 := by
    intro i hi
    by_cases z : n = 0
    · subst z
      have : i = 0 := by omega
      subst this; decide
    · have h1 : n ^ i ≤ 6 ^ i := Nat.pow_le_pow_left hn i
      have h2 : (6 : Nat) ^ i ≤ 6 ^ 6 := Nat.pow_le_pow_right (by omega) (by omega)
      have h3 : (6 : Nat) ^ 6 = 46656 := by decide
      omega
  exact ⟨key n (Nat.le_refl _), key⟩
theorem m_keep {Q : Int32 → (Nat → Int32) → (Nat → Int32) → (Nat → Int32) → Prop} {Kf : Int32 → Int32 → Int32 → Int32 → Int32 → (Nat → Int32) → (Nat → Int32) → (Nat → Int32) → Prop} {x1 x3 x4 : Int32} {n v c : Nat} {all0 met tr : Nat → Int32} (hn : n ≤ 6) (htr : ∀ k, k < n → tr k = nI (dig n c k)) (h : ∀ all1, SetE all0 all1 → (∀ k, k < n → all1 (12 + k) = nI (dig n c k)) → Kf x1 (nI n) x3 x4 (nI (v + 1)) all1 met tr) : wX11_turns_121 Q Kf x1 (nI n) x3 (nI v) x4 all0 met tr := by
  refine ⟨n + 1, ?_⟩
  have lp : ∀ (m i : Nat) (all1 : Nat → Int32), i + m = n → SetE all0 all1 → (∀ k, k < i → all1 (12 + k) = nI (dig n c k)) → wX11_turns_128 Q Kf (m + 1) x1 (nI n) x3 x4 (nI v) (nI i) all1 met tr := by
    intro m
    induction m with
    | zero =>
      intro i all1 hi a b
      have e : i = n := by omega
      subst e
      refine ip_T (nI_le (Nat.le_refl _) (by omega)) ?_
      unfold wX11_turns_157
      rw [nI_1]
      exact h all1 a b
    | succ m ih =>
      intro i all1 hi a b
      refine ip_F (nI_ge (by omega) (by omega)) ⟨vp_in_nI (by omega) (by omega), ?_⟩
      rw [show (12 : Int32) + nI i = nI (12 + i) from nI_add 12 i, nI_clamp (by omega), nI_clamp (by omega), nI_1, htr i (by omega)]
      refine ⟨vp_in_nI (by omega) (by omega), ih (i + 1) _ (by omega) (fun j hj => (pk_un (by omega)).trans (a j hj)) (fun k hk => ?_)⟩
      by_cases e : k = i
      · subst e; exact pk_us
      · rw [pk_un (by omega)]; exact b k (by omega)
  exact lp n 0 all0 (by omega) (fun _ _ => rfl) (fun k hk => absurd hk (by omega))
theorem m_turn_one {om : Nat → Option OR} {Q : Int32 → (Nat → Int32) → (Nat → Int32) → (Nat → Int32) → Prop} {Kf : Int32 → Int32 → Int32 → Int32 → Int32 → (Nat → Int32) → (Nat → Int32) → (Nat → Int32) → Prop} {all all1 : Nat → Int32} {w : WH} (W : WfW w) (R : RW om all w) {x1 x3 x4 : Int32} {v : Nat} (S : SetE all all1)
    (hno : isOrd w.psize (dig w.psize v) → ¬ x4 < 0 → ¬ w.co x1 v < x4 → ∀ met tr, Kf x1 (nI w.psize) x3 x4 (nI (v + 1)) all1 met tr)
    (hnp : ¬ isOrd w.psize (dig w.psize v) → ∀ met tr, Kf x1 (nI w.psize) x3 x4 (nI (v + 1)) all1 met tr)
    (hyes : isOrd w.psize (dig w.psize v) → (x4 < 0 ∨ w.co x1 v < x4) → ∀ all2, SetE all all2 → (∀ k, k < w.psize → all2 (12 + k) = nI (dig w.psize v k)) → ∀ met tr, Kf x1 (nI w.psize) x3 (w.co x1 v) (nI (v + 1)) all2 met tr) (hv : v < 46656) : ∀ (m : Nat) (met tr : Nat → Int32), m ≤ w.psize → (∀ k, m ≤ k → k < w.psize → tr k = nI (dig w.psize v k)) → wX11_turns_61 Q Kf (m + 1) x1 (nI w.psize) x3 x4 (nI v) (nI (v / w.psize ^ (w.psize - m))) (nI m - 1) all1 met tr := by
  have hp := W.psize
  have R1 := S.rw' W R
  have W1 : WfW ((w.g, w.tlen, w.tape, w.fault, w.place, w.psize, w.frm, w.takes, w.worth, w.ssize, (fun k => all1 (12 + k))) : WH) := (WfW.mk' (k_g := W.g) (k_tlen := W.tlen) (k_tape := W.tape) (k_psize := W.psize) (k_frm := W.frm) (k_takes := W.takes) (k_worth := W.worth) (k_ssize := W.ssize))
  intro m
  induction m with
  | zero =>
    intro met tr hm ht
    refine ip_T (by decide) (m_isOrder W1 R1 (t := dig w.psize v) (fun k hk => ⟨ht k (by omega) hk, by have := dig_lt (w := v) (show k < w.psize from hk); omega⟩) (fun o met' => ip_F' (by decide) (m_costs W1 R1 (t := dig w.psize v) (fun k hk => ⟨ht k (by omega) hk, o.1 k hk⟩) ?_)) (fun o met' => ip_T' rfl ?_))
    · show ((x4 < 0 → wX11_turns_121 Q Kf x1 (nI w.psize) x3 (nI v) (w.co x1 v) all1 met' tr) ∧ (¬ x4 < 0 → (w.co x1 v < x4 → wX11_turns_121 Q Kf x1 (nI w.psize) x3 (nI v) (w.co x1 v) all1 met' tr) ∧ (¬ w.co x1 v < x4 → wX11_turns_157 Q Kf x1 (nI w.psize) x3 x4 (nI v) all1 met' tr)))
      have yes : (x4 < 0 ∨ w.co x1 v < x4) → wX11_turns_121 Q Kf x1 (nI w.psize) x3 (nI v) (w.co x1 v) all1 met' tr := fun q => m_keep hp (fun k hk => ht k (by omega) hk) (fun all2 s2 b => hyes o q all2 (fun i hi => (s2 i hi).trans (S i hi)) b met' tr)
      refine ip_split (fun q => yes (Or.inl q)) (fun q => ip_split (fun q2 => yes (Or.inr q2)) (fun q2 => ?_))
      unfold wX11_turns_157
      rw [nI_1]
      exact hno o q q2 met' tr
    · unfold wX11_turns_157
      rw [nI_1]
      exact hnp o met' tr
  | succ m ih =>
    intro met tr hm ht
    have n0 : ¬ nI w.psize = 0 := nI_ne0 (by omega) (by omega)
    have hd : v / w.psize ^ (w.psize - (m + 1)) ≤ v := Nat.div_le_self _ _
    rw [show nI (m + 1) - 1 = nI m from nI_pred m]
    refine ip_F (nI_pos (by omega)) ⟨n0, vp_in_nI (by omega) (by omega), n0, ?_⟩
    have e1 : nI (v / w.psize ^ (w.psize - (m + 1))) / nI w.psize = nI (v / w.psize ^ (w.psize - m)) := by
      rw [pk_div (by omega) (by omega) (by omega), Nat.div_div_eq_div_mul, ← Nat.pow_succ, show (w.psize - (m + 1)).succ = w.psize - m by omega]
    have e2 : nI (v / w.psize ^ (w.psize - (m + 1))) - nI (v / w.psize ^ (w.psize - (m + 1))) / nI w.psize * nI w.psize = nI (dig w.psize v m) := by
      rw [pk_rem (by omega) (by omega) (by omega)]
      unfold dig
      rw [show w.psize - 1 - m = w.psize - (m + 1) by omega]
    have em : nI m + -1 = nI m - 1 := (m1_sub m).symm
    rw [e2, e1, nI_clamp (by omega), em]
    refine ih met _ (by omega) (fun k h1 h2 => ?_)
    by_cases q : k = m
    · subst q; exact pk_us
    · rw [pk_un q]; exact ht k (by omega) h2
theorem m_turns_loop {om : Nat → Option OR} {Q : Int32 → (Nat → Int32) → (Nat → Int32) → (Nat → Int32) → Prop} {all : Nat → Int32} {w : WH} (W : WfW w) (R : RW om all w) {x1 : Int32} {L : Int32} {B : Nat} (h : ∀ all1 met tr, SetE all all1 → (∀ k, k < w.psize → all1 (12 + k) = nI (dig w.psize B k)) → Q L (upd all1 8 (nI w.psize)) met tr) : ∀ (m v : Nat) (rest : List Nat) (l : Int32) (b : Nat) (all1 met tr : Nat → Int32), v + m = w.psize ^ w.psize → chk w.psize rest v = true → (∀ c, c ∈ rest → c < w.psize ^ w.psize) → SetE all all1 → ((l = -1 ∧ ∃ c r, rest = c :: r ∧ bst (w.co x1) r (w.co x1 c) c = (L, B)) ∨ ((∃ q : Nat, q ≤ 1200000 ∧ l = nI q) ∧ (∀ k, k < w.psize → all1 (12 + k) = nI (dig w.psize b k)) ∧ bst (w.co x1) rest l b = (L, B))) → wX11_turns_46 Q (m + 1) x1 (nI w.psize) (nI (w.psize ^ w.psize)) l (nI v) all1 met tr := by
  have hp := W.psize
  have hbd := (pow_bd hp).1
  intro m
  induction m with
  | zero =>
    intro v rest l b all1 met tr hv hc hr S hl
    have e : v = w.psize ^ w.psize := by omega
    subst e
    have en := chk_end hc hr
    subst en
    refine ip_T (nI_le (Nat.le_refl _) (by omega)) ⟨ip_in 8 _ rfl (by omega) (by omega), ?_⟩
    rcases hl with ⟨-, c, r, e, -⟩ | ⟨-, hk, hb⟩
    · exact absurd e (by simp)
    · have hb' : (l, b) = (L, B) := hb
      have e1 : l = L := congrArg Prod.fst hb'
      have e2 : b = B := congrArg Prod.snd hb'
      subst e1; subst e2
      exact h all1 met tr S hk
  | succ m ih =>
    intro v rest l b all1 met tr hv hc hr S hl
    refine ip_F (nI_ge (by omega) (by omega)) ⟨w.psize + 1, ?_⟩
    have key := m_turn_one (Q := Q) (Kf := wX11_turns_46 Q (m + 1)) (x1 := x1) (x3 := nI (w.psize ^ w.psize)) (x4 := l) (v := v) W R S ?_ ?_ ?_ (by omega) w.psize met tr (Nat.le_refl _) (fun k a b => absurd b (by omega))
    · rw [Nat.sub_self, Nat.pow_zero, Nat.div_one] at key
      exact key
    · intro o c1 c2 met' tr'
      obtain ⟨r, er, hc'⟩ := chk_hit hc (by omega) (perC_ord.mpr o)
      subst er
      rcases hl with ⟨e, -⟩ | ⟨hq, hk, hb⟩
      · subst e; exact absurd (by decide) c1
      · rw [bst_s, if_neg c2] at hb
        exact ih (v + 1) r l b all1 met' tr' (by omega) hc' (fun c hcm => hr c (List.mem_cons_of_mem _ hcm)) S (Or.inr ⟨hq, hk, hb⟩)
    · intro o met' tr'
      have pf : perC w.psize v w.psize = false := by
        cases hx : perC w.psize v w.psize
        · rfl
        · exact absurd (perC_ord.mp hx) o
      exact ih (v + 1) rest l b all1 met' tr' (by omega) (chk_skip hc (by omega) pf) hr S hl
    · intro o q all2 S2 hk2 met' tr'
      obtain ⟨r, er, hc'⟩ := chk_hit hc (by omega) (perC_ord.mpr o)
      subst er
      refine ih (v + 1) r (w.co x1 v) v all2 met' tr' (by omega) hc' (fun c hcm => hr c (List.mem_cons_of_mem _ hcm)) S2 (Or.inr ⟨co_pos W, hk2, ?_⟩)
      rcases hl with ⟨e, c, r', e', hb⟩ | ⟨⟨q0, hq0, eq0⟩, hk, hb⟩
      · have e1 : v = c := List.head_eq_of_cons_eq e'
        have e2 : r = r' := List.tail_eq_of_cons_eq e'
        subst e1; subst e2
        exact hb
      · rcases q with q | q
        · rw [eq0] at q; exact absurd q (nI_pos (by omega))
        · rw [bst_s, if_pos q] at hb
          exact hb
theorem cs_lt : ∀ n, n < 7 → (csL n).all (fun c => Nat.blt c (n ^ n)) = true := by decide +kernel
theorem sim_turns {om : Nat → Option OR} {all met mtr ctr : Nat → Int32} {w : WH} (W : WfW w) (R : RW om all w) {y1 : Int32} {K : Int32 → Int32 → (Nat → Int32) → (Nat → Int32) → Int32 → (Nat → Int32) → (Nat → Int32) → (Nat → Int32) → Prop}
    (hK : ∀ r n se tr all' met' mtr', Ok om all ((w.g, w.tlen, w.tape, w.fault, w.place, w.psize, w.frm, w.takes, w.worth, (n), (se)) : WH) all' → K r (nI n) se tr r all' met' mtr') :
    wX10_turns (fun r n se tr => wX11_turns (fun r2 all' met' mtr' => K r n se tr r2 all' met' mtr') y1 all met mtr) y1 (nI w.psize) (nI w.ssize) w.frm w.settled w.takes ctr w.worth := by
  have hp := W.psize
  unfold wX10_turns
  rw [p_within]
  refine ip_split' (fun c => ?_) (fun c => c_settle W (fun l b se tr hb hse => ?_))
  · unfold wX11_turns
    exact p_isIn.mpr (ip_T' c (hK _ w.ssize _ _ _ _ _ (Ok.same W R)))
  · unfold wX11_turns
    refine p_isIn.mpr (ip_F' c ⟨ip_in 7 _ rfl (by omega) (by omega), w.psize + 1, ?_⟩)
    rw [show (7 : Int32).toNatClampNeg = 7 from rfl, R.psize]
    have lp : ∀ (m i : Nat), i + m = w.psize → wX11_turns_24 (fun r2 all' met' mtr' => K l (nI w.psize) se tr r2 all' met' mtr') (m + 1) y1 (nI w.psize) (nI (w.psize ^ i)) (nI i) all met mtr := by
      intro m
      induction m with
      | zero =>
        intro i hi
        have e : i = w.psize := by omega
        subst e
        refine ip_T (nI_le (Nat.le_refl _) (by omega)) ⟨w.psize ^ w.psize + 1, ?_⟩
        obtain ⟨r, er⟩ := cs_first w.psize (by omega)
        refine m_turns_loop W R (L := l) (B := b) (fun all1 met' tr' S hk => ?_) (w.psize ^ w.psize) 0 (csL w.psize) (-1) 0 all met mtr (by omega) (cs_chk (by omega)) (fun c hc => ?_) (fun _ _ => rfl) (Or.inl ⟨rfl, _, r, er, ?_⟩)
        · refine hK l w.psize se tr _ met' tr' ⟨(WfW.mk' (k_g := W.g) (k_tlen := W.tlen) (k_tape := W.tape) (k_psize := W.psize) (k_frm := W.frm) (k_takes := W.takes) (k_worth := W.worth) (k_ssize := hp)), ?_, fun i hi => by rw [pk_un (by omega)]; exact S i (by omega)⟩
          have un : ∀ i, i ≠ 8 → (i < 12 ∨ 18 ≤ i) → upd all1 8 (nI w.psize) i = all i := fun i h1 h2 => by rw [pk_un h1]; exact S i h2
          exact RW.mk' (k_g := R.g.congr W.g.s8 (fun i hi => un i (by omega) (by omega))) (k_tlen := (un _ (by omega) (by omega)).trans R.tlen) (k_tape := fun i hi => (un _ (by omega) (by omega)).trans (R.tape i hi)) (k_fault := (un _ (by omega) (by omega)).trans R.fault) (k_place := (un _ (by omega) (by omega)).trans R.place) (k_psize := (un _ (by omega) (by omega)).trans R.psize) (k_frm := fun k hk => (un _ (by omega) (by omega)).trans (R.frm k hk)) (k_takes := fun k hk => (un _ (by omega) (by omega)).trans (R.takes k hk)) (k_worth := fun k hk => (un _ (by omega) (by omega)).trans (R.worth k hk)) (k_ssize := pk_us) (k_settled := fun k hk' => by rw [pk_un (by omega), hk k hk']; exact (hse k hk').symm)
        · have := List.all_eq_true.mp (cs_lt w.psize (by omega)) c hc
          exact Nat.blt_eq.mp this
        · have e2 : (csL w.psize).tail = r := by rw [er]; rfl
          rw [e2] at hb
          exact hb
      | succ m ih =>
        intro i hi
        refine ip_F (nI_ge (by omega) (by omega)) ?_
        rw [pk_mul, nI_1, ← Nat.pow_succ]
        exact ih (i + 1) (by omega)
    exact lp w.psize 0 (by omega)
