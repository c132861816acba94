/-! PURE LEVEL 12: the next cell; what is asked; tell -/
def GU.nxt (g : GU) (p w : Nat) : Int32 := g.find (nI (p / 8) + drI w) (nI (p % 8) + dcI w)
theorem nxt_cases {g : GU} (W : Wf g) {p w : Nat} (hp : p < 64) (hw : w < 4) : (g.nxt p w = -1 ∧ ∀ q, q < 64 → g.ins q → ¬ adjW w p q) ∨ ∃ a b : Nat, a < g.rows ∧ b < g.cols ∧ 8 * a + b < 64 ∧ g.ins (8 * a + b) ∧ adjW w p (8 * a + b) ∧ nI (p / 8) + drI w = nI a ∧ nI (p % 8) + dcI w = nI b ∧ g.nxt p w = nI (8 * a + b) := by
  have hc8 := W.c8
  have hr8 := W.r8
  rcases GU.find_cases W (nI (p / 8) + drI w) (nI (p % 8) + dcI w) with ⟨f, n⟩ | ⟨a, b, ha, hb, er, ec, f⟩
  · refine Or.inl ⟨f, fun q hq hi ha => n ⟨q / 8, q % 8, hi.1, hi.2, ?_, ?_⟩⟩
    · exact ((adjW_I hw hp hq).mpr ha).1.symm
    · exact ((adjW_I hw hp hq).mpr ha).2.symm
  · obtain ⟨hk, hi⟩ := ins_of W ha hb
    refine Or.inr ⟨a, b, ha, hb, hk, hi, (adjW_I hw hp hk).mp ?_, er, ec, f⟩
    rw [show (8 * a + b) / 8 = a by omega, show (8 * a + b) % 8 = b by omega]
    exact ⟨er.symm, ec.symm⟩
theorem m1_sub (a : Nat) : nI a - 1 = nI a + -1 := by
  apply Int32.toInt_inj.mp
  rw [Int32.toInt_sub, Int32.toInt_add]
  rfl
theorem ip_next {Q : Int32 → Prop} {g : GU} (W : Wf g) {p w : Nat} (hp : p < 64) (hw : w < 4) (h : Q (g.nxt p w)) : wX3_next Q (nI p) (nI w) (nI g.rows) (nI g.cols) := by
  have d1 : nI p / 8 = nI (p / 8) := pk_div (d := 8) (by omega) (by omega) (by omega)
  have d2 : nI p - nI p / 8 * 8 = nI (p % 8) := pk_rem (d := 8) (by omega) (by omega) (by omega)
  have hs : w = 0 ∨ w = 1 ∨ w = 2 ∨ w = 3 := by omega
  unfold wX3_next
  simp only [p_find]
  rw [d2, d1, m1_sub, m1_sub]
  rcases hs with e | e | e | e <;> subst e <;> unfold GU.nxt at h
  · refine ⟨fun _ => ?_, fun e_ => absurd e_ (by decide), fun e_ => absurd e_ (by decide), fun e_ => absurd e_ (by decide), fun e_ => absurd e_ (by decide)⟩
    rw [show dcI 0 = 0 from rfl, Int32.add_zero] at h; exact h
  · refine ⟨fun e_ => absurd e_ (by decide), fun _ => ?_, fun e_ => absurd e_ (by decide), fun e_ => absurd e_ (by decide), fun e_ => absurd e_ (by decide)⟩
    rw [show drI 1 = 0 from rfl, Int32.add_zero] at h; exact h
  · refine ⟨fun e_ => absurd e_ (by decide), fun e_ => absurd e_ (by decide), fun _ => ?_, fun e_ => absurd e_ (by decide), fun e_ => absurd e_ (by decide)⟩
    rw [show dcI 2 = 0 from rfl, Int32.add_zero] at h; exact h
  · refine ⟨fun e_ => absurd e_ (by decide), fun e_ => absurd e_ (by decide), fun e_ => absurd e_ (by decide), fun _ => ?_, fun e_ => absurd e_ (by decide)⟩
    rw [show drI 3 = 0 from rfl, Int32.add_zero] at h; exact h
def GU.seen (g : GU) (p w : Nat) : Int32 := if g.nxt p w = -1 then 999 else if g.sea (g.nxt p w).toNatClampNeg = 0 then 999 else if g.shipIn (g.nxt p w) = -1 then g.bur (g.nxt p w).toNatClampNeg else 999
theorem ip_seen {Q : Int32 → Prop} {g : GU} (W : Wf g) {p w : Nat} (hp : p < 64) (hw : w < 4) (h : Q (g.seen p w)) : wX2_burdenSeen Q (nI p) (nI w) (nI g.size) (nI g.rows) (nI g.cols) g.place g.chan g.level g.ridged g.sea := by
  unfold wX2_burdenSeen
  refine ip_next W hp hw ?_
  unfold GU.seen at h
  rcases nxt_cases W hp hw with ⟨f, -⟩ | ⟨a, b, ha, hb, hk, hi, -, -, -, f⟩
  · rw [if_pos f] at h
    exact ip_T f h
  · rw [f] at h ⊢
    rw [if_neg (nI_m1 hk), nI_clamp (by omega)] at h
    rw [nI_clamp (by omega)]
    refine ip_F (nI_m1 hk) ⟨vp_in_nI hk (by omega), ip_split (fun c => ?_) (fun c => ip_shipIn W (ip_split (fun d => p_burden hk ?_) (fun d => ?_)))⟩
    · rw [if_pos c] at h; exact h
    · rw [if_neg c, if_pos d] at h; exact h
    · rw [if_neg c, if_neg d] at h; exact h
theorem shipIn_neg {g : GU} (W : Wf g) {x : Int32} : g.shipIn x < 0 ↔ g.shipIn x = -1 := by
  have h8 := W.s8
  exact firstP_neg _ (by omega)
theorem ip_there {Q : Int32 → Prop} {om : Nat → Option OR} {all : Nat → Int32} {g : GU} (W : Wf g) (R : Rg om all g) {s w : Nat} (hs : s < g.size) (hw : w < 4) (h : Q (g.seen (g.pl s) w)) : wX11_there Q (nI s) (nI w) all := by
  have h8 := W.s8
  have hc8 := W.c8
  have hr8 := W.r8
  have hp := (W.place s hs).2.1
  unfold wX11_there
  refine ip_its s 2 (by omega) (by omega) (ip_rowTo hw (ip_its s 3 (by omega) (by omega) (ip_columnTo hw ?_)))
  rw [R.prow s hs, R.pcol s hs]
  refine ip_isSea W R _ _ ?_
  unfold GU.seen at h
  rcases nxt_cases W hp hw with ⟨f, -⟩ | ⟨a, b, ha, hb, hk, hi, -, er, ec, f⟩
  · rw [if_pos f] at h
    rw [bI_F (fun q => q.1 f)]
    exact ip_T rfl h
  · have f' : g.find (nI (g.pl s / 8) + drI w) (nI (g.pl s % 8) + dcI w) = nI (8 * a + b) := f
    rw [f, if_neg (nI_m1 hk), nI_clamp (by omega)] at h
    rw [f', nI_clamp (by omega), er, ec]
    rcases W.sea _ hk with s0 | s1
    · rw [bI_F (fun q => by rw [s0] at q; exact absurd q.2 (by decide))]
      rw [if_pos s0] at h
      exact ip_T rfl h
    · rw [bI_T ⟨nI_m1 hk, s1⟩]
      rw [if_neg (by rw [s1]; decide)] at h
      refine ip_F (by decide) (ip_shipAt W R ?_)
      rw [GU.shipAt_in W (by omega) (by omega)]
      refine ip_split (fun d => ip_burden W R (by omega) (by omega) ?_) (fun d => ?_)
      · rw [if_pos ((shipIn_neg W).mp d)] at h; exact h
      · rw [if_neg (fun q => d ((shipIn_neg W).mpr q))] at h; exact h
/-- what a ship's bridge sees, by the class's word -/
def GU.see (g : GU) (s w : Nat) : Int32 := if w < 4 then g.seen (g.pl s) w else if w = 4 then nI g.hour else if w = 5 then g.level (g.pl s) else if w = 6 then g.ridged (g.pl s) else if w = 7 then g.fuel s else if w = 8 then bI (g.held s) else if w = 9 then nI (g.near s) else if w = 10 then nI (g.pl s / 8) else if w = 11 then nI (g.pl s % 8) else g.told s
theorem ip_sight {Q : Int32 → Prop} {g : GU} (W : Wf g) {s w : Nat} (hs : s < g.size) (hw : w ≤ 12) (h : Q (g.see s w)) : wX2_sight Q (nI s) (nI w) (nI g.hour) (nI g.size) (nI g.rows) (nI g.cols) g.fuel g.place g.str g.told g.chan g.level g.ridged g.sea := by
  have h8 := W.s8
  obtain ⟨es, hp, -⟩ := W.place s hs
  have vs := vp_in_nI (show s < 8 by omega) (by omega)
  have vp := vp_in_nI hp (N := 64) (by omega)
  unfold wX2_sight
  rw [nI_clamp (by omega), es, nI_clamp (by omega)]
  refine ⟨vs, ?_⟩
  by_cases c : w < 4
  · unfold GU.see at h
    rw [if_pos c] at h
    have nn : ∀ z : Nat, 4 ≤ z → z ≤ 12 → ¬ nI w = nI z := fun z h1 h2 q => by
      rw [nI_eq (by omega) (by omega)] at q; omega
    refine ⟨fun q => absurd q (nn 4 (by omega) (by omega)), fun q => absurd q (nn 5 (by omega) (by omega)), fun q => absurd q (nn 6 (by omega) (by omega)), fun q => absurd q (nn 7 (by omega) (by omega)), fun q => absurd q (nn 8 (by omega) (by omega)), fun q => absurd q (nn 9 (by omega) (by omega)), fun q => absurd q (nn 10 (by omega) (by omega)), fun q => absurd q (nn 11 (by omega) (by omega)), fun q => absurd q (nn 12 (by omega) (by omega)), fun _ => ip_seen W hp c h⟩
  · have hs : w = 4 ∨ w = 5 ∨ w = 6 ∨ w = 7 ∨ w = 8 ∨ w = 9 ∨ w = 10 ∨ w = 11 ∨ w = 12 := by omega
    rcases hs with e | e | e | e | e | e | e | e | e <;> subst e
    · exact ⟨fun _ => h, fun e_ => absurd e_ (by decide), fun e_ => absurd e_ (by decide), fun e_ => absurd e_ (by decide), fun e_ => absurd e_ (by decide), fun e_ => absurd e_ (by decide), fun e_ => absurd e_ (by decide), fun e_ => absurd e_ (by decide), fun e_ => absurd e_ (by decide), fun e_ => absurd e_ (by decide)⟩
    · exact ⟨fun e_ => absurd e_ (by decide), fun _ => ⟨vp, h⟩, fun e_ => absurd e_ (by decide), fun e_ => absurd e_ (by decide), fun e_ => absurd e_ (by decide), fun e_ => absurd e_ (by decide), fun e_ => absurd e_ (by decide), fun e_ => absurd e_ (by decide), fun e_ => absurd e_ (by decide), fun e_ => absurd e_ (by decide)⟩
    · exact ⟨fun e_ => absurd e_ (by decide), fun e_ => absurd e_ (by decide), fun _ => ⟨vp, h⟩, fun e_ => absurd e_ (by decide), fun e_ => absurd e_ (by decide), fun e_ => absurd e_ (by decide), fun e_ => absurd e_ (by decide), fun e_ => absurd e_ (by decide), fun e_ => absurd e_ (by decide), fun e_ => absurd e_ (by decide)⟩
    · exact ⟨fun e_ => absurd e_ (by decide), fun e_ => absurd e_ (by decide), fun e_ => absurd e_ (by decide), fun _ => ⟨vs, h⟩, fun e_ => absurd e_ (by decide), fun e_ => absurd e_ (by decide), fun e_ => absurd e_ (by decide), fun e_ => absurd e_ (by decide), fun e_ => absurd e_ (by decide), fun e_ => absurd e_ (by decide)⟩
    · refine ⟨fun e_ => absurd e_ (by decide), fun e_ => absurd e_ (by decide), fun e_ => absurd e_ (by decide), fun e_ => absurd e_ (by decide), fun _ => ip_held W hs ?_, fun e_ => absurd e_ (by decide), fun e_ => absurd e_ (by decide), fun e_ => absurd e_ (by decide), fun e_ => absurd e_ (by decide), fun e_ => absurd e_ (by decide)⟩
      have h' : Q (bI (g.held s)) := h
      by_cases b : g.held s
      · rw [bI_T b] at h' ⊢; exact ip_F (by decide) h'
      · rw [bI_F b] at h' ⊢; exact ip_T rfl h'
    · exact ⟨fun e_ => absurd e_ (by decide), fun e_ => absurd e_ (by decide), fun e_ => absurd e_ (by decide), fun e_ => absurd e_ (by decide), fun e_ => absurd e_ (by decide), fun _ => ip_near W hs h, fun e_ => absurd e_ (by decide), fun e_ => absurd e_ (by decide), fun e_ => absurd e_ (by decide), fun e_ => absurd e_ (by decide)⟩
    · refine ⟨fun e_ => absurd e_ (by decide), fun e_ => absurd e_ (by decide), fun e_ => absurd e_ (by decide), fun e_ => absurd e_ (by decide), fun e_ => absurd e_ (by decide), fun e_ => absurd e_ (by decide), fun _ => ?_, fun e_ => absurd e_ (by decide), fun e_ => absurd e_ (by decide), fun e_ => absurd e_ (by decide)⟩
      rw [show nI (g.pl s) / 8 = nI (g.pl s / 8) from pk_div (d := 8) (by omega) (by omega) (by omega)]
      exact h
    · refine ⟨fun e_ => absurd e_ (by decide), fun e_ => absurd e_ (by decide), fun e_ => absurd e_ (by decide), fun e_ => absurd e_ (by decide), fun e_ => absurd e_ (by decide), fun e_ => absurd e_ (by decide), fun e_ => absurd e_ (by decide), fun _ => ?_, fun e_ => absurd e_ (by decide), fun e_ => absurd e_ (by decide)⟩
      rw [show nI (g.pl s) - nI (g.pl s) / 8 * 8 = nI (g.pl s % 8) from pk_rem (d := 8) (by omega) (by omega) (by omega)]
      exact h
    · exact ⟨fun e_ => absurd e_ (by decide), fun e_ => absurd e_ (by decide), fun e_ => absurd e_ (by decide), fun e_ => absurd e_ (by decide), fun e_ => absurd e_ (by decide), fun e_ => absurd e_ (by decide), fun e_ => absurd e_ (by decide), fun e_ => absurd e_ (by decide), fun _ => ⟨vs, h⟩, fun e_ => absurd e_ (by decide)⟩
theorem ip_asked {Q : Int32 → Prop} {om : Nat → Option OR} {all : Nat → Int32} {g : GU} (W : Wf g) (R : Rg om all g) {s w : Nat} (hs : s < g.size) (hw : w ≤ 12) (h : Q (g.see s w)) : wX11_asked Q (nI s) (nI (wordR w)) all := by
  have h8 := W.s8
  obtain ⟨es, hp, -⟩ := W.place s hs
  have lv : ∀ (Q : Int32 → Prop) (z : Nat) (f : Nat → Int32), z < 5 → (∀ k, k < 64 → all (40 + 5 * k + z) = f k) → Q (f (g.pl s)) → wX11_its (fun r_8 => (wX11_its (fun r_9 => (wX11_of (fun r_10 => (Q r_10)) r_8 r_9 (nI z) all)) (nI s) (3 : Int32) all)) (nI s) (2 : Int32) all := by
    intro Q z f hz hf h
    refine ip_its s 2 (by omega) (by omega) (ip_its s 3 (by omega) (by omega) ?_)
    rw [R.prow s hs, R.pcol s hs]
    refine ip_of _ _ z (by omega) (by omega) hz ?_
    rw [hf _ (by omega), show 8 * (g.pl s / 8) + g.pl s % 8 = g.pl s by omega]
    exact h
  have it : ∀ (z : Nat) (x : Int32), z < 12 → all (360 + 12 * s + z) = x → Q x → wX11_its Q (nI s) (nI z) all := fun z x hz e h => ip_its s z (by omega) hz (by rw [e]; exact h)
  have th : ∀ (w : Nat) (x : Int32), w < 4 → x - 8 = nI w → Q (g.seen (g.pl s) w) → wX11_there Q (nI s) (x - 8) all := fun w x hw e h => by rw [e]; exact ip_there W R hs hw h
  unfold wX11_asked
  have hs' : w = 0 ∨ w = 1 ∨ w = 2 ∨ w = 3 ∨ w = 4 ∨ w = 5 ∨ w = 6 ∨ w = 7 ∨ w = 8 ∨ w = 9 ∨ w = 10 ∨ w = 11 ∨ w = 12 := by omega
  rcases hs' with e | e | e | e | e | e | e | e | e | e | e | e | e <;> subst e
  · unfold GU.see at h
    rw [if_pos (by omega)] at h
    exact ⟨fun e_ => absurd e_ (by decide), fun e_ => absurd e_ (by decide), fun e_ => absurd e_ (by decide), fun e_ => absurd e_ (by decide), fun e_ => absurd e_ (by decide), fun e_ => absurd e_ (by decide), fun e_ => absurd e_ (by decide), fun e_ => absurd e_ (by decide), fun _ => th 0 (nI 8) (by omega) (by decide) h, fun e_ => absurd e_ (by decide), fun e_ => absurd e_ (by decide), fun e_ => absurd e_ (by decide), fun e_ => absurd e_ (by decide), fun e_ => absurd e_ (by decide)⟩
  · unfold GU.see at h
    rw [if_pos (by omega)] at h
    exact ⟨fun e_ => absurd e_ (by decide), fun e_ => absurd e_ (by decide), fun e_ => absurd e_ (by decide), fun e_ => absurd e_ (by decide), fun e_ => absurd e_ (by decide), fun e_ => absurd e_ (by decide), fun e_ => absurd e_ (by decide), fun e_ => absurd e_ (by decide), fun e_ => absurd e_ (by decide), fun _ => th 1 (nI 9) (by omega) (by decide) h, fun e_ => absurd e_ (by decide), fun e_ => absurd e_ (by decide), fun e_ => absurd e_ (by decide), fun e_ => absurd e_ (by decide)⟩
  · unfold GU.see at h
    rw [if_pos (by omega)] at h
    exact ⟨fun e_ => absurd e_ (by decide), fun e_ => absurd e_ (by decide), fun e_ => absurd e_ (by decide), fun e_ => absurd e_ (by decide), fun e_ => absurd e_ (by decide), fun e_ => absurd e_ (by decide), fun e_ => absurd e_ (by decide), fun e_ => absurd e_ (by decide), fun e_ => absurd e_ (by decide), fun e_ => absurd e_ (by decide), fun _ => th 2 (nI 10) (by omega) (by decide) h, fun e_ => absurd e_ (by decide), fun e_ => absurd e_ (by decide), fun e_ => absurd e_ (by decide)⟩
  · unfold GU.see at h
    rw [if_pos (by omega)] at h
    exact ⟨fun e_ => absurd e_ (by decide), fun e_ => absurd e_ (by decide), fun e_ => absurd e_ (by decide), fun e_ => absurd e_ (by decide), fun e_ => absurd e_ (by decide), fun e_ => absurd e_ (by decide), fun e_ => absurd e_ (by decide), fun e_ => absurd e_ (by decide), fun e_ => absurd e_ (by decide), fun e_ => absurd e_ (by decide), fun e_ => absurd e_ (by decide), fun _ => th 3 (nI 11) (by omega) (by decide) h, fun e_ => absurd e_ (by decide), fun e_ => absurd e_ (by decide)⟩
  · refine ⟨fun _ => ⟨ip_in 3 _ rfl (by omega) (by omega), ?_⟩, fun e_ => absurd e_ (by decide), fun e_ => absurd e_ (by decide), fun e_ => absurd e_ (by decide), fun e_ => absurd e_ (by decide), fun e_ => absurd e_ (by decide), fun e_ => absurd e_ (by decide), fun e_ => absurd e_ (by decide), fun e_ => absurd e_ (by decide), fun e_ => absurd e_ (by decide), fun e_ => absurd e_ (by decide), fun e_ => absurd e_ (by decide), fun e_ => absurd e_ (by decide), fun e_ => absurd e_ (by decide)⟩
    rw [show (3 : Int32).toNatClampNeg = 3 from rfl, R.hour]
    exact h
  · exact ⟨fun e_ => absurd e_ (by decide), fun _ => lv _ 1 _ (by omega) R.level h, fun e_ => absurd e_ (by decide), fun e_ => absurd e_ (by decide), fun e_ => absurd e_ (by decide), fun e_ => absurd e_ (by decide), fun e_ => absurd e_ (by decide), fun e_ => absurd e_ (by decide), fun e_ => absurd e_ (by decide), fun e_ => absurd e_ (by decide), fun e_ => absurd e_ (by decide), fun e_ => absurd e_ (by decide), fun e_ => absurd e_ (by decide), fun e_ => absurd e_ (by decide)⟩
  · exact ⟨fun e_ => absurd e_ (by decide), fun e_ => absurd e_ (by decide), fun _ => lv _ 2 _ (by omega) R.ridged h, fun e_ => absurd e_ (by decide), fun e_ => absurd e_ (by decide), fun e_ => absurd e_ (by decide), fun e_ => absurd e_ (by decide), fun e_ => absurd e_ (by decide), fun e_ => absurd e_ (by decide), fun e_ => absurd e_ (by decide), fun e_ => absurd e_ (by decide), fun e_ => absurd e_ (by decide), fun e_ => absurd e_ (by decide), fun e_ => absurd e_ (by decide)⟩
  · exact ⟨fun e_ => absurd e_ (by decide), fun e_ => absurd e_ (by decide), fun e_ => absurd e_ (by decide), fun _ => it 1 _ (by omega) (R.fuel s hs) h, fun e_ => absurd e_ (by decide), fun e_ => absurd e_ (by decide), fun e_ => absurd e_ (by decide), fun e_ => absurd e_ (by decide), fun e_ => absurd e_ (by decide), fun e_ => absurd e_ (by decide), fun e_ => absurd e_ (by decide), fun e_ => absurd e_ (by decide), fun e_ => absurd e_ (by decide), fun e_ => absurd e_ (by decide)⟩
  · refine ⟨fun e_ => absurd e_ (by decide), fun e_ => absurd e_ (by decide), fun e_ => absurd e_ (by decide), fun e_ => absurd e_ (by decide), fun _ => ip_isHeld W R hs ?_, fun e_ => absurd e_ (by decide), fun e_ => absurd e_ (by decide), fun e_ => absurd e_ (by decide), fun e_ => absurd e_ (by decide), fun e_ => absurd e_ (by decide), fun e_ => absurd e_ (by decide), fun e_ => absurd e_ (by decide), fun e_ => absurd e_ (by decide), fun e_ => absurd e_ (by decide)⟩
    have h' : Q (bI (g.held s)) := h
    by_cases b : g.held s
    · rw [bI_T b] at h' ⊢; exact ip_F (by decide) h'
    · rw [bI_F b] at h' ⊢; exact ip_T rfl h'
  · exact ⟨fun e_ => absurd e_ (by decide), fun e_ => absurd e_ (by decide), fun e_ => absurd e_ (by decide), fun e_ => absurd e_ (by decide), fun e_ => absurd e_ (by decide), fun _ => m_near W R hs h, fun e_ => absurd e_ (by decide), fun e_ => absurd e_ (by decide), fun e_ => absurd e_ (by decide), fun e_ => absurd e_ (by decide), fun e_ => absurd e_ (by decide), fun e_ => absurd e_ (by decide), fun e_ => absurd e_ (by decide), fun e_ => absurd e_ (by decide)⟩
  · exact ⟨fun e_ => absurd e_ (by decide), fun e_ => absurd e_ (by decide), fun e_ => absurd e_ (by decide), fun e_ => absurd e_ (by decide), fun e_ => absurd e_ (by decide), fun e_ => absurd e_ (by decide), fun _ => it 2 _ (by omega) (R.prow s hs) h, fun e_ => absurd e_ (by decide), fun e_ => absurd e_ (by decide), fun e_ => absurd e_ (by decide), fun e_ => absurd e_ (by decide), fun e_ => absurd e_ (by decide), fun e_ => absurd e_ (by decide), fun e_ => absurd e_ (by decide)⟩
  · exact ⟨fun e_ => absurd e_ (by decide), fun e_ => absurd e_ (by decide), fun e_ => absurd e_ (by decide), fun e_ => absurd e_ (by decide), fun e_ => absurd e_ (by decide), fun e_ => absurd e_ (by decide), fun e_ => absurd e_ (by decide), fun _ => it 3 _ (by omega) (R.pcol s hs) h, fun e_ => absurd e_ (by decide), fun e_ => absurd e_ (by decide), fun e_ => absurd e_ (by decide), fun e_ => absurd e_ (by decide), fun e_ => absurd e_ (by decide), fun e_ => absurd e_ (by decide)⟩
  · exact ⟨fun e_ => absurd e_ (by decide), fun e_ => absurd e_ (by decide), fun e_ => absurd e_ (by decide), fun e_ => absurd e_ (by decide), fun e_ => absurd e_ (by decide), fun e_ => absurd e_ (by decide), fun e_ => absurd e_ (by decide), fun e_ => absurd e_ (by decide), fun e_ => absurd e_ (by decide), fun e_ => absurd e_ (by decide), fun e_ => absurd e_ (by decide), fun e_ => absurd e_ (by decide), fun _ => it 4 _ (by omega) (R.told s hs) h, fun e_ => absurd e_ (by decide)⟩
theorem ip_linesOf {Q : Int32 → Prop} {om : Nat → Option OR} {ord : Nat → Option Nat} {s : Nat} {n : Int32} {ln ac : Nat → Int32} (hs : s < 8) (o : OrdR om (ord s) n ln ac) (h : Q n) : wX1_linesOf Q om (nI s) ord := by
  unfold wX1_linesOf
  rw [nI_clamp (by omega)]
  unfold OrdR at o
  refine ⟨vp_in_nI hs (by omega), fun e => ?_, fun a e => ?_⟩
  · rw [e] at o
    have o' : n = 0 := o
    subst o'
    exact h
  · rw [e] at o
    obtain ⟨r, e1, e2, e3⟩ := o
    subst e2
    exact ⟨r, e1, h⟩
theorem sim_tell {om : Nat → Option OR} {all : Nat → Int32} {w : WH} (W : WfW w) (R : RW om all w) {y1 y2 : Int32} {K : Int32 → Int32 → Prop} (hK : ∀ r, K r r) :
    wX10_tell (fun r => wX11_tell (fun r2 => K r r2) y1 y2 all) om y1 y2 (nI w.g.size) w.g.done w.g.fuel w.g.line w.g.moved w.g.ord w.g.place w.g.str w.g.told w.g.chan w.g.level w.g.ridged := by
  have h8 := W.g.s8
  unfold wX10_tell
  refine ip_has (by omega) (fun c => ip_T' rfl ?_) (fun s hs e => ip_F' (by decide) ?_)
  · unfold wX11_tell
    exact ip_isShip W.g R.g (fun _ => ip_T' rfl (hK _)) (fun s hs e => (no_ship (by omega) c hs e).elim)
  · subst e
    obtain ⟨es, hp, -⟩ := W.g.place s hs
    have vs := vp_in_nI (show s < 8 by omega) (by omega)
    have go : ∀ Q : Int32 → Prop, ((y2 = (0 : Int32) → (wX11_its (fun r_5 => (Q r_5)) (nI s) (0 : Int32) all)) ∧ (y2 = (1 : Int32) → (wX11_its (fun r_6 => (Q r_6)) (nI s) (1 : Int32) all)) ∧ (y2 = (2 : Int32) → (wX11_its (fun r_7 => (Q r_7)) (nI s) (2 : Int32) all)) ∧ (y2 = (3 : Int32) → (wX11_its (fun r_8 => (Q r_8)) (nI s) (3 : Int32) all)) ∧ (y2 = (4 : Int32) → (wX11_isHeld (fun r_9 => ((r_9 = 0 → (Q (0 : Int32))) ∧ (¬ r_9 = 0 → (Q (1 : Int32))))) (nI s) all)) ∧ (y2 = (5 : Int32) → (wX11_its (fun r_11 => (Q r_11)) (nI s) (4 : Int32) all)) ∧ (y2 = (6 : Int32) → (wX11_its (fun r_12 => (Q r_12)) (nI s) (5 : Int32) all)) ∧ (y2 = (7 : Int32) → (wX11_its (fun r_13 => (Q r_13)) (nI s) (6 : Int32) all)) ∧ (y2 = (8 : Int32) → (wX11_its (fun r_14 => (Q r_14)) (nI s) (7 : Int32) all)) ∧ (y2 = (9 : Int32) → (wX11_its (fun r_15 => (Q r_15)) (nI s) (8 : Int32) all)) ∧ ((y2.toInt < (0 : Int) ∨ (9 : Int) < y2.toInt) → (Q (-1 : Int32)))) → wX11_tell Q (nI s) y2 all := fun Q h => by
      unfold wX11_tell
      exact ip_isShip W.g R.g (fun c => (no_ship (by omega) c hs rfl).elim) (fun _ _ _ => ip_F' (by decide) h)
    have it : ∀ (Q : Int32 → Prop) (z : Nat) (x : Int32), z < 12 → all (360 + 12 * s + z) = x → Q x → wX11_its Q (nI s) (nI z) all := fun Q z x hz e h => ip_its s z (by omega) hz (by rw [e]; exact h)
    rw [nI_clamp (by omega)]
    refine ⟨fun e => ?_, fun e => ?_, fun e => ?_, fun e => ?_, fun e => ?_, fun e => ?_, fun e => ?_, fun e => ?_, fun e => ?_, fun e => ?_, fun e => ?_⟩
    · subst e; exact ⟨vs, go _ ⟨fun _ => it _ 0 _ (by omega) (R.g.str s hs) (hK _), fun e_ => absurd e_ (by decide), fun e_ => absurd e_ (by decide), fun e_ => absurd e_ (by decide), fun e_ => absurd e_ (by decide), fun e_ => absurd e_ (by decide), fun e_ => absurd e_ (by decide), fun e_ => absurd e_ (by decide), fun e_ => absurd e_ (by decide), fun e_ => absurd e_ (by decide), fun e_ => absurd e_ (by decide)⟩⟩
    · subst e; exact ⟨vs, go _ ⟨fun e_ => absurd e_ (by decide), fun _ => it _ 1 _ (by omega) (R.g.fuel s hs) (hK _), fun e_ => absurd e_ (by decide), fun e_ => absurd e_ (by decide), fun e_ => absurd e_ (by decide), fun e_ => absurd e_ (by decide), fun e_ => absurd e_ (by decide), fun e_ => absurd e_ (by decide), fun e_ => absurd e_ (by decide), fun e_ => absurd e_ (by decide), fun e_ => absurd e_ (by decide)⟩⟩
    · subst e
      rw [es, show nI (w.g.pl s) / 8 = nI (w.g.pl s / 8) from pk_div (d := 8) (by omega) (by omega) (by omega)]
      exact ⟨vs, go _ ⟨fun e_ => absurd e_ (by decide), fun e_ => absurd e_ (by decide), fun _ => it _ 2 _ (by omega) (R.g.prow s hs) (hK _), fun e_ => absurd e_ (by decide), fun e_ => absurd e_ (by decide), fun e_ => absurd e_ (by decide), fun e_ => absurd e_ (by decide), fun e_ => absurd e_ (by decide), fun e_ => absurd e_ (by decide), fun e_ => absurd e_ (by decide), fun e_ => absurd e_ (by decide)⟩⟩
    · subst e
      rw [es, show nI (w.g.pl s) - nI (w.g.pl s) / 8 * 8 = nI (w.g.pl s % 8) from pk_rem (d := 8) (by omega) (by omega) (by omega)]
      exact ⟨vs, go _ ⟨fun e_ => absurd e_ (by decide), fun e_ => absurd e_ (by decide), fun e_ => absurd e_ (by decide), fun _ => it _ 3 _ (by omega) (R.g.pcol s hs) (hK _), fun e_ => absurd e_ (by decide), fun e_ => absurd e_ (by decide), fun e_ => absurd e_ (by decide), fun e_ => absurd e_ (by decide), fun e_ => absurd e_ (by decide), fun e_ => absurd e_ (by decide), fun e_ => absurd e_ (by decide)⟩⟩
    · subst e
      refine ip_held W.g hs ?_
      have go4 : ∀ Q : Int32 → Prop, Q (bI (w.g.held s)) → wX11_tell Q (nI s) 4 all := fun Q h => go Q (by
        refine ⟨fun e_ => absurd e_ (by decide), fun e_ => absurd e_ (by decide), fun e_ => absurd e_ (by decide), fun e_ => absurd e_ (by decide), fun _ => ip_isHeld W.g R.g hs ?_, fun e_ => absurd e_ (by decide), fun e_ => absurd e_ (by decide), fun e_ => absurd e_ (by decide), fun e_ => absurd e_ (by decide), fun e_ => absurd e_ (by decide), fun e_ => absurd e_ (by decide)⟩
        by_cases b : w.g.held s
        · rw [bI_T b] at h ⊢; exact ip_F (by decide) h
        · rw [bI_F b] at h ⊢; exact ip_T rfl h)
      by_cases b : w.g.held s
      · rw [bI_T b] at go4 ⊢; exact ip_F (by decide) (go4 _ (hK _))
      · rw [bI_F b] at go4 ⊢; exact ip_T rfl (go4 _ (hK _))
    · subst e; exact ⟨vs, go _ ⟨fun e_ => absurd e_ (by decide), fun e_ => absurd e_ (by decide), fun e_ => absurd e_ (by decide), fun e_ => absurd e_ (by decide), fun e_ => absurd e_ (by decide), fun _ => it _ 4 _ (by omega) (R.g.told s hs) (hK _), fun e_ => absurd e_ (by decide), fun e_ => absurd e_ (by decide), fun e_ => absurd e_ (by decide), fun e_ => absurd e_ (by decide), fun e_ => absurd e_ (by decide)⟩⟩
    · subst e; exact ⟨vs, go _ ⟨fun e_ => absurd e_ (by decide), fun e_ => absurd e_ (by decide), fun e_ => absurd e_ (by decide), fun e_ => absurd e_ (by decide), fun e_ => absurd e_ (by decide), fun e_ => absurd e_ (by decide), fun _ => it _ 5 _ (by omega) (R.g.moved s hs) (hK _), fun e_ => absurd e_ (by decide), fun e_ => absurd e_ (by decide), fun e_ => absurd e_ (by decide), fun e_ => absurd e_ (by decide)⟩⟩
    · subst e; exact ⟨vs, go _ ⟨fun e_ => absurd e_ (by decide), fun e_ => absurd e_ (by decide), fun e_ => absurd e_ (by decide), fun e_ => absurd e_ (by decide), fun e_ => absurd e_ (by decide), fun e_ => absurd e_ (by decide), fun e_ => absurd e_ (by decide), fun _ => it _ 6 _ (by omega) (R.g.line s hs) (hK _), fun e_ => absurd e_ (by decide), fun e_ => absurd e_ (by decide), fun e_ => absurd e_ (by decide)⟩⟩
    · subst e
      have h0 := R.g.done s hs
      exact ⟨vs, fun e => go _ ⟨fun e_ => absurd e_ (by decide), fun e_ => absurd e_ (by decide), fun e_ => absurd e_ (by decide), fun e_ => absurd e_ (by decide), fun e_ => absurd e_ (by decide), fun e_ => absurd e_ (by decide), fun e_ => absurd e_ (by decide), fun e_ => absurd e_ (by decide), fun _ => it _ 7 _ (by omega) (h0.trans e) (hK _), fun e_ => absurd e_ (by decide), fun e_ => absurd e_ (by decide)⟩, fun e => go _ ⟨fun e_ => absurd e_ (by decide), fun e_ => absurd e_ (by decide), fun e_ => absurd e_ (by decide), fun e_ => absurd e_ (by decide), fun e_ => absurd e_ (by decide), fun e_ => absurd e_ (by decide), fun e_ => absurd e_ (by decide), fun e_ => absurd e_ (by decide), fun _ => it _ 7 _ (by omega) (h0.trans ((W.g.done s (by omega)).resolve_left e)) (hK _), fun e_ => absurd e_ (by decide), fun e_ => absurd e_ (by decide)⟩⟩
    · subst e
      exact ip_linesOf (by omega) (R.g.ord s hs) (go _ ⟨fun e_ => absurd e_ (by decide), fun e_ => absurd e_ (by decide), fun e_ => absurd e_ (by decide), fun e_ => absurd e_ (by decide), fun e_ => absurd e_ (by decide), fun e_ => absurd e_ (by decide), fun e_ => absurd e_ (by decide), fun e_ => absurd e_ (by decide), fun e_ => absurd e_ (by decide), fun _ => it _ 8 _ (by omega) rfl (hK _), fun e_ => absurd e_ (by decide)⟩)
    · have nn : ∀ z : Nat, z ≤ 9 → ¬ y2 = nI z := fun z hz q => by
        subst q; rw [nI_toInt (by omega)] at e; omega
      exact go _ ⟨fun q => absurd q (nn 0 (by omega)), fun q => absurd q (nn 1 (by omega)), fun q => absurd q (nn 2 (by omega)), fun q => absurd q (nn 3 (by omega)), fun q => absurd q (nn 4 (by omega)), fun q => absurd q (nn 5 (by omega)), fun q => absurd q (nn 6 (by omega)), fun q => absurd q (nn 7 (by omega)), fun q => absurd q (nn 8 (by omega)), fun q => absurd q (nn 9 (by omega)), fun _ => hK _⟩
