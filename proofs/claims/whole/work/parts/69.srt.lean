-- deps: 31.law 32.nat 33.bit 34.spec 35.riv 36.let 37.mod 38.mod 39.it 40.ahead 41.rel 42.ask 43.why 44.meet 45.err 46.err 47.wk 48.chg 50.ways 51.way 52.tray 57.undo 63.seen 67.wth 68.mwk
/-! ===== people whom the week can help ===== -/
def gl (r : sR) (p : Nat) : Nat := (rTo r p).getD 0
def lm (r : sR) (s : sS) (p : Nat) : Nat := (lft r s p).getD 0
/-- an open errand -/
def opn (r : sR) (s : sS) (p : Nat) : Prop := p < rP r ∧ rTo r p = some (gl r p) ∧ lft r s p = some (lm r s p) ∧ lm r s p ≤ 60
theorem opn.e {r : sR} {s : sS} {p : Nat} (h : opn r s p) : (rTo r p).isSome = true := by rw [h.2.1]; rfl
theorem cm_m {r : sR} {s : sS} {wk : Nat → Option Nat} {p g b m : Nat} (hg : rTo r p = some g) (hb : rBy r p = some b) (hm : lft r s p = some m) : cm r s wk p = true ↔ ∃ n, n ≤ m ∧ (it r s wk p 0 (1 <<< sP s p) n).testBit g = true := by
  rw [cm_iff hg hb]
  unfold lft at hm
  rw [hb] at hm
  simp only at hm
  by_cases c : sH s ≤ b
  · rw [if_pos c] at hm
    cases hm
    constructor
    · rintro ⟨n, h1, h2, h3⟩; exact ⟨n, by omega, h2⟩
    · rintro ⟨n, h1, h2⟩; exact ⟨n, by omega, h2, by omega⟩
  · rw [if_neg c] at hm; cases hm
theorem cm_late {r : sR} {s : sS} {wk : Nat → Option Nat} {p g b : Nat} (hg : rTo r p = some g) (hb : rBy r p = some b) (hm : lft r s p = none) : cm r s wk p = false := by
  cases h : cm r s wk p with
  | false => rfl
  | true =>
    rw [cm_iff hg hb] at h
    obtain ⟨n, h1, h2, h3⟩ := h
    unfold lft at hm
    rw [hb] at hm
    simp only at hm
    rw [if_pos (by omega)] at hm
    cases hm
theorem opn.cm {r : sR} {s : sS} {wk : Nat → Option Nat} {p : Nat} (hr : vR r) (h : opn r s p) : cm r s wk p = true ↔ ∃ n, n ≤ lm r s p ∧ (it r s wk p 0 (1 <<< sP s p) n).testBit (gl r p) = true := by
  obtain ⟨_, b, hb, _⟩ := (hr.2.2.2.2.2 p h.1).2.1 _ h.2.1
  exact cm_m h.2.1 hb h.2.2.1
theorem n_left {h : am_H} {r : sR} {s : sS} {p : Nat} (V : tV h r s) (o : opn r s p) : f_Weeks_hoursLeft (nI p) h = some (nI (lm r s p)) := by
  obtain ⟨_, b, hb, hb1⟩ := (V.1.2.2.2.2.2 p o.1).2.1 _ o.2.1
  rcases n_hoursLeft V o.1 hb hb1 with ⟨m, e1, e2, e3⟩ | ⟨e1, _⟩
  · rw [o.2.2.1] at e1
    cases e1
    exact e3
  · rw [o.2.2.1] at e1; cases e1
/-- where one can be, until one is there or it is too late -/
def stt (r : sR) (s : sS) (wk : Nat → Option Nat) (p : Nat) : Nat → Nat
  | 0 => 1 <<< sP s p
  | t + 1 => if lm r s p ≤ t then stt r s wk p t else if (stt r s wk p t).testBit (gl r p) then stt r s wk p t else stp r s wk p t (stt r s wk p t)
theorem it_up {r : sR} {s : sS} {wk : Nat → Option Nat} {p fr x j : Nat} : ∀ {n m : Nat}, n ≤ m → (it r s wk p fr x n).testBit j = true → (it r s wk p fr x m).testBit j = true
  | n, 0, h, hj => by rw [show n = 0 by omega] at hj; exact hj
  | n, m + 1, h, hj => by
    by_cases c : n = m + 1
    · rw [← c]; exact hj
    · exact go_sub (it_up (show n ≤ m by omega) hj)
theorem stt_ok {r : sR} {s : sS} {wk : Nat → Option Nat} {p : Nat} : ∀ t, ((stt r s wk p t).testBit (gl r p) = true ↔ ∃ n, n ≤ t ∧ n ≤ lm r s p ∧ (it r s wk p 0 (1 <<< sP s p) n).testBit (gl r p) = true) ∧ (t ≤ lm r s p → (stt r s wk p t).testBit (gl r p) = false → stt r s wk p t = it r s wk p 0 (1 <<< sP s p) t)
  | 0 => by
    refine ⟨⟨fun h => ⟨0, by omega, by omega, h⟩, fun ⟨n, h1, _, h3⟩ => ?_⟩, fun _ _ => rfl⟩
    rw [show n = 0 by omega] at h3
    exact h3
  | t + 1 => by
    obtain ⟨i1, i2⟩ := stt_ok (r := r) (s := s) (wk := wk) (p := p) t
    rw [stt]
    by_cases c : lm r s p ≤ t
    · rw [if_pos c]
      refine ⟨⟨fun h => ?_, fun ⟨n, h1, h2, h3⟩ => i1.mpr ⟨n, by omega, h2, h3⟩⟩, fun h => by omega⟩
      obtain ⟨n, h1, h2, h3⟩ := i1.mp h
      exact ⟨n, by omega, h2, h3⟩
    · rw [if_neg c]
      cases d : (stt r s wk p t).testBit (gl r p) with
      | true =>
        rw [if_tt]
        refine ⟨⟨fun _ => ?_, fun _ => d⟩, fun _ h => by rw [d] at h; cases h⟩
        obtain ⟨n, h1, h2, h3⟩ := i1.mp d
        exact ⟨n, by omega, h2, h3⟩
      | false =>
        have e := i2 (by omega) d
        have e2 : stp r s wk p t (stt r s wk p t) = it r s wk p 0 (1 <<< sP s p) (t + 1) := by
          rw [e, it, Nat.zero_add]
        rw [if_ff, e2]
        refine ⟨⟨fun h => ⟨t + 1, by omega, by omega, h⟩, fun ⟨n, h1, h2, h3⟩ => ?_⟩, fun _ _ => rfl⟩
        exact it_up (by omega) h3
theorem stt_v {r : sR} {s : sS} {wk : Nat → Option Nat} {p : Nat} (hr : vR r) (hw : vW r wk) (hs : vSp (rG r) (sP s p)) : ∀ t, vSet (rG r) (stt r s wk p t)
  | 0 => one_v hs
  | t + 1 => by
    rw [stt]
    split
    · exact stt_v hr hw hs t
    · split
      · exact stt_v hr hw hs t
      · exact stp_v hr hw (stt_v hr hw hs t)
/-- two weeks that agree in the first hours to come -/
def AgO (r : sR) (s : sS) (t : Nat) (v w : Nat → Option Nat) : Prop := ∀ j, j < t → v (kN r s j) = w (kN r s j)
theorem stt_cg {r : sR} {s : sS} {v w : Nat → Option Nat} {p : Nat} : ∀ t, AgO r s t v w → stt r s v p t = stt r s w p t
  | 0, _ => rfl
  | t + 1, h => by
    have e := stt_cg (p := p) t (fun j hj => h j (by omega))
    have e2 : stp r s v p t (stt r s w p t) = stp r s w p t (stt r s w p t) := by
      have hj := h t (by omega)
      unfold kN at hj
      unfold stp
      rw [hj]
    rw [stt, stt, e, e2]
/-- all gaps at once -/
def uni (r : sR) (s : sS) (p t x : Nat) : Nat → Nat
  | 0 => x
  | g + 1 => uni r s p t x g ||| go r p (kN r s t) (fg s t) (some g) x
def cal (r : sR) (s : sS) (p : Nat) : Nat → Nat
  | 0 => 1 <<< sP s p
  | t + 1 => uni r s p t (cal r s p t) (rG r)
theorem uni_sub {r : sR} {s : sS} {p t x j : Nat} : ∀ n, x.testBit j = true → (uni r s p t x n).testBit j = true
  | 0, h => h
  | n + 1, h => by rw [uni, Nat.testBit_or, uni_sub n h, Bool.true_or]
theorem uni_go {r : sR} {s : sS} {p t x j g : Nat} : ∀ n, g < n → (go r p (kN r s t) (fg s t) (some g) x).testBit j = true → (uni r s p t x n).testBit j = true
  | 0, h, _ => by omega
  | n + 1, h, hj => by
    rw [uni, Nat.testBit_or]
    by_cases c : g = n
    · subst c; rw [hj, Bool.or_true]
    · rw [uni_go n (by omega) hj, Bool.true_or]
theorem uni_v {r : sR} {s : sS} {p t x : Nat} (hr : vR r) (hx : vSet (rG r) x) : ∀ n, n ≤ rG r → vSet (rG r) (uni r s p t x n)
  | 0, _ => hx
  | n + 1, hn => fun j hj => by
    rw [uni, Nat.testBit_or, Bool.or_eq_true] at hj
    rcases hj with h | h
    · exact uni_v hr hx n (by omega) j h
    · exact go_v hr (fun g hg => by cases hg; omega) hx j h
theorem cal_v {r : sR} {s : sS} {p : Nat} (hr : vR r) (hs : vSp (rG r) (sP s p)) : ∀ t, vSet (rG r) (cal r s p t)
  | 0 => one_v hs
  | t + 1 => uni_v hr (cal_v hr hs t) _ (Nat.le_refl _)
theorem cal_it {r : sR} {s : sS} {wk : Nat → Option Nat} {p : Nat} (hr : vR r) (hw : vW r wk) : ∀ t j, (it r s wk p 0 (1 <<< sP s p) t).testBit j = true → (cal r s p t).testBit j = true
  | 0, j, h => h
  | t + 1, j, h => by
    have hG := hr.1
    have hk := kN_lt hr s t
    rw [it, Nat.zero_add] at h
    have h' : (go r p (kN r s t) (fg s t) (wk (kN r s t)) (it r s wk p 0 (1 <<< sP s p) t)).testBit j = true := h
    rw [cal]
    cases e : wk (kN r s t) with
    | none =>
      rw [e, go_nx (fun g hg => by cases hg)] at h'
      obtain ⟨x, h1, h2⟩ := h'
      refine uni_go (g := 0) _ (by omega) ?_
      rw [go_nx (fun g hg => by cases hg; omega)]
      exact ⟨x, cal_it hr hw t x h1, nx_le h2⟩
    | some g =>
      have hg := hw _ hk g e
      rw [e, go_nx (fun g' hg' => by cases hg'; omega)] at h'
      obtain ⟨x, h1, h2⟩ := h'
      refine uni_go (g := g) _ hg ?_
      rw [go_nx (fun g' hg' => by cases hg'; omega)]
      exact ⟨x, cal_it hr hw t x h1, h2⟩
theorem cal_up {r : sR} {s : sS} {p j : Nat} : ∀ {n m : Nat}, n ≤ m → (cal r s p n).testBit j = true → (cal r s p m).testBit j = true
  | n, 0, h, hj => by rw [show n = 0 by omega] at hj; exact hj
  | n, m + 1, h, hj => by
    by_cases c : n = m + 1
    · rw [← c]; exact hj
    · rw [cal]; exact uni_sub _ (cal_up (show n ≤ m by omega) hj)
theorem n_cb45 {h : am_H} {r : sR} {s : sS} {p t x : Nat} {v3 v4 : Int32} (V : tV h r s) (hp : p < rP r) (hx : x < 512) : ∃ y, f_Weeks_comesByAll_L45 (nI p) am_fu (nI x) v3 v4 (nI (12 * p + 2 * kN r s t + fg s t)) (nI x) 0 h = some (nI (uni r s p t x (rG r)), y) := by
  have hG := V.hG
  obtain ⟨c, f1, f2⟩ := lpc2 (fun m (a1 : Int32) (a2 : Int32) => f_Weeks_comesByAll_L45 (nI p) m (nI x) v3 v4 (nI (12 * p + 2 * kN r s t + fg s t)) a1 a2 h) (rG r)
    (fun g a1 a2 => a1 = nI (uni r s p t x g) ∧ a2 = nI g) (fun d => d.1 = nI (uni r s p t x (rG r)))
    (fun m g a1 a2 hg hI => by
      obtain ⟨rfl, rfl⟩ := hI
      have e : f_River_spread 1 (nI (12 * p + 2 * kN r s t + fg s t)) (nI x) (nI g) h = _ := n_spread (l := some g) V.1 V.2.2.1 hp (kN_lt V.1 s t) (fg_lt _ _) hx (fun g' hg' => by cases hg'; exact hg)
      rw [f_Weeks_comesByAll_L45, V.g, if_neg (nI_ge hg (by omega)), e, Option.bind_some]
      exact ⟨_, _, rfl, nI_or _ _, nI_up⟩)
    (fun m a1 a2 hI => by
      obtain ⟨rfl, rfl⟩ := hI
      rw [f_Weeks_comesByAll_L45, V.g, if_pos (nI_le (Nat.le_refl _) (by omega))]
      exact ⟨_, rfl, rfl⟩) (by unfold am_fu; omega) (nI x) 0 ⟨rfl, rfl⟩
  obtain ⟨c1, c2⟩ := c
  simp only at f2
  subst f2
  exact ⟨c2, f1⟩
/-- could one come, if the span lay at all gaps? -/
def cba (r : sR) (s : sS) (p : Nat) : Bool := match lft r s p with
  | none => false
  | some m => (cal r s p m).testBit (gl r p)
theorem n_cba {h : am_H} {r : sR} {s : sS} {p : Nat} (V : tV h r s) (hp : p < rP r) (he : (rTo r p).isSome = true) : f_Weeks_comesByAll (nI p) h = some (cba r s p) := by
  have hP := V.hP
  have hG := V.hG
  have hH := V.hH
  have hsp := V.hsp hp
  have hx9 : sP s p < 9 := by rcases hsp with c | c <;> omega
  obtain ⟨g, hg⟩ := Option.isSome_iff_exists.mp he
  obtain ⟨hg1, b, hb, hb1⟩ := (V.1.2.2.2.2.2 p hp).2.1 g hg
  have hgl : gl r p = g := by unfold gl; rw [hg]; rfl
  unfold f_Weeks_comesByAll cba
  rw [n_rd (by omega) (by decide), Option.bind_some, V.sp hp, shl1 (by omega)]
  rcases n_hoursLeft V hp hb hb1 with ⟨m, e1, e2, e3⟩ | ⟨e1, y, e2, e3⟩
  · obtain ⟨c, f1, f2⟩ := lpc2 (fun k (a1 : Int32) (a2 : Int32) => f_Weeks_comesByAll_L21 (nI p) k a1 (nI m) a2 h) m
      (fun t a1 a2 => a1 = nI (cal r s p t) ∧ a2 = nI t) (fun d => d.1 = nI (cal r s p m))
      (fun k t a1 a2 ht hI => by
        obtain ⟨rfl, rfl⟩ := hI
        obtain ⟨y, e⟩ := n_cb45 (t := t) (v3 := nI m) (v4 := nI t) V hp ((cal_v V.1 hsp t).lt hG.2)
        have e' : f_Weeks_comesByAll_L45 (nI p) am_fu (nI (cal r s p t)) (nI m) (nI t) (nI (12 * p + 2 * ((sH s + t) % rW r) + fg s t)) (nI (cal r s p t)) 0 h = _ := e
        rw [f_Weeks_comesByAll_L21, if_neg (nI_ge ht (by omega)), n_rowIn V (by omega), Option.bind_some, e', Option.bind_some]
        exact ⟨_, _, rfl, rfl, nI_up⟩)
      (fun k a1 a2 hI => by
        obtain ⟨rfl, rfl⟩ := hI
        rw [f_Weeks_comesByAll_L21, if_pos (nI_le (Nat.le_refl _) (by omega))]
        exact ⟨_, rfl, rfl⟩) (by unfold am_fu; omega) (nI (1 <<< sP s p)) 0 ⟨rfl, rfl⟩
    have hc5 := (cal_v (p := p) V.1 hsp m).lt hG.2
    rw [e3, Option.bind_some, f1, Option.bind_some, if_neg (nI_pos (by omega)), n_rd (by omega) (by decide), Option.bind_some, V.to hp, hg, oI_some, f2, n_hasBit (by omega) (by omega), Option.bind_some, e1, hgl]
    show _ = some ((cal r s p m).testBit g)
    cases (cal r s p m).testBit g <;> rfl
  · rw [e3, Option.bind_some]
    have : ∃ z, f_Weeks_comesByAll_L21 (nI p) am_fu (nI (1 <<< sP s p)) y 0 h = some z := by
      refine ⟨(nI (1 <<< sP s p), 0), ?_⟩
      show f_Weeks_comesByAll_L21 (nI p) (4999 + 1) _ _ _ h = _
      rw [f_Weeks_comesByAll_L21, if_pos (show y ≤ (0 : Int32) from Int32.le_of_lt e2)]
    obtain ⟨z, ez⟩ := this
    rw [ez, Option.bind_some, if_pos e2, e1]
theorem cba_no {r : sR} {s : sS} {wk : Nat → Option Nat} {p : Nat} (hr : vR r) (hw : vW r wk) (hp : p < rP r) (he : (rTo r p).isSome = true) (h : cba r s p = false) : cm r s wk p = false := by
  obtain ⟨g, hg⟩ := Option.isSome_iff_exists.mp he
  obtain ⟨hg1, b, hb, hb1⟩ := (hr.2.2.2.2.2 p hp).2.1 g hg
  have hgl : gl r p = g := by unfold gl; rw [hg]; rfl
  cases hm : lft r s p with
  | none => exact cm_late hg hb hm
  | some m =>
    cases hc : cm r s wk p with
    | false => rfl
    | true =>
      rw [cm_m hg hb hm] at hc
      obtain ⟨n, h1, h2⟩ := hc
      unfold cba at h
      rw [hm] at h
      simp only at h
      rw [hgl, cal_up h1 (cal_it hr hw n g h2)] at h
      cases h
theorem cba_op {r : sR} {s : sS} {p : Nat} (hp : p < rP r) (he : (rTo r p).isSome = true) (h : cba r s p = true) : opn r s p := by
  obtain ⟨g, hg⟩ := Option.isSome_iff_exists.mp he
  have hgl : gl r p = g := by unfold gl; rw [hg]; rfl
  cases hm : lft r s p with
  | none => unfold cba at h; rw [hm] at h; cases h
  | some m =>
    have hlm : lm r s p = m := by unfold lm; rw [hm]; rfl
    refine ⟨hp, by rw [hgl]; exact hg, by rw [hlm]; exact hm, ?_⟩
    rw [hlm]
    unfold lft at hm
    cases hb : rBy r p with
    | none => rw [hb] at hm; cases hm
    | some b =>
      rw [hb] at hm
      simp only at hm
      by_cases c : sH s ≤ b
      · rw [if_pos c] at hm; cases hm; omega
      · rw [if_neg c] at hm; cases hm
/-! ===== sorted ===== -/
def srn (r : sR) (s : sS) (t su no hl : Nat) (op : Nat → Nat) : Prop := su + no + hl ≤ t ∧ (∀ i, i < no → opn r s (op i)) ∧ (∀ wk, vW r wk → cnt (fun p => (rTo r p).isSome && iT r s wk p 0) t = su + cnt (fun i => cm r s wk (op i)) no) ∧ cnt (fun p => (rTo r p).isSome) t = su + no + hl
def srt (r : sR) (s : sS) (su no hl : Nat) (op : Nat → Nat) : Prop := srn r s (rP r) su no hl op
theorem cnt_up {f : Nat → Bool} {op : Nat → Nat} {g : Nat → Bool} {n x : Nat} (hf : ∀ i, i < n → f i = g (op i)) : cnt (fun i => g (va_up op n x i)) (n + 1) = cnt f n + (if g x then 1 else 0) := by
  rw [cnt_s, up_s, cnt_cg (g := f) (fun i hi => by rw [up_n (by omega), hf i hi])]
/-- the class's heap of sorted people -/
def tO (h : am_H) (r : sR) (s : sS) (su no : Nat) (op : Nat → Nat) : Prop := h.2.1 91 11 = nI no ∧ h.2.1 91 12 = nI su ∧ ∀ i, i < no → h.2.1 94 i = nI (op i)
theorem n_fillI {h : am_H} {o L : Nat} {v : Int32} (hL : L < 4000) : ∃ h', f_Arrays_fill o L v h = some h' ∧ am_ex [o] h h' ∧ ∀ j, j < L → h'.2.1 o j = v := by
  obtain ⟨b, f1, f2⟩ := lpc2 (fun k (a1 : Int32) (a2 : am_H) => f_Arrays_fill_L5 o L v k a1 (nI L) a2) L
    (fun t a1 a2 => a1 = nI t ∧ am_ex [o] h a2 ∧ ∀ j, j < t → a2.2.1 o j = v)
    (fun b => am_ex [o] h b.2 ∧ ∀ j, j < L → b.2.2.1 o j = v)
    (fun k t a1 a2 ht hI => by
      obtain ⟨rfl, i2, i3⟩ := hI
      rw [f_Arrays_fill_L5, if_neg (nI_ge ht (by omega)), n_wr ht (by omega), Option.bind_some]
      refine ⟨_, _, rfl, nI_up, i2.tr (am_ex.sI (X := [o]) (by simp)) (fun _ z => z) (fun _ z => z), fun j hj => ?_⟩
      rw [sI_row, if_pos rfl]
      by_cases c : j = t
      · subst c; rw [up_s]
      · rw [up_n c]; exact i3 j (by omega))
    (fun k a1 a2 hI => by
      obtain ⟨rfl, i2⟩ := hI
      rw [f_Arrays_fill_L5, if_pos (nI_le (Nat.le_refl _) (by omega))]
      exact ⟨_, rfl, i2⟩) (by unfold am_fu; omega) 0 h ⟨rfl, am_ex.rf, fun j hj => by omega⟩
  have f1' : f_Arrays_fill_L5 o L v am_fu 0 (Int32.ofNat L) h = some b := f1
  unfold f_Arrays_fill
  rw [f1', Option.bind_some]
  exact ⟨_, rfl, f2⟩
theorem n_sort {h : am_H} {r : sR} {s : sS} (V : tV h r s) : ∃ h' su no hl op, f_Weeks_sortPeople h = some h' ∧ srt r s su no hl op ∧ tO h' r s su no op ∧ h'.2.1 91 13 = nI hl ∧ (∀ i, i < no → h'.2.1 95 i = nI (1 <<< sP s (op i))) ∧ (∀ k, k < 6 → h'.2.1 92 k = -1) ∧ am_ex [91, 92, 94, 95] h h' ∧ ∀ j, j < 11 ∨ 13 < j → h'.2.1 91 j = h.2.1 91 j := by
  have hr := V.1
  have hP := V.hP
  have hW := V.hW
  generalize hh3 : am_sI (am_sI (am_sI h 91 11 0) 91 12 0) 91 13 0 = h3
  have x3 : am_ex [91] h h3 := by rw [← hh3]; exact ((am_ex.sI (X := [91]) (by decide)).tr (am_ex.sI (X := [91]) (by decide)) (Z := [91]) (fun _ z => z) (fun _ z => z)).tr (am_ex.sI (X := [91]) (by decide)) (fun _ z => z) (fun _ z => z)
  have r91 : ∀ j, j < 11 ∨ 13 < j → h3.2.1 91 j = h.2.1 91 j := fun j hj => by rw [← hh3, sI_row, if_pos rfl, up_n (by omega), sI_row, if_pos rfl, up_n (by omega), sI_row, if_pos rfl, up_n (by omega)]
  have z11 : h3.2.1 91 11 = 0 := by rw [← hh3, sI_row, if_pos rfl, up_n (by decide), sI_row, if_pos rfl, up_n (by decide), sI_row, if_pos rfl, up_s]
  have z12 : h3.2.1 91 12 = 0 := by rw [← hh3, sI_row, if_pos rfl, up_n (by decide), sI_row, if_pos rfl, up_s]
  have z13 : h3.2.1 91 13 = 0 := by rw [← hh3, sI_row, if_pos rfl, up_s]
  obtain ⟨h4, a1, a2, a3⟩ := n_fillI (h := h3) (o := 92) (L := 6) (v := -1) (by decide)
  have x4 : am_ex [91, 92, 94, 95] h h4 := x3.tr a2 (by decide) (by decide)
  have hnone : vW r (fun _ => none) := fun k hk g hg => by cases hg
  obtain ⟨c, f1, su, no, hl, op, f2, f3, f4, f5, f6, f7, f8⟩ := lpc2 (fun m (a1 : Int32) (a2 : am_H) => f_Weeks_sortPeople_L25 m a1 a2) (rP r)
    (fun t a1 a2 => a1 = nI t ∧ ∃ su no hl op, srn r s t su no hl op ∧ tO a2 r s su no op ∧ a2.2.1 91 13 = nI hl ∧ (∀ i, i < no → a2.2.1 95 i = nI (1 <<< sP s (op i))) ∧ (∀ k, k < 6 → a2.2.1 92 k = -1) ∧ am_ex [91, 92, 94, 95] h a2 ∧ ∀ j, j < 11 ∨ 13 < j → a2.2.1 91 j = h.2.1 91 j)
    (fun c => ∃ su no hl op, srn r s (rP r) su no hl op ∧ tO c.2 r s su no op ∧ c.2.2.1 91 13 = nI hl ∧ (∀ i, i < no → c.2.2.1 95 i = nI (1 <<< sP s (op i))) ∧ (∀ k, k < 6 → c.2.2.1 92 k = -1) ∧ am_ex [91, 92, 94, 95] h c.2 ∧ ∀ j, j < 11 ∨ 13 < j → c.2.2.1 91 j = h.2.1 91 j)
    (fun m t b1 b2 ht hI => by
      obtain ⟨rfl, su, no, hl, op, ⟨s1, s2, s3, s4⟩, ⟨o1, o2, o3⟩, q1, q2, q3, q4, q5⟩ := hI
      have V2 := V.ex q4 (by decide)
      have T2 : tW b2 92 r (fun _ => none) := ⟨hnone, fun k hk => q3 k (by omega)⟩
      rw [f_Weeks_sortPeople_L25, V2.p, if_neg (nI_ge ht (by omega)), n_hasErrand V2 ht, Option.bind_some]
      cases he : (rTo r t).isSome with
      | false =>
        rw [if_ff]
        refine ⟨_, _, rfl, nI_up, su, no, hl, op, ⟨by omega, s2, fun wk hw => ?_, ?_⟩, ⟨o1, o2, o3⟩, q1, q2, q3, q4, q5⟩
        · rw [cnt_s, s3 wk hw, he]; simp
        · rw [cnt_s, s4, he]; simp
      | true =>
        -- sure
        have sure : (∀ wk, vW r wk → iT r s wk t 0 = true) → ∃ d1 d2, f_Weeks_sortPeople_L25 m (nI t + 1) (am_sI b2 91 12 (b2.2.1 91 12 + (1 : Int32))) = f_Weeks_sortPeople_L25 m d1 d2 ∧ d1 = nI (t + 1) ∧ ∃ su no hl op, srn r s (t + 1) su no hl op ∧ tO d2 r s su no op ∧ d2.2.1 91 13 = nI hl ∧ (∀ i, i < no → d2.2.1 95 i = nI (1 <<< sP s (op i))) ∧ (∀ k, k < 6 → d2.2.1 92 k = -1) ∧ am_ex [91, 92, 94, 95] h d2 ∧ ∀ j, j < 11 ∨ 13 < j → d2.2.1 91 j = h.2.1 91 j := fun hs => by
          rw [o2, nI_up, nI_up]
          have ro : ∀ a, a ≠ 91 → (am_sI b2 91 12 (nI (su + 1))).2.1 a = b2.2.1 a := fun a ha => by rw [sI_row, if_neg ha]
          have r1 : ∀ j, j ≠ 12 → (am_sI b2 91 12 (nI (su + 1))).2.1 91 j = b2.2.1 91 j := fun j hj => by rw [sI_row, if_pos rfl, up_n hj]
          refine ⟨_, _, rfl, rfl, su + 1, no, hl, op, ⟨by omega, s2, fun wk hw => ?_, ?_⟩, ⟨by rw [r1 11 (by decide)]; exact o1, by rw [sI_row, if_pos rfl, up_s], fun i hi => by rw [ro 94 (by decide)]; exact o3 i hi⟩, by rw [r1 13 (by decide)]; exact q1, fun i hi => by rw [ro 95 (by decide)]; exact q2 i hi, fun k hk => by rw [ro 92 (by decide)]; exact q3 k hk, q4.tr (am_ex.sI (X := [91]) (by decide)) (fun _ z => z) (by decide), fun j hj => by rw [r1 j (by omega)]; exact q5 j hj⟩
          · rw [cnt_s, s3 wk hw, he, hs wk hw]; simp; omega
          · rw [cnt_s, s4, he]; simp; omega
        rw [if_tt, n_isDone V2 ht, Option.bind_some]
        cases hd : (sD s).testBit t with
        | true =>
          rw [if_tt]
          simp only [am_let]
          exact sure (fun wk _ => iT_done hd)
        | false =>
          have hic : ∀ wk, iT r s wk t 0 = cm r s wk t := fun wk => by rw [iT_cm, hd, Bool.false_or]
          rw [if_ff, n_comes V2 T2 ht he, Option.bind_some]
          cases hc : cm r s (fun _ => none) t with
          | true =>
            rw [if_tt]
            simp only [am_let]
            exact sure (fun wk hw => by rw [hic]; exact cm_mono hr hnone hw (fun k _ => .inl rfl) hc)
          | false =>
            rw [if_ff, n_cba V2 ht he, Option.bind_some]
            cases hb : cba r s t with
            | false =>
              rw [if_ff]
              simp only [am_let]
              rw [q1, nI_up, nI_up]
              have ro : ∀ a, a ≠ 91 → (am_sI b2 91 13 (nI (hl + 1))).2.1 a = b2.2.1 a := fun a ha => by rw [sI_row, if_neg ha]
              have r1 : ∀ j, j ≠ 13 → (am_sI b2 91 13 (nI (hl + 1))).2.1 91 j = b2.2.1 91 j := fun j hj => by rw [sI_row, if_pos rfl, up_n hj]
              refine ⟨_, _, rfl, rfl, su, no, hl + 1, op, ⟨by omega, s2, fun wk hw => ?_, ?_⟩, ⟨by rw [r1 11 (by decide)]; exact o1, by rw [r1 12 (by decide)]; exact o2, fun i hi => by rw [ro 94 (by decide)]; exact o3 i hi⟩, by rw [sI_row, if_pos rfl, up_s], fun i hi => by rw [ro 95 (by decide)]; exact q2 i hi, fun k hk => by rw [ro 92 (by decide)]; exact q3 k hk, q4.tr (am_ex.sI (X := [91]) (by decide)) (fun _ z => z) (by decide), fun j hj => by rw [r1 j (by omega)]; exact q5 j hj⟩
              · rw [cnt_s, s3 wk hw, he, hic, cba_no hr hw ht he hb]; simp
              · rw [cnt_s, s4, he]; simp; omega
            | true =>
              have hop := cba_op ht he hb
              have hsp : sP s t < 9 := by have hG := V.hG; rcases V.hsp ht with c | c <;> omega
              rw [if_tt, o1, n_wr (by omega) (by decide), Option.bind_some]
              generalize hh16 : am_sI b2 94 no (nI t) = h16
              have e16 : ∀ a, a ≠ 94 → h16.2.1 a = b2.2.1 a := fun a ha => by rw [← hh16, sI_row, if_neg ha]
              rw [n_rd (by omega) (by decide), Option.bind_some, e16 12 (by decide), V2.sp ht, shl1 (by omega), e16 91 (by decide), o1, n_wr (by omega) (by decide), Option.bind_some]
              simp only [am_let]
              generalize hh18 : am_sI h16 95 no (nI (1 <<< sP s t)) = h18
              have e18 : ∀ a, a ≠ 95 → h18.2.1 a = h16.2.1 a := fun a ha => by rw [← hh18, sI_row, if_neg ha]
              rw [e18 91 (by decide), e16 91 (by decide), o1, nI_up, nI_up]
              have ro : ∀ a, a ≠ 91 → (am_sI h18 91 11 (nI (no + 1))).2.1 a = h18.2.1 a := fun a ha => by rw [sI_row, if_neg ha]
              have r1 : ∀ j, j ≠ 11 → (am_sI h18 91 11 (nI (no + 1))).2.1 91 j = b2.2.1 91 j := fun j hj => by rw [sI_row, if_pos rfl, up_n hj, e18 91 (by decide), e16 91 (by decide)]
              have xx : am_ex [91, 92, 94, 95] h (am_sI h18 91 11 (nI (no + 1))) := by
                rw [← hh18, ← hh16]
                exact ((q4.tr (am_ex.sI (X := [94]) (by decide)) (Z := [91, 92, 94, 95]) (fun _ z => z) (by decide)).tr (am_ex.sI (X := [95]) (by decide)) (Z := [91, 92, 94, 95]) (fun _ z => z) (by decide)).tr (am_ex.sI (X := [91]) (by decide)) (fun _ z => z) (by decide)
              refine ⟨_, _, rfl, rfl, su, no + 1, hl, va_up op no t, ⟨by omega, fun i hi => ?_, fun wk hw => ?_, ?_⟩, ⟨by rw [sI_row, if_pos rfl, up_s], by rw [r1 12 (by decide)]; exact o2, fun i hi => ?_⟩, by rw [r1 13 (by decide)]; exact q1, fun i hi => ?_, fun k hk => by rw [ro 92 (by decide), e18 92 (by decide), e16 92 (by decide)]; exact q3 k hk, xx, fun j hj => by rw [r1 j (by omega)]; exact q5 j hj⟩
              · by_cases c : i = no
                · rw [c, up_s]; exact hop
                · rw [up_n c]; exact s2 i (by omega)
              · rw [cnt_s, s3 wk hw, he, hic, cnt_up (f := fun i => cm r s wk (op i)) (g := fun p => cm r s wk p) (fun i hi => rfl), Bool.true_and, Nat.add_assoc]
              · rw [cnt_s, s4, he]; simp; omega
              · rw [ro 94 (by decide), e18 94 (by decide), ← hh16, sI_row, if_pos rfl]
                by_cases c : i = no
                · rw [c, up_s, up_s]
                · rw [up_n c, up_n c]; exact o3 i (by omega)
              · rw [ro 95 (by decide), ← hh18, sI_row, if_pos rfl, e16 95 (by decide)]
                by_cases c : i = no
                · rw [c, up_s, up_s]
                · rw [up_n c, up_n c]; exact q2 i (by omega))
    (fun m b1 b2 hI => by
      obtain ⟨rfl, su, no, hl, op, s1, s2, s3, s4, s5, s6, s7⟩ := hI
      have V2 := V.ex s6 (by decide)
      rw [f_Weeks_sortPeople_L25, V2.p, if_pos (nI_le (Nat.le_refl _) (by omega))]
      exact ⟨_, rfl, su, no, hl, op, s1, s2, s3, s4, s5, s6, s7⟩) (by unfold am_fu; omega) 0 h4 ⟨rfl, 0, 0, 0, fun _ => 0, ⟨by omega, (fun i hi => by omega), fun _ _ => rfl, rfl⟩, ⟨by rw [a2.2.2 91 (by decide)]; exact z11, by rw [a2.2.2 91 (by decide)]; exact z12, fun i hi => by omega⟩, by rw [a2.2.2 91 (by decide)]; exact z13, (fun i hi => by omega), a3, x4, fun j hj => by rw [a2.2.2 91 (by decide)]; exact r91 j hj⟩
  refine ⟨c.2, su, no, hl, op, ?_, f2, f3, f4, f5, f6, f7, f8⟩
  unfold f_Weeks_sortPeople
  simp only [am_let]
  rw [hh3, a1, Option.bind_some, f1, Option.bind_some]
