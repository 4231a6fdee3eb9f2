-- deps: 31.law 32.nat 33.bit 34.spec 35.riv 36.let 37.mod 38.mod 39.it 40.ahead 41.rel 42.ask 43.why 44.meet 45.err 46.err 47.wk 48.chg 50.ways 51.way 52.tray 57.undo 63.seen 67.wth 68.mwk 69.srt
/-! ===== the class's search ===== -/
def tL (h : am_H) (r : sR) (s : sS) (no : Nat) (op : Nat → Nat) (t : Nat) (wk : Nat → Option Nat) : Prop := ∀ j, j ≤ t → ∀ i, i < no → h.2.1 95 (5 * j + i) = nI (stt r s wk (op i) j)
theorem tL.cg {h : am_H} {r : sR} {s : sS} {no t : Nat} {op : Nat → Nat} {v w : Nat → Option Nat} (L : tL h r s no op t v) (e : AgO r s t v w) : tL h r s no op t w := fun j hj i hi => by
  rw [L j hj i hi, stt_cg j (fun k hk => e k (by omega))]
theorem e5_ (t i : Nat) : nI t * (5 : Int32) + nI i = nI (5 * t + i) := by
  have : nI t * (5 : Int32) = nI (t * 5) := nI_mul t 5
  rw [this, nI_add, Nat.mul_comm]
theorem n_openComes {h : am_H} {r : sR} {s : sS} {su no hl t i : Nat} {op : Nat → Nat} {wk : Nat → Option Nat} (V : tV h r s) (S : srt r s su no hl op) (O : tO h r s su no op) (T : tW h 92 r wk) (L : tL h r s no op t wk) (ht : t ≤ 6) (hi : i < no) : f_Weeks_openComes (nI i) (nI t) h = some (cm r s wk (op i)) := by
  have hr := V.1
  have hP := V.hP
  have hG := V.hG
  have hno : no ≤ 5 := by have := S.1; omega
  have o := S.2.1 i hi
  have hg8 : gl r (op i) < 2 * rG r := ((hr.2.2.2.2.2 _ o.1).2.1 _ o.2.1).1
  have hv := stt_v (wk := wk) (p := op i) hr T.1 (V.hsp o.1) t
  have h5 := hv.lt hG.2
  obtain ⟨k1, k2⟩ := stt_ok (r := r) (s := s) (wk := wk) (p := op i) t
  have hcm := o.cm (wk := wk) hr
  have hop := o.1
  unfold f_Weeks_openComes
  rw [n_rd (by omega) (by decide), Option.bind_some, O.2.2 i hi, e5_, n_rd (by omega) (by decide), Option.bind_some, L t (Nat.le_refl _) i hi, n_rd (by omega) (by decide), Option.bind_some, V.to o.1, o.2.1, oI_some, n_hasBit (by omega) (by omega), Option.bind_some]
  cases hb : (stt r s wk (op i) t).testBit (gl r (op i)) with
  | true =>
    rw [if_tt]
    have : cm r s wk (op i) = true := by
      rw [hcm]
      obtain ⟨n, h1, h2, h3⟩ := k1.mp hb
      exact ⟨n, h2, h3⟩
    rw [this]
  | false =>
    have hno1 : ∀ n, n ≤ t → n ≤ lm r s (op i) → (it r s wk (op i) 0 (1 <<< sP s (op i)) n).testBit (gl r (op i)) = false := fun n h1 h2 => by
      cases q : (it r s wk (op i) 0 (1 <<< sP s (op i)) n).testBit (gl r (op i)) with
      | false => rfl
      | true =>
        have := k1.mpr ⟨n, h1, h2, q⟩
        rw [hb] at this; cases this
    rw [if_ff, Option.bind_some, n_left V o, Option.bind_some]
    have hlm := o.2.2.2
    by_cases c : t ≤ lm r s (op i)
    · have e := k2 c hb
      rw [nI_sub c, n_hoursFrom V T o.1 hv (by omega) (by omega) (by omega), Option.bind_some, e]
      cases hf : ff (fun n => (it r s wk (op i) t (it r s wk (op i) 0 (1 <<< sP s (op i)) t) n).testBit (gl r (op i))) 0 (lm r s (op i) - t + 1) with
      | none =>
        rw [oI_none, if_pos rfl]
        congr 1
        symm
        cases q : cm r s wk (op i) with
        | false => rfl
        | true =>
          exfalso
          obtain ⟨n, h1, h2⟩ := hcm.mp q
          by_cases d : n ≤ t
          · rw [hno1 n d h1] at h2; cases h2
          · have := ff_none hf (n - t) (by omega) (by omega)
            have ea := it_add (r := r) (s := s) (wk := wk) (p := op i) (fr := 0) (x := 1 <<< sP s (op i)) (m := t) (n - t)
            rw [show t + (n - t) = n by omega, Nat.zero_add] at ea
            rw [← ea, h2] at this
            cases this
      | some n =>
        obtain ⟨_, f2, f3, _⟩ := ff_some hf
        rw [oI_some, if_neg (nI_nm1 (by omega))]
        congr 1
        symm
        rw [hcm]
        have ea := it_add (r := r) (s := s) (wk := wk) (p := op i) (fr := 0) (x := 1 <<< sP s (op i)) (m := t) n
        rw [Nat.zero_add] at ea
        exact ⟨t + n, by omega, by rw [ea]; exact f3⟩
    · have e0 : f_Ahead_hoursFrom (nI (op i)) (nI (stt r s wk (op i) t)) (nI (gl r (op i))) 92 6 (nI t) (nI (lm r s (op i)) - nI t) h = some (oI none) := n_hoursFrom' V (by omega) (sub_neg (by omega) (by omega) (by omega))
      rw [e0, Option.bind_some, oI_none, if_pos rfl]
      congr 1
      symm
      cases q : cm r s wk (op i) with
      | false => rfl
      | true =>
        exfalso
        obtain ⟨n, h1, h2⟩ := hcm.mp q
        rw [hno1 n (by omega) h1] at h2; cases h2
/-- how many are lost -/
def lst (r : sR) (s : sS) (no : Nat) (op : Nat → Nat) (t : Nat) (wk : Nat → Option Nat) : Nat := cnt (fun i => decide (lm r s (op i) ≤ t) && !(stt r s wk (op i) t).testBit (gl r (op i))) no
theorem cnt_dis {f g : Nat → Bool} : ∀ {n : Nat}, (∀ i, i < n → f i = true → g i = false) → cnt f n + cnt g n ≤ n
  | 0, _ => by show 0 + 0 ≤ 0; omega
  | n + 1, h => by
    have := cnt_dis (fun i hi => h i (show i < n + 1 by omega)) (n := n)
    have h2 := h n (by omega)
    rw [cnt_s, cnt_s]
    cases hf : f n with
    | true => rw [h2 hf, if_tt, if_ff]; omega
    | false => rw [if_ff]; cases g n <;> simp <;> omega
theorem lst_le {r : sR} {s : sS} {su no hl t : Nat} {op : Nat → Nat} {v wk : Nat → Option Nat} (hr : vR r) (S : srt r s su no hl op) (hv : vW r v) (e : AgO r s t v wk) : inT r s v + lst r s no op t wk ≤ su + no := by
  have h1 : inT r s v = su + cnt (fun i => cm r s v (op i)) no := S.2.2.1 v hv
  have h2 : cnt (fun i => decide (lm r s (op i) ≤ t) && !(stt r s wk (op i) t).testBit (gl r (op i))) no + cnt (fun i => cm r s v (op i)) no ≤ no := by
    refine cnt_dis (fun i hi hl => ?_)
    rw [Bool.and_eq_true, decide_eq_true_eq] at hl
    have o := S.2.1 i hi
    cases q : cm r s v (op i) with
    | false => rfl
    | true =>
      exfalso
      obtain ⟨n, n1, n2⟩ := (o.cm hr).mp q
      have := (stt_ok (r := r) (s := s) (wk := v) (p := op i) t).1.mpr ⟨n, by omega, n1, n2⟩
      rw [stt_cg t e] at this
      rw [this] at hl
      exact absurd hl.2 (by decide)
  unfold lst
  omega
theorem n_lost {h : am_H} {r : sR} {s : sS} {su no hl t : Nat} {op : Nat → Nat} {wk : Nat → Option Nat} (V : tV h r s) (S : srt r s su no hl op) (O : tO h r s su no op) (hw : vW r wk) (L : tL h r s no op t wk) (ht : t ≤ 6) : f_Weeks_lost (nI t) h = some (nI (lst r s no op t wk)) := by
  have hr := V.1
  have hP := V.hP
  have hG := V.hG
  have hno : no ≤ 5 := by have := S.1; omega
  obtain ⟨c, f1, f2⟩ := lpc2 (fun k (a1 : Int32) (a2 : Int32) => f_Weeks_lost_L4 (nI t) k a1 a2 h) no
    (fun i a1 a2 => a1 = nI (cnt (fun i => decide (lm r s (op i) ≤ t) && !(stt r s wk (op i) t).testBit (gl r (op i))) i) ∧ a2 = nI i)
    (fun d => d.1 = nI (lst r s no op t wk))
    (fun k i a1 a2 hi hI => by
      obtain ⟨rfl, rfl⟩ := hI
      have o := S.2.1 i hi
      have hop := o.1
      have hlm := o.2.2.2
      have hg8 : gl r (op i) < 2 * rG r := ((hr.2.2.2.2.2 _ o.1).2.1 _ o.2.1).1
      have h5 := (stt_v (wk := wk) (p := op i) hr hw (V.hsp o.1) t).lt hG.2
      rw [f_Weeks_lost_L4, O.1, if_neg (nI_ge hi (by omega)), n_rd (by omega) (by decide), Option.bind_some, O.2.2 i hi, n_left V o, Option.bind_some]
      by_cases c : t < lm r s (op i)
      · rw [if_pos (nI_lt c (by omega))]
        exact ⟨_, _, rfl, by rw [cnt_s]; simp [show ¬ lm r s (op i) ≤ t by omega], nI_up⟩
      · rw [if_neg (nI_nlt (by omega) (by omega)), e5_, n_rd (by omega) (by decide), Option.bind_some, L t (Nat.le_refl _) i hi, n_rd (by omega) (by decide), Option.bind_some, V.to o.1, o.2.1, oI_some, n_hasBit (by omega) (by omega), Option.bind_some]
        cases hb : (stt r s wk (op i) t).testBit (gl r (op i)) with
        | true =>
          rw [if_tt]
          exact ⟨_, _, rfl, by rw [cnt_s]; simp [hb], nI_up⟩
        | false =>
          rw [if_ff]
          exact ⟨_, _, rfl, by rw [cnt_s, nI_up]; simp [hb, show lm r s (op i) ≤ t by omega], nI_up⟩)
    (fun k a1 a2 hI => by
      obtain ⟨rfl, rfl⟩ := hI
      rw [f_Weeks_lost_L4, O.1, if_pos (nI_le (Nat.le_refl _) (by omega))]
      exact ⟨_, rfl, rfl⟩) (by unfold am_fu; omega) 0 0 ⟨rfl, rfl⟩
  unfold f_Weeks_lost
  rw [f1, Option.bind_some, f2]
theorem n_stepOpen {h : am_H} {r : sR} {s : sS} {su no hl t : Nat} {op : Nat → Nat} {wk : Nat → Option Nat} (V : tV h r s) (S : srt r s su no hl op) (O : tO h r s su no op) (T : tW h 92 r wk) (L : tL h r s no op t wk) (ht : t < 6) :
    ∃ h', f_Weeks_stepOpen (nI t) (nI (kN r s t)) h = some h' ∧ am_ex [95] h h' ∧ tL h' r s no op (t + 1) wk ∧ ∀ j, j < 5 * (t + 1) → h'.2.1 95 j = h.2.1 95 j := by
  have hr := V.1
  have hP := V.hP
  have hG := V.hG
  have hW := V.hW
  have hF := V.hF
  have hno : no ≤ 5 := by have := S.1; omega
  have hk := kN_lt hr s t
  have hfg : (if nI (sF s) ≤ nI t then (0 : Int32) else (1 : Int32)) = nI (fg s t) := by
    unfold fg
    by_cases d : t < sF s
    · rw [if_pos d, if_neg (nI_ge d (by omega))]; rfl
    · rw [if_neg d, if_pos (nI_le (by omega) (by omega))]; rfl
  obtain ⟨c, f1, f2, f3, f4⟩ := lpc2 (fun k (a1 : Int32) (a2 : am_H) => f_Weeks_stepOpen_L20 (nI t) (nI (kN r s t)) k (nI (fg s t)) a1 a2) no
    (fun i a1 a2 => a1 = nI i ∧ am_ex [95] h a2 ∧ (∀ j, j < 5 * (t + 1) → a2.2.1 95 j = h.2.1 95 j) ∧ ∀ j, j < i → a2.2.1 95 (5 * (t + 1) + j) = nI (stt r s wk (op j) (t + 1)))
    (fun c => am_ex [95] h c.2 ∧ (∀ j, j < 5 * (t + 1) → c.2.2.1 95 j = h.2.1 95 j) ∧ ∀ j, j < no → c.2.2.1 95 (5 * (t + 1) + j) = nI (stt r s wk (op j) (t + 1)))
    (fun k i a1 a2 hi hI => by
      obtain ⟨rfl, x1, r1, r2⟩ := hI
      have V2 := V.ex x1 (by decide)
      have o := S.2.1 i hi
      have hop := o.1
      have hlm := o.2.2.2
      have hg8 : gl r (op i) < 2 * rG r := ((hr.2.2.2.2.2 _ o.1).2.1 _ o.2.1).1
      have h5 := (stt_v (wk := wk) (p := op i) hr T.1 (V.hsp o.1) t).lt hG.2
      have e94 : a2.2.1 94 i = nI (op i) := by rw [x1.2.2 94 (by decide)]; exact O.2.2 i hi
      have e95 : a2.2.1 95 (5 * t + i) = nI (stt r s wk (op i) t) := by rw [r1 _ (by omega)]; exact L t (Nat.le_refl _) i hi
      have e11 : a2.2.1 91 11 = nI no := by rw [x1.2.2 91 (by decide)]; exact O.1
      have hv : ((if nI (lm r s (op i)) ≤ nI t then some (nI (stt r s wk (op i) t)) else (am_rd (a2.2.1 5) 5 (nI (op i))).bind fun x8 => (f_Top_hasBit (nI (stt r s wk (op i) t)) x8 a2).bind fun q9 => (if q9 = true then some (nI (stt r s wk (op i) t)) else (f_River_row (nI (op i)) (nI (kN r s t)) (nI (fg s t)) a2).bind fun q11 => (am_rd (a2.2.1 92) 6 (nI (kN r s t))).bind fun x12 => (f_River_spread 1 q11 (nI (stt r s wk (op i) t)) x12 a2).bind fun q13 => some q13)) : Option Int32) = some (nI (stt r s wk (op i) (t + 1))) := by
        rw [stt]
        by_cases c : lm r s (op i) ≤ t
        · rw [if_pos (nI_le c (by omega)), if_pos c]
        · rw [if_neg (nI_ge (by omega) (by omega)), if_neg c, n_rd (by omega) (by decide), Option.bind_some, V2.to o.1, o.2.1, oI_some, n_hasBit (by omega) (by omega), Option.bind_some]
          cases hb : (stt r s wk (op i) t).testBit (gl r (op i)) with
          | true => rw [if_tt, if_tt]
          | false =>
            have e92 : a2.2.1 92 (kN r s t) = oI (wk (kN r s t)) := by rw [x1.2.2 92 (by decide)]; exact T.2 _ hk
            have es : f_River_spread 1 (nI (12 * op i + 2 * kN r s t + fg s t)) (nI (stt r s wk (op i) t)) (oI (wk (kN r s t))) a2 = some (nI (stp r s wk (op i) t (stt r s wk (op i) t))) := n_spread V2.1 V2.2.2.1 o.1 hk (fg_lt _ _) h5 (T.1 _ hk)
            rw [if_ff, if_ff, n_row (fg_lt _ _), Option.bind_some, n_rd (by omega) (by decide), Option.bind_some, e92, es, Option.bind_some]
      rw [f_Weeks_stepOpen_L20, e11, if_neg (nI_ge hi (by omega)), n_rd (by omega) (by decide), Option.bind_some, e94, e5_, n_rd (by omega) (by decide), Option.bind_some, e95, n_left V2 o, Option.bind_some, hv, Option.bind_some, nI_up, e5_, n_wr (by omega) (by decide), Option.bind_some]
      refine ⟨_, _, rfl, nI_up, x1.tr (am_ex.sI (X := [95]) (by decide)) (fun _ z => z) (fun _ z => z), fun j hj => ?_, fun j hj => ?_⟩
      · rw [sI_row, if_pos rfl, up_n (by omega)]; exact r1 j hj
      · rw [sI_row, if_pos rfl]
        by_cases c : j = i
        · subst c; rw [up_s]
        · rw [up_n (by omega)]; exact r2 j (by omega))
    (fun k a1 a2 hI => by
      obtain ⟨rfl, x1, r1⟩ := hI
      have e11 : a2.2.1 91 11 = nI no := by rw [x1.2.2 91 (by decide)]; exact O.1
      rw [f_Weeks_stepOpen_L20, e11, if_pos (nI_le (Nat.le_refl _) (by omega))]
      exact ⟨_, rfl, x1, r1⟩) (by unfold am_fu; omega) 0 h ⟨rfl, am_ex.rf, fun _ _ => rfl, fun j hj => by omega⟩
  refine ⟨c.2, ?_, f2, fun j hj i hi => ?_, f3⟩
  · unfold f_Weeks_stepOpen
    simp only [am_let]
    rw [V.fo, hfg, f1, Option.bind_some]
  · by_cases q : j = t + 1
    · rw [q]; exact f4 i hi
    · rw [f3 _ (by omega)]; exact L j (by omega) i hi
/-! the best so far -/
def tB (h : am_H) (r : sR) (s : sS) (w : Nat → Option Nat) : Prop := h.2.1 91 5 = nI (inT r s w) ∧ h.2.1 91 6 = nI (mvs (rW r) w) ∧ (∀ k, k < rW r → h.2.1 93 k = oI (w k)) ∧ wG r w
def tBo (h : am_H) (r : sR) (s : sS) (o : Option (Nat → Option Nat)) : Prop := (o = none → h.2.1 91 5 = -1) ∧ ∀ w, o = some w → tB h r s w
theorem n_tif {h : am_H} {r : sR} {s : sS} {wk w : Nat → Option Nat} (V : tV h r s) (T : tW h 92 r wk) (hw : wG r wk) (hw2 : wG r w) (e : ∀ k, k < rW r → h.2.1 93 k = oI (w k)) : ∃ b, f_Weeks_trialIsFirst h = some b ∧ (b = true ↔ lxl r wk w) := by
  have hr := V.1
  have hW := V.hW
  have hG := V.hG
  have L := lp (fun k (a : Int32) => f_Weeks_trialIsFirst_L2 k a h)
    (fun m a => ∃ t, m + t = rW r ∧ a = nI t ∧ ∀ k, k < t → wk k = w k)
    (fun b => b = true ↔ lxl r wk w)
    (fun k m a hI => by
      obtain ⟨t, h1, rfl, h3⟩ := hI
      rw [f_Weeks_trialIsFirst_L2, V.w]
      by_cases c : t < rW r
      · obtain ⟨g1, x1, y1⟩ := hw t c
        obtain ⟨g2, x2, y2⟩ := hw2 t c
        rw [if_neg (nI_ge c (by omega)), n_rd (by omega) (by decide), Option.bind_some, n_rd (by omega) (by decide), Option.bind_some, T.2 t c, e t c, x1, x2, oI_some, oI_some, Option.bind_some, Option.bind_some]
        by_cases d : g1 = g2
        · right
          rw [if_pos (by rw [d])]
          refine ⟨m - 1, _, by omega, rfl, t + 1, by omega, nI_up, fun k hk => ?_⟩
          by_cases q : k = t
          · rw [q, x1, x2, d]
          · exact h3 k (by omega)
        · left
          rw [if_neg (fun q => d ((nI_eq (by omega) (by omega)).mp q))]
          have hx : dg (rG r) (wk t) = g1 := by rw [x1]; rfl
          have hy : dg (rG r) (w t) = g2 := by rw [x2]; rfl
          by_cases q : g2 ≤ g1
          · rw [if_pos (nI_le q (by omega))]
            refine ⟨_, rfl, ⟨(fun z => by cases z), fun z => absurd z (lxl_as ⟨t, c, fun k hk => (h3 k hk).symm, by omega⟩)⟩⟩
          · rw [if_neg (nI_ge (by omega) (by omega))]
            exact ⟨_, rfl, ⟨fun _ => ⟨t, c, h3, by omega⟩, fun _ => rfl⟩⟩
      · left
        have ht : t = rW r := by omega
        rw [if_pos (nI_le (by omega) (by omega))]
        refine ⟨_, rfl, ⟨(fun z => by cases z), fun ⟨i, i1, _, i3⟩ => ?_⟩⟩
        rw [h3 i (by omega)] at i3
        omega)
  obtain ⟨b, f1, f2⟩ := L am_fu (rW r) (nI 0) (by unfold am_fu; omega) ⟨0, by omega, rfl, fun k hk => by omega⟩
  exact ⟨b, f1, f2⟩
theorem n_weigh {h : am_H} {r : sR} {s : sS} {su no hl t : Nat} {op : Nat → Nat} {wk : Nat → Option Nat} {o : Option (Nat → Option Nat)} (V : tV h r s) (S : srt r s su no hl op) (O : tO h r s su no op) (T : tW h 92 r wk) (L : tL h r s no op t wk) (ht : t ≤ 6) (hg : wG r wk) (B : tBo h r s o) :
    ∃ h' w, f_Weeks_weigh (nI t) h = some h' ∧ am_ex [91, 93] h h' ∧ (∀ j, j ≠ 5 → j ≠ 6 → h'.2.1 91 j = h.2.1 91 j) ∧ tB h' r s w ∧ ¬ bt r s wk w ∧ (∀ v, o = some v → w = v ∨ bt r s w v) ∧ (w = wk ∨ o = some w) := by
  have hr := V.1
  have hP := V.hP
  have hW := V.hW
  have hno : no ≤ 5 := by have := S.1; omega
  have hin : inT r s wk = su + cnt (fun i => cm r s wk (op i)) no := S.2.2.1 wk T.1
  have hle := inT_le (s := s) (wk := wk) hr
  have hml := mvs_le (w := wk) hr
  have hcn := cnt_le (fun i => cm r s wk (op i)) no
  obtain ⟨c, f1, f2⟩ := lpc2 (fun k (a1 : Int32) (a2 : Int32) => f_Weeks_weigh_L7 (nI t) k a1 a2 h) no
    (fun i a1 a2 => a1 = nI (su + cnt (fun i => cm r s wk (op i)) i) ∧ a2 = nI i)
    (fun d => d.1 = nI (inT r s wk))
    (fun k i a1 a2 hi hI => by
      obtain ⟨rfl, rfl⟩ := hI
      rw [f_Weeks_weigh_L7, O.1, if_neg (nI_ge hi (by omega)), n_openComes V S O T L ht hi, Option.bind_some]
      cases hb : cm r s wk (op i) with
      | true =>
        rw [if_tt]
        exact ⟨_, _, rfl, by rw [nI_up, cnt_s]; simp [hb]; rfl, nI_up⟩
      | false =>
        rw [if_ff]
        exact ⟨_, _, rfl, by rw [cnt_s]; simp [hb], nI_up⟩)
    (fun k a1 a2 hI => by
      obtain ⟨rfl, rfl⟩ := hI
      rw [f_Weeks_weigh_L7, O.1, if_pos (nI_le (Nat.le_refl _) (by omega)), ← hin]
      exact ⟨_, rfl, rfl⟩) (by unfold am_fu; omega) (nI su) 0 ⟨rfl, rfl⟩
  -- the trial week is kept
  have keep : ∃ h', ((am_cp (am_sI (am_sI h 91 5 (nI (inT r s wk))) 91 6 (nI (mvs (rW r) wk))) 92 6 (0 : Int32) 93 6 (0 : Int32) (6 : Int32)).bind fun h4 => some h4) = some h' ∧ am_ex [91, 93] h h' ∧ (∀ j, j ≠ 5 → j ≠ 6 → h'.2.1 91 j = h.2.1 91 j) ∧ tB h' r s wk := by
    have e6 : am_cp (am_sI (am_sI h 91 5 (nI (inT r s wk))) 91 6 (nI (mvs (rW r) wk))) 92 6 0 93 6 0 6 = _ := n_cp (h := am_sI (am_sI h 91 5 (nI (inT r s wk))) 91 6 (nI (mvs (rW r) wk))) (o0 := 92) (o1 := 93) (n0 := 6) (n1 := 6) (n := 6) (by decide) (by decide) (by decide)
    rw [e6, Option.bind_some]
    refine ⟨_, rfl, ((am_ex.sI (X := [91]) (by decide)).tr (am_ex.sI (X := [91]) (by decide)) (Z := [91, 93]) (by decide) (by decide)).tr (am_ex.rI (X := [93]) (by decide)) (fun _ z => z) (by decide), fun j h5 h6 => ?_, ?_, ?_, fun k hk => ?_, hg⟩
    · rw [rI_row, if_neg (by decide), sI_row, if_pos rfl, up_n h6, sI_row, if_pos rfl, up_n h5]
    · rw [rI_row, if_neg (by decide), sI_row, if_pos rfl, up_n (by decide), sI_row, if_pos rfl, up_s]
    · rw [rI_row, if_neg (by decide), sI_row, if_pos rfl, up_s]
    · rw [rI_row, if_pos rfl, if_pos (by omega), sI_row, if_neg (by decide), sI_row, if_neg (by decide)]
      exact T.2 k hk
  obtain ⟨hk, k1, k2, k3, k4⟩ := keep
  unfold f_Weeks_weigh f_Weeks_keepBetter
  simp only [am_let]
  rw [O.2.1, f1, Option.bind_some, f2, n_movesOf V T, Option.bind_some]
  cases ho : o with
  | none =>
    rw [B.1 ho, if_neg (show ¬ nI (inT r s wk) < (-1 : Int32) from fun q => absurd (Int32.lt_trans q (by decide)) (nI_pos (by omega))), if_pos (show (-1 : Int32) < nI (inT r s wk) by
      have : ∀ n, n ≤ 5 → (-1 : Int32) < nI n := by decide
      exact this _ hle), k1, Option.bind_some]
    exact ⟨hk, wk, rfl, k2, k3, k4, bt_irr, (fun v hv => by cases hv), .inl rfl⟩
  | some w =>
    obtain ⟨b1, b2, b3, b4⟩ := B.2 w ho
    have hle2 := inT_le (s := s) (wk := w) hr
    have hml2 := mvs_le (w := w) hr
    have same : ¬ bt r s wk w → ∃ h' w', (some h : Option am_H) = some h' ∧ am_ex [91, 93] h h' ∧ (∀ j, j ≠ 5 → j ≠ 6 → h'.2.1 91 j = h.2.1 91 j) ∧ tB h' r s w' ∧ ¬ bt r s wk w' ∧ (∀ v, some w = some v → w' = v ∨ bt r s w' v) ∧ (w' = wk ∨ some w = some w') := fun hn => ⟨h, w, rfl, am_ex.rf, fun _ _ _ => rfl, ⟨b1, b2, b3, b4⟩, hn, (fun v hv => by cases hv; exact .inl rfl), .inr rfl⟩
    have new : bt r s wk w → ∃ h' w', (some hk : Option am_H) = some h' ∧ am_ex [91, 93] h h' ∧ (∀ j, j ≠ 5 → j ≠ 6 → h'.2.1 91 j = h.2.1 91 j) ∧ tB h' r s w' ∧ ¬ bt r s wk w' ∧ (∀ v, some w = some v → w' = v ∨ bt r s w' v) ∧ (w' = wk ∨ some w = some w') := fun hn => ⟨hk, wk, rfl, k2, k3, k4, bt_irr, (fun v hv => by cases hv; exact .inr hn), .inl rfl⟩
    rw [b1, b2]
    by_cases z1 : inT r s wk < inT r s w
    · rw [if_pos (nI_lt z1 (by omega))]
      exact same (fun q => by rcases q with q | ⟨q, _⟩ <;> omega)
    · rw [if_neg (nI_nlt (by omega) (by omega))]
      by_cases z2 : inT r s w < inT r s wk
      · rw [if_pos (nI_lt z2 (by omega)), k1, Option.bind_some]
        exact new (.inl z2)
      · rw [if_neg (nI_nlt (by omega) (by omega))]
        by_cases z3 : mvs (rW r) wk < mvs (rW r) w
        · rw [if_pos (nI_lt z3 (by omega)), k1, Option.bind_some]
          exact new (.inr ⟨by omega, .inl z3⟩)
        · rw [if_neg (nI_nlt (by omega) (by omega))]
          by_cases z4 : mvs (rW r) wk = mvs (rW r) w
          · obtain ⟨b, c1, c2⟩ := n_tif V T hg b4 b3
            rw [if_pos (by rw [z4]), c1, Option.bind_some]
            cases b with
            | true =>
              rw [if_tt, k1, Option.bind_some]
              exact new (.inr ⟨by omega, .inr ⟨z4, c2.mp rfl⟩⟩)
            | false =>
              rw [if_ff, Option.bind_some]
              refine same (fun q => ?_)
              rcases q with q | ⟨_, q | ⟨_, q⟩⟩
              · omega
              · omega
              · have := c2.mpr q; cases this
          · rw [if_neg (fun q => z4 ((nI_eq (by omega) (by omega)).mp q)), Option.bind_some]
            exact same (fun q => by rcases q with q | ⟨_, q | ⟨q, _⟩⟩ <;> omega)
/-! one hour after another -/
theorem kN_inj {r : sR} {s : sS} (hr : vR r) {i j : Nat} (hi : i < rW r) (hj : j < rW r) (h : kN r s i = kN r s j) : i = j := by
  have hW := hr.2.1
  unfold kN at h
  have : ∀ W, W < 7 → ∀ a, a < W → ∀ i, i < W → ∀ j, j < W → (a + i) % W = (a + j) % W → i = j := by decide +kernel
  have h2 : (sH s % rW r + i) % rW r = (sH s % rW r + j) % rW r := by rw [Nat.mod_add_mod, Nat.mod_add_mod]; exact h
  exact this (rW r) (by omega) (sH s % rW r) (Nat.mod_lt _ (by omega)) i hi j hj h2
theorem kN_sur {r : sR} {s : sS} (hr : vR r) {k : Nat} (hk : k < rW r) : ∃ j, j < rW r ∧ kN r s j = k := by
  have hW := hr.2.1
  have : ∀ W, W < 7 → ∀ a, a < W → ∀ k, k < W → ∃ j, j < W ∧ (a + j) % W = k := by decide +kernel
  obtain ⟨j, h1, h2⟩ := this (rW r) (by omega) (sH s % rW r) (Nat.mod_lt _ (by omega)) k hk
  refine ⟨j, h1, ?_⟩
  unfold kN
  rw [← h2, Nat.mod_add_mod]
theorem AgO_all {r : sR} {s : sS} {v w : Nat → Option Nat} (hr : vR r) (h : AgO r s (rW r) v w) : ∀ k, k < rW r → v k = w k := fun k hk => by
  obtain ⟨j, h1, h2⟩ := kN_sur (s := s) hr hk
  rw [← h2]; exact h j h1
theorem wG.up {r : sR} {w : Nat → Option Nat} {k g : Nat} (h : wG r w) (hg : g < rG r) : wG r (va_up w k (some g)) := fun j hj => by
  by_cases c : j = k
  · rw [c, up_s]; exact ⟨g, rfl, hg⟩
  · rw [up_n c]; exact h j hj
/-- what the search leaves alone -/
def tF (h h' : am_H) : Prop := am_ex [91, 92, 93, 95] h h' ∧ ∀ j, j ≠ 5 → j ≠ 6 → h'.2.1 91 j = h.2.1 91 j
theorem tF.rf {h : am_H} : tF h h := ⟨am_ex.rf, fun _ _ _ => rfl⟩
theorem tF.tr {h h' h'' : am_H} (a : tF h h') (b : tF h' h'') : tF h h'' := ⟨a.1.tr b.1 (fun _ z => z) (fun _ z => z), fun j h5 h6 => (b.2 j h5 h6).trans (a.2 j h5 h6)⟩
theorem tF.ex {X : List Nat} {h h' : am_H} (x : am_ex X h h') (hX : ∀ a ∈ X, a = 92 ∨ a = 93 ∨ a = 95) : tF h h' := ⟨x.tr am_ex.rf (Y := []) (fun a ha => by have := hX a ha; simp; omega) (by decide), fun j _ _ => by rw [x.2.2 91 (fun c => by have := hX _ c; omega)]⟩
theorem tF.V {h h' : am_H} {r : sR} {s : sS} (f : tF h h') (V : tV h r s) : tV h' r s := V.ex f.1 (by decide)
theorem tF.O {h h' : am_H} {r : sR} {s : sS} {su no : Nat} {op : Nat → Nat} (f : tF h h') (O : tO h r s su no op) : tO h' r s su no op := ⟨by rw [f.2 11 (by decide) (by decide)]; exact O.1, by rw [f.2 12 (by decide) (by decide)]; exact O.2.1, fun i hi => by rw [f.1.2.2 94 (by decide)]; exact O.2.2 i hi⟩
theorem tB.cg {h h' : am_H} {r : sR} {s : sS} {w : Nat → Option Nat} (B : tB h r s w) (e1 : h'.2.1 91 = h.2.1 91) (e2 : h'.2.1 93 = h.2.1 93) : tB h' r s w := by unfold tB at B ⊢; rw [e1, e2]; exact B
theorem tb_ok {r : sR} {s : sS} {su no hl : Nat} {op : Nat → Nat} (S : srt r s su no hl op) : ∀ d n h wk w, d < n → d ≤ rW r → tV h r s → tO h r s su no op → tW h 92 r wk → wG r wk → tL h r s no op (rW r - d) wk → tB h r s w →
    ∃ h' w' wk', f_Tb n 0 (nI (rW r - d)) h = some h' ∧ tF h h' ∧ tB h' r s w' ∧ (w' = w ∨ bt r s w' w) ∧ (∀ v, wG r v → AgO r s (rW r - d) v wk → ¬ bt r s v w') ∧ tW h' 92 r wk' ∧ wG r wk' ∧ AgO r s (rW r - d) wk' wk ∧ (∀ j, j < 5 * (rW r - d) + 5 → h'.2.1 95 j = h.2.1 95 j)
  | d, 0, h, wk, w, hn, _, _, _, _, _, _, _ => by omega
  | d, n + 1, h, wk, w, hn, hd, V, O, T, hg, L, B => by
    have hr := V.1
    have hP := V.hP
    have hW := V.hW
    have hG := V.hG
    have hno : su + no + hl ≤ rP r := S.1
    have hle := inT_le (s := s) (wk := w) hr
    have hls := lst_le hr S T.1 (fun j _ => rfl : AgO r s (rW r - d) wk wk)
    have e : f_Tb (n + 1) 0 (nI (rW r - d)) h = b_Weeks_tryBest (f_Tb n) (nI (rW r - d)) h := rfl
    rw [e]
    unfold b_Weeks_tryBest
    rw [n_lost V S O T.1 L (by omega), Option.bind_some, O.1, O.2.1, nI_add, nI_sub (by omega), B.1]
    by_cases c : inT r s w ≤ su + no - lst r s no op (rW r - d) wk
    · rw [if_pos (nI_le c (by omega)), V.w]
      by_cases c0 : d = 0
      · subst c0
        rw [Nat.sub_zero] at *
        obtain ⟨h', w', b1, b2, b3, b4, b5, b6, _⟩ := n_weigh V S O T L (by omega) hg (o := some w) ⟨(fun q => by cases q), fun w' hw' => by cases hw'; exact B⟩
        rw [if_neg (nI_nlt (Nat.le_refl _) (by omega)), b1, Option.bind_some]
        refine ⟨h', w', wk, rfl, ⟨b2.tr am_ex.rf (Y := []) (by decide) (by decide), fun j h5 h6 => b3 j h5 h6⟩, b4, b6 w rfl, fun v v1 v2 v3 => ?_, ⟨T.1, fun k hk => by rw [b2.2.2 92 (by decide)]; exact T.2 k hk⟩, hg, fun j _ => rfl, fun j hj => by rw [b2.2.2 95 (by decide)]⟩
        exact b5 (bt_cg hr (AgO_all hr v2) v3)
      · obtain ⟨d, rfl⟩ : ∃ q, d = q + 1 := ⟨d - 1, by omega⟩
        have ht : rW r - (d + 1) < rW r := by omega
        generalize hT : rW r - (d + 1) = t at *
        have hdt : rW r - d = t + 1 := by omega
        have hk := kN_lt hr s t
        have hH := V.hH
        rw [if_pos (nI_lt ht (by omega)), V.ho, nI_add, n_hourOfWeek V.1 V.2.2.1 (by omega), Option.bind_some]
        have ek : (sH s + t) % rW r = kN r s t := rfl
        rw [ek]
        obtain ⟨cc, f1, f2, w', wk', f3, f4, f5, f6, f7, f8, f9⟩ := lpc2 (fun k (a1 : Int32) (a2 : am_H) => f_Weeks_tryBest_L59 (f_Tb n) (nI t) k (nI (kN r s t)) a1 a2) (rG r)
          (fun c a1 a2 => a1 = nI c ∧ tF h a2 ∧ ∃ w' wk', tB a2 r s w' ∧ (w' = w ∨ bt r s w' w) ∧ (∀ v g, wG r v → AgO r s t v wk → v (kN r s t) = some g → g < c → ¬ bt r s v w') ∧ tW a2 92 r wk' ∧ wG r wk' ∧ AgO r s t wk' wk ∧ (∀ j, j < 5 * t + 5 → a2.2.1 95 j = h.2.1 95 j))
          (fun d => tF h d.2 ∧ ∃ w' wk', tB d.2 r s w' ∧ (w' = w ∨ bt r s w' w) ∧ (∀ v g, wG r v → AgO r s t v wk → v (kN r s t) = some g → g < rG r → ¬ bt r s v w') ∧ tW d.2 92 r wk' ∧ wG r wk' ∧ AgO r s t wk' wk ∧ (∀ j, j < 5 * t + 5 → d.2.2.1 95 j = h.2.1 95 j))
          (fun k c a1 a2 hc hI => by
            obtain ⟨rfl, i1, w1, wk1, i2, i3, i4, i5, i6, i7, i8⟩ := hI
            have V2 := i1.V V
            have O2 := i1.O O
            have T3 : tW (am_sI a2 92 (kN r s t) (nI c)) 92 r (va_up wk1 (kN r s t) (some c)) := i5.up (l := some c) (fun g hg' => by cases hg'; exact hc)
            have F3 : tF h (am_sI a2 92 (kN r s t) (nI c)) := i1.tr (tF.ex (am_ex.sI (X := [92]) (by decide)) (by decide))
            have ag3 : AgO r s t (va_up wk1 (kN r s t) (some c)) wk := fun j hj => by
              rw [up_n (fun q => by have := kN_inj hr (by omega) ht q; omega)]
              exact i7 j hj
            have L3 : tL (am_sI a2 92 (kN r s t) (nI c)) r s no op t (va_up wk1 (kN r s t) (some c)) := fun j hj i hi => by
              rw [sI_row, if_neg (by decide), i8 _ (by omega), L j hj i hi, stt_cg j (fun q hq => (ag3 q (by omega)).symm)]
            obtain ⟨h4, s1, s2, s3, s4⟩ := n_stepOpen (F3.V V) S (F3.O O) T3 L3 (by omega)
            have F4 : tF h h4 := F3.tr (tF.ex s2 (by decide))
            have B4 : tB h4 r s w1 := i2.cg (by rw [s2.2.2 91 (by decide), sI_row, if_neg (by decide)]) (by rw [s2.2.2 93 (by decide), sI_row, if_neg (by decide)])
            obtain ⟨h5, w2, wk2, u1, u2, u3, u4, u5, u6, u7, u8, u9⟩ := tb_ok S d n h4 (va_up wk1 (kN r s t) (some c)) w1 (by omega) (by omega) (F4.V V) (F4.O O) ⟨T3.1, fun q hq => by rw [s2.2.2 92 (by decide)]; exact T3.2 q hq⟩ (i6.up hc) (by rw [hdt]; exact s3) B4
            rw [hdt] at u1 u5 u8 u9
            have u1' : f_Tb n 0 (nI t + 1) h4 = some h5 := by rw [nI_up]; exact u1
            rw [f_Weeks_tryBest_L59, V2.g, if_neg (nI_ge hc (by omega)), n_wr (by omega) (by decide), Option.bind_some, s1, Option.bind_some, u1', Option.bind_some]
            refine ⟨_, _, rfl, nI_up, F4.tr u2, w2, wk2, u3, ?_, fun v g v1 v2 v3 v4 v5 => ?_, u6, u7, fun j hj => ?_, fun j hj => ?_⟩
            · rcases u4 with q | q
              · rw [q]; exact i3
              · rcases i3 with q2 | q2
                · rw [← q2]; exact .inr q
                · exact .inr (bt_tr q q2)
            · by_cases q : g = c
              · subst q
                refine u5 v v1 (fun j hj => ?_) v5
                by_cases z : j = t
                · rw [z, up_s]; exact v3
                · rw [up_n (fun q => by have := kN_inj hr (by omega) ht q; omega), v2 j (by omega)]
                  exact (i7 j (by omega)).symm
              · rcases u4 with z | z
                · rw [z] at v5; exact i4 v g v1 v2 v3 (by omega) v5
                · exact i4 v g v1 v2 v3 (by omega) (bt_tr v5 z)
            · rw [u8 j (by omega)]; exact ag3 j hj
            · rw [u9 j (by omega)]
              have : h4.2.1 95 j = a2.2.1 95 j := by rw [s4 j (by omega), sI_row, if_neg (by decide)]
              rw [this]; exact i8 j hj)
          (fun k a1 a2 hI => by
            obtain ⟨rfl, i1, i2⟩ := hI
            have V2 := i1.V V
            rw [f_Weeks_tryBest_L59, V2.g, if_pos (nI_le (Nat.le_refl _) (by omega))]
            exact ⟨_, rfl, i1, i2⟩) (by unfold am_fu; omega) 0 h ⟨rfl, tF.rf, w, wk, B, .inl rfl, (fun v g _ _ _ hg' => by omega), T, hg, fun j _ => rfl, fun j _ => rfl⟩
        rw [f1, Option.bind_some]
        refine ⟨cc.2, w', wk', rfl, f2, f3, f4, fun v v1 v2 => ?_, f6, f7, f8, f9⟩
        obtain ⟨g, g1, g2⟩ := v1 _ hk
        exact f5 v g v1 v2 g1 g2
    · rw [if_neg (nI_ge (by omega) (by omega))]
      refine ⟨h, w, wk, rfl, tF.rf, B, .inl rfl, fun v v1 v2 v3 => ?_, T, hg, fun j _ => rfl, fun j _ => rfl⟩
      have := lst_le hr S v1.v v2
      rcases v3 with q | ⟨q, _⟩ <;> omega
