-- deps: 31.law 32.nat 33.bit 34.spec 35.riv 36.let 37.mod 38.mod 39.it 40.ahead 41.rel 42.ask 43.why 44.meet 45.err 46.err 47.wk 48.chg 50.ways 51.way 52.tray 54.past 55.hour 56.act 57.undo 59.deed 63.seen 67.wth 68.mwk 69.srt 70.srch 71.best
/-! ===== weeks: how many ===== -/
theorem smN_add {f g : Nat → Nat} : ∀ n, smN (fun c => f c + g c) n = smN f n + smN g n
  | 0 => rfl
  | n + 1 => by
    rw [smN, smN, smN, smN_add n]
    omega
theorem smN_swap {f : Nat → Nat → Nat} : ∀ n m, smN (fun c => smN (fun d => f c d) m) n = smN (fun d => smN (fun c => f c d) n) m
  | 0, m => by
    show 0 = smN (fun d => 0) m
    induction m with
    | zero => rfl
    | succ m ih => rw [smN, ← ih]
  | n + 1, m => by
    rw [smN, smN_swap n m, ← smN_add]
    rfl
theorem up_comm {α : Type} {f : Nat → α} {i j : Nat} {x y : α} (h : i ≠ j) : va_up (va_up f i x) j y = va_up (va_up f j y) i x := by
  funext k
  by_cases c : k = j
  · subst c; rw [up_s, up_n (fun q => h q.symm), up_s]
  · rw [up_n c]
    by_cases d : k = i
    · subst d; rw [up_s, up_s]
    · rw [up_n d, up_n d, up_n c]
theorem Sm_perm {r : sR} {f : (Nat → Option Nat) → Nat} {L L' : List Nat} (h : List.Perm L L') : ∀ wk, Sm r f L wk = Sm r f L' wk := by
  induction h with
  | nil => intro wk; rfl
  | cons x _ ih => intro wk; rw [Sm, Sm]; exact smN_cg (fun c _ => ih _)
  | swap x y l =>
    intro wk
    by_cases e : x = y
    · subst e; rfl
    · show smN (fun c => smN (fun d => Sm r f l (va_up (va_up wk y (chc (rG r) c)) x (chc (rG r) d))) (rG r + 1)) (rG r + 1) = smN (fun d => smN (fun c => Sm r f l (va_up (va_up wk x (chc (rG r) d)) y (chc (rG r) c))) (rG r + 1)) (rG r + 1)
      rw [smN_swap]
      exact smN_cg (fun d _ => smN_cg (fun c _ => by rw [up_comm (fun q => e q.symm)]))
  | trans _ _ ih1 ih2 => intro wk; rw [ih1, ih2]
/-- the hours to come, from one on -/
def ol (r : sR) (s : sS) : Nat → List Nat
  | 0 => []
  | d + 1 => kN r s (rW r - (d + 1)) :: ol r s d
def olA (W a : Nat) : Nat → List Nat
  | 0 => []
  | d + 1 => ((a + (W - (d + 1))) % W) :: olA W a d
theorem ol_A {r : sR} {s : sS} : ∀ d, ol r s d = olA (rW r) (sH s % rW r) d
  | 0 => rfl
  | d + 1 => by
    rw [ol, olA, ol_A d]
    congr 1
    unfold kN
    rw [Nat.mod_add_mod]
theorem ol_perm {r : sR} {s : sS} (hr : vR r) : List.Perm (ol r s (rW r)) (ixl (rW r) (rW r)) := by
  have hW := hr.2.1
  rw [ol_A]
  have : ∀ W, W < 7 → ∀ a, a < W → List.Perm (olA W a W) (ixl W W) := by decide +kernel
  exact this (rW r) (by omega) _ (Nat.mod_lt _ (by omega))
/-- weeks that agree but in the hours of a list -/
theorem Sm_const {r : sR} {f : (Nat → Option Nat) → Nat} {P : (Nat → Option Nat) → Prop} {z : Nat} (hP : ∀ wk k c, P wk → c ≤ rG r → P (va_up wk k (chc (rG r) c))) (hf : ∀ wk, P wk → f wk = z) : ∀ (L : List Nat) wk, P wk → Sm r f L wk = z * (rG r + 1) ^ L.length
  | [], wk, h => by rw [Sm, hf wk h]; simp
  | k :: L, wk, h => by
    rw [Sm]
    have : ∀ n, n ≤ rG r + 1 → smN (fun c => Sm r f L (va_up wk k (chc (rG r) c))) n = n * (z * (rG r + 1) ^ L.length) := by
      intro n
      induction n with
      | zero => intro _; rw [smN, Nat.zero_mul]
      | succ n ih =>
        intro hn
        rw [smN, ih (by omega), Sm_const hP hf L _ (hP wk k n h (by omega)), Nat.succ_mul]
    rw [this _ (Nat.le_refl _), List.length_cons, Nat.pow_succ, Nat.mul_comm, Nat.mul_assoc]
theorem ol_len {r : sR} {s : sS} : ∀ d, (ol r s d).length = d
  | 0 => rfl
  | d + 1 => by rw [ol, List.length_cons, ol_len d]
theorem Sm_on {r : sR} {s : sS} {f : (Nat → Option Nat) → Nat} {z : Nat} (hr : vR r) (wk0 : Nat → Option Nat) (d : Nat) (hd : d ≤ rW r) (h0 : vW r wk0) (hf : ∀ v, vW r v → AgO r s (rW r - d) v wk0 → f v = z) : Sm r f (ol r s d) wk0 = z * (rG r + 1) ^ d := by
  -- along the list only hours not yet told are told
  have key : ∀ e, e ≤ d → ∀ wk, vW r wk → AgO r s (rW r - d) wk wk0 → Sm r f (ol r s e) wk = z * (rG r + 1) ^ e := by
    intro e
    induction e with
    | zero => intro _ wk h1 h2; rw [ol, Sm, hf wk h1 h2]; simp
    | succ e ih =>
      intro he wk h1 h2
      rw [ol, Sm]
      have : ∀ n, n ≤ rG r + 1 → smN (fun c => Sm r f (ol r s e) (va_up wk (kN r s (rW r - (e + 1))) (chc (rG r) c))) n = n * (z * (rG r + 1) ^ e) := by
        intro n
        induction n with
        | zero => intro _; rw [smN, Nat.zero_mul]
        | succ n ih2 =>
          intro hn
          rw [smN, ih2 (by omega), ih (by omega) _ (h1.up (chc_v (by omega))) (fun j hj => by
            rw [up_n (fun q => by have := kN_inj hr (by omega) (by omega) q; omega)]
            exact h2 j hj), Nat.succ_mul]
      rw [this _ (Nat.le_refl _), Nat.pow_succ, Nat.mul_comm, Nat.mul_assoc]
  exact key d (Nat.le_refl _) wk0 h0 (fun j _ => rfl)
theorem n_weeksOf {h : am_H} {r : sR} {s : sS} {d : Nat} (V : tV h r s) (hd : d ≤ 6) : f_Weeks_weeksOf (nI d) h = some (nI ((rG r + 1) ^ d)) := by
  obtain ⟨c, f1, f2⟩ := lpc2 (fun k (a1 : Int32) (a2 : Int32) => f_Weeks_weeksOf_L4 (nI d) k a1 a2 h) d
    (fun t a1 a2 => a1 = nI ((rG r + 1) ^ t) ∧ a2 = nI t) (fun x => x.1 = nI ((rG r + 1) ^ d))
    (fun k t a1 a2 ht hI => by
      obtain ⟨rfl, rfl⟩ := hI
      rw [f_Weeks_weeksOf_L4, if_neg (nI_ge ht (by omega)), V.g, nI_up, nI_mul]
      exact ⟨_, _, rfl, by rw [Nat.pow_succ], nI_up⟩)
    (fun k a1 a2 hI => by
      obtain ⟨rfl, rfl⟩ := hI
      rw [f_Weeks_weeksOf_L4, if_pos (nI_le (Nat.le_refl _) (by omega))]
      exact ⟨_, rfl, rfl⟩) (by unfold am_fu; omega) 1 0 ⟨by rw [Nat.pow_zero]; rfl, rfl⟩
  unfold f_Weeks_weeksOf
  rw [f1, Option.bind_some, f2]
theorem n_allCome {h : am_H} {r : sR} {s : sS} {su no hl t : Nat} {op : Nat → Nat} {wk : Nat → Option Nat} (V : tV h r s) (S : srt r s su no hl op) (O : tO h r s su no op) (T : tW h 92 r wk) (L : tL h r s no op t wk) (ht : t ≤ 6) : ∃ b, f_Weeks_allCome (nI t) h = some b ∧ (b = true ↔ ∀ i, i < no → cm r s wk (op i) = true) := by
  have hP := V.hP
  have hno : no ≤ 5 := by have := S.1; omega
  have LL := lp (fun k (a : Int32) => f_Weeks_allCome_L2 (nI t) k a h)
    (fun m a => ∃ i, m + i = no ∧ a = nI i ∧ ∀ j, j < i → cm r s wk (op j) = true)
    (fun b => b = true ↔ ∀ i, i < no → cm r s wk (op i) = true)
    (fun k m a hI => by
      obtain ⟨i, h1, rfl, h3⟩ := hI
      rw [f_Weeks_allCome_L2, O.1]
      by_cases c : i < no
      · rw [if_neg (nI_ge c (by omega)), n_openComes V S O T L ht c, Option.bind_some]
        cases hb : cm r s wk (op i) with
        | true =>
          right
          rw [if_tt]
          refine ⟨m - 1, _, by omega, rfl, i + 1, by omega, nI_up, fun j hj => ?_⟩
          by_cases q : j = i
          · rw [q]; exact hb
          · exact h3 j (by omega)
        | false =>
          left
          rw [if_ff]
          exact ⟨_, rfl, ⟨(fun q => by cases q), fun q => by have := q i c; rw [hb] at this; cases this⟩⟩
      · left
        rw [if_pos (nI_le (by omega) (by omega))]
        exact ⟨_, rfl, ⟨fun _ j hj => h3 j (by omega), fun _ => rfl⟩⟩)
  obtain ⟨b, f1, f2⟩ := LL am_fu no (nI 0) (by unfold am_fu; omega) ⟨0, by omega, rfl, fun j hj => by omega⟩
  exact ⟨b, f1, f2⟩
theorem cnt_all {f : Nat → Bool} : ∀ {n : Nat}, (∀ i, i < n → f i = true) → cnt f n = n
  | 0, _ => rfl
  | n + 1, h => by rw [cnt_s, cnt_all (fun i hi => h i (by omega)), h n (by omega), if_tt]
theorem cnt_full {f : Nat → Bool} : ∀ {n : Nat}, cnt f n = n → ∀ i, i < n → f i = true
  | 0, _, i, hi => by omega
  | n + 1, h, i, hi => by
    have := cnt_le f n
    rw [cnt_s] at h
    cases hf : f n with
    | true =>
      rw [hf, if_tt] at h
      by_cases c : i = n
      · rw [c]; exact hf
      · have h' : cnt f n = n := by omega
        exact cnt_full h' i (by omega)
    | false => rw [hf, if_ff] at h; omega
theorem gdf_iff {r : sR} {s : sS} {su no : Nat} {op : Nat → Nat} {wk : Nat → Option Nat} (S : srt r s su no 0 op) (hw : vW r wk) : gdf r s wk = if ∀ i, i < no → cm r s wk (op i) = true then 1 else 0 := by
  have h1 : inT r s wk = su + cnt (fun i => cm r s wk (op i)) no := S.2.2.1 wk hw
  have h2 : errs r = su + no + 0 := S.2.2.2
  unfold gdf
  by_cases c : ∀ i, i < no → cm r s wk (op i) = true
  · rw [if_pos c, if_pos (by rw [h1, h2, cnt_all c]; omega)]
  · rw [if_neg c, if_neg (fun q => c (cnt_full (by omega)))]
/-- what the counting leaves alone -/
def tF7 (h h' : am_H) : Prop := am_ex [91, 92, 95] h h' ∧ ∀ j, j ≠ 7 → h'.2.1 91 j = h.2.1 91 j
theorem tF7.rf {h : am_H} : tF7 h h := ⟨am_ex.rf, fun _ _ => rfl⟩
theorem tF7.tr {h h' h'' : am_H} (a : tF7 h h') (b : tF7 h' h'') : tF7 h h'' := ⟨a.1.tr b.1 (fun _ z => z) (fun _ z => z), fun j h5 => (b.2 j h5).trans (a.2 j h5)⟩
theorem tF7.ex {X : List Nat} {h h' : am_H} (x : am_ex X h h') (hX : ∀ a ∈ X, a = 92 ∨ a = 95) : tF7 h h' := ⟨x.tr am_ex.rf (Y := []) (fun a ha => by have := hX a ha; simp; omega) (by decide), fun j _ => by rw [x.2.2 91 (fun c => by have := hX _ c; omega)]⟩
theorem tF7.V {h h' : am_H} {r : sR} {s : sS} (f : tF7 h h') (V : tV h r s) : tV h' r s := V.ex f.1 (by decide)
theorem tF7.O {h h' : am_H} {r : sR} {s : sS} {su no : Nat} {op : Nat → Nat} (f : tF7 h h') (O : tO h r s su no op) : tO h' r s su no op := ⟨by rw [f.2 11 (by decide)]; exact O.1, by rw [f.2 12 (by decide)]; exact O.2.1, fun i hi => by rw [f.1.2.2 94 (by decide)]; exact O.2.2 i hi⟩
theorem tg_ok {r : sR} {s : sS} {su no : Nat} {op : Nat → Nat} (S : srt r s su no 0 op) : ∀ d n h wk N, d < n → d ≤ rW r → tV h r s → tO h r s su no op → tW h 92 r wk → (∀ j, rW r - d ≤ j → j < rW r → wk (kN r s j) = none) → tL h r s no op (rW r - d) wk → h.2.1 91 7 = nI N →
    ∃ h', f_Tg n 0 (nI (rW r - d)) h = some h' ∧ tF7 h h' ∧ h'.2.1 91 7 = nI (N + Sm r (gdf r s) (ol r s d) wk) ∧ tW h' 92 r wk ∧ (∀ j, j < 5 * (rW r - d) + 5 → h'.2.1 95 j = h.2.1 95 j)
  | d, 0, h, wk, N, hn, _, _, _, _, _, _, _ => by omega
  | d, n + 1, h, wk, N, hn, hd, V, O, T, hu, L, B => by
    have hr := V.1
    have hP := V.hP
    have hW := V.hW
    have hG := V.hG
    have hno : su + no + 0 ≤ rP r := S.1
    have hls := lst_le hr S T.1 (fun j _ => rfl : AgO r s (rW r - d) wk wk)
    have e : f_Tg (n + 1) 0 (nI (rW r - d)) h = b_Weeks_tryGood (f_Tg n) (nI (rW r - d)) h := rfl
    have hin : ∀ v, vW r v → inT r s v = su + cnt (fun i => cm r s v (op i)) no := S.2.2.1
    rw [e]
    unfold b_Weeks_tryGood
    rw [n_lost V S O T.1 L (by omega), Option.bind_some]
    by_cases c : lst r s no op (rW r - d) wk = 0
    · rw [if_pos (show nI (lst r s no op (rW r - d) wk) ≤ (0 : Int32) by rw [c]; decide)]
      obtain ⟨b, b1, b2⟩ := n_allCome V S O T L (by omega)
      rw [b1, Option.bind_some]
      cases b with
      | true =>
        have hall := b2.mp rfl
        have hS : Sm r (gdf r s) (ol r s d) wk = (rG r + 1) ^ d := by
          rw [Sm_on (z := 1) hr wk d hd T.1 (fun v v1 v2 => ?_), Nat.one_mul]
          rw [gdf_iff S v1]
          refine if_pos (fun i hi => cm_mono hr T.1 v1 (fun k hk => ?_) (hall i hi))
          obtain ⟨j, j1, j2⟩ := kN_sur (s := s) hr hk
          rw [← j2]
          by_cases q : rW r - d ≤ j
          · exact .inl (hu j q j1)
          · exact .inr (v2 j (by omega)).symm
        have ed : nI (rW r) - nI (rW r - d) = nI d := by
          rw [nI_sub (by omega)]
          congr 1
          omega
        rw [if_tt, V.w, ed, n_weeksOf V (by omega), Option.bind_some]
        simp only [am_let]
        rw [B, nI_add]
        refine ⟨_, rfl, ⟨am_ex.sI (by decide), fun j hj => by rw [sI_row, if_pos rfl, up_n hj]⟩, ?_, ⟨T.1, fun k hk => by rw [sI_row, if_neg (by decide)]; exact T.2 k hk⟩, fun j hj => by rw [sI_row, if_neg (by decide)]⟩
        rw [sI_row, if_pos rfl, up_s, hS]
      | false =>
        rw [if_ff, V.w]
        have hnot : ¬ ∀ i, i < no → cm r s wk (op i) = true := fun q => by have := b2.mpr q; cases this
        by_cases c0 : d = 0
        · subst c0
          rw [Nat.sub_zero, if_neg (nI_nlt (Nat.le_refl _) (by omega))]
          refine ⟨h, rfl, tF7.rf, ?_, T, fun j _ => rfl⟩
          rw [ol, Sm, gdf_iff S T.1, if_neg hnot, B]
          rfl
        · obtain ⟨d, rfl⟩ : ∃ q, d = q + 1 := ⟨d - 1, by omega⟩
          have ht : rW r - (d + 1) < rW r := by omega
          have hol : ol r s (d + 1) = kN r s (rW r - (d + 1)) :: ol r s d := rfl
          rw [hol]
          generalize hT : rW r - (d + 1) = t at *
          have hdt : rW r - d = t + 1 := by omega
          have hk := kN_lt hr s t
          have hH := V.hH
          rw [if_pos (nI_lt ht (by omega)), V.ho, nI_add, n_hourOfWeek V.1 V.2.2.1 (by omega), Option.bind_some]
          have ek : (sH s + t) % rW r = kN r s t := rfl
          rw [ek]
          obtain ⟨cc, f1, f2, f3, f4, f5⟩ := lpc2 (fun k (a1 : Int32) (a2 : am_H) => f_Weeks_tryGood_L71 (f_Tg n) (nI t) k (nI (kN r s t)) a1 a2) (rG r + 1)
            (fun c a1 a2 => a1 = nI c ∧ tF7 h a2 ∧ a2.2.1 91 7 = nI (N + smN (fun c => Sm r (gdf r s) (ol r s d) (va_up wk (kN r s t) (chc (rG r) c))) c) ∧ (∃ l, tW a2 92 r (va_up wk (kN r s t) l) ∧ (c = rG r + 1 → l = none)) ∧ (∀ j, j < 5 * t + 5 → a2.2.1 95 j = h.2.1 95 j))
            (fun x => tF7 h x.2 ∧ x.2.2.1 91 7 = nI (N + smN (fun c => Sm r (gdf r s) (ol r s d) (va_up wk (kN r s t) (chc (rG r) c))) (rG r + 1)) ∧ tW x.2 92 r (va_up wk (kN r s t) none) ∧ (∀ j, j < 5 * t + 5 → x.2.2.1 95 j = h.2.1 95 j))
            (fun k c a1 a2 hc hI => by
              obtain ⟨rfl, i1, i2, ⟨l, i3, _⟩, i4⟩ := hI
              have V2 := i1.V V
              have hch : f_Weeks_choice (nI c) a2 = some (oI (chc (rG r) c)) := by
                unfold f_Weeks_choice chc
                rw [V2.g]
                by_cases q : c = rG r
                · rw [if_pos (nI_le (by omega) (by omega)), if_pos q]; rfl
                · rw [if_neg (nI_ge (by omega) (by omega)), if_neg q]; rfl
              have T3 : tW (am_sI a2 92 (kN r s t) (oI (chc (rG r) c))) 92 r (va_up wk (kN r s t) (chc (rG r) c)) := by
                have := i3.up (t := kN r s t) (chc_v (G := rG r) (c := c) (by omega))
                rw [up_up] at this
                exact this
              have F3 : tF7 h (am_sI a2 92 (kN r s t) (oI (chc (rG r) c))) := i1.tr (tF7.ex (am_ex.sI (X := [92]) (by decide)) (by decide))
              have ag3 : AgO r s t (va_up wk (kN r s t) (chc (rG r) c)) wk := fun j hj => up_n (fun q => by have := kN_inj hr (by omega) ht q; omega)
              have L3 : tL (am_sI a2 92 (kN r s t) (oI (chc (rG r) c))) r s no op t (va_up wk (kN r s t) (chc (rG r) c)) := fun j hj i hi => by
                rw [sI_row, if_neg (by decide), i4 _ (by omega), L j hj i hi, stt_cg j (fun q hq => (ag3 q (by omega)).symm)]
              obtain ⟨h4, s1, s2, s3, s4⟩ := n_stepOpen (F3.V V) S (F3.O O) T3 L3 (by omega)
              have F4 : tF7 h h4 := F3.tr (tF7.ex s2 (by decide))
              obtain ⟨h5, u1, u2, u3, u4, u5⟩ := tg_ok S d n h4 (va_up wk (kN r s t) (chc (rG r) c)) _ (by omega) (by omega) (F4.V V) (F4.O O) ⟨T3.1, fun q hq => by rw [s2.2.2 92 (by decide)]; exact T3.2 q hq⟩ (fun j j1 j2 => by
                rw [up_n (fun q => by have := kN_inj hr j2 ht q; omega)]
                exact hu j (by omega) j2) (by rw [hdt]; exact s3) (by rw [s2.2.2 91 (by decide), sI_row, if_neg (by decide)]; exact i2)
              rw [hdt] at u1 u5
              have u1' : f_Tg n 0 (nI t + 1) h4 = some h5 := by rw [nI_up]; exact u1
              rw [f_Weeks_tryGood_L71, V2.g, if_neg (nI_nlt (by omega) (by omega)), hch, Option.bind_some, n_wr (by omega) (by decide), Option.bind_some, s1, Option.bind_some, u1', Option.bind_some]
              refine ⟨_, _, rfl, nI_up, F4.tr u2, ?_, ⟨chc (rG r) c, u4, fun q => ?_⟩, fun j hj => ?_⟩
              · rw [u3, smN, Nat.add_assoc]
              · unfold chc; rw [if_pos (by omega)]
              · rw [u5 j (by omega), s4 j (by omega), sI_row, if_neg (by decide)]
                exact i4 j hj)
            (fun k a1 a2 hI => by
              obtain ⟨rfl, i1, i2, ⟨l, i3, i5⟩, i4⟩ := hI
              have V2 := i1.V V
              rw [i5 rfl] at i3
              rw [f_Weeks_tryGood_L71, V2.g, if_pos (nI_lt (by omega) (by omega))]
              exact ⟨_, rfl, i1, i2, i3, i4⟩) (by unfold am_fu; omega) 0 h ⟨rfl, tF7.rf, B, ⟨wk (kN r s t), by rw [up_id]; exact T, fun q => by omega⟩, fun j _ => rfl⟩
          rw [f1, Option.bind_some]
          refine ⟨cc.2, rfl, f2, f3, ?_, f5⟩
          have : va_up wk (kN r s t) none = wk := by rw [← hu t (by omega) ht, up_id]
          rw [this] at f4
          exact f4
    · rw [if_neg (show ¬ nI (lst r s no op (rW r - d) wk) ≤ (0 : Int32) from nI_ge (a := 0) (by omega) (by omega))]
      refine ⟨h, rfl, tF7.rf, ?_, T, fun j _ => rfl⟩
      rw [Sm_on (z := 0) hr wk d hd T.1 (fun v v1 v2 => ?_), Nat.zero_mul, B, Nat.add_zero]
      have := lst_le hr S v1 v2
      have h1 := hin v v1
      rw [gdf_iff S v1]
      refine if_neg (fun q => ?_)
      rw [cnt_all q] at h1
      omega
theorem n_countGood {h : am_H} {r : sR} {s : sS} (V : tV h r s) (h0 : tGood r s h) : ∃ h', f_Weeks_countGood h = some (nI (aW r s).2, h') ∧ am_ex [91, 92, 94, 95] h h' ∧ tGood r s h' ∧ (∀ j, j = 5 ∨ j = 6 ∨ j = 8 → h'.2.1 91 j = h.2.1 91 j) := by
  have hr := V.1
  have hP := V.hP
  have hW := V.hW
  have hnone : vW r (fun _ => none) := fun k hk g hg => by cases hg
  have hspec : (aW r s).2 = Sm r (gdf r s) (ol r s (rW r)) (fun _ => none) := by
    unfold aW
    rw [gwk_c, Sm_perm (ol_perm hr)]
    show 0 + _ = _
    omega
  unfold f_Weeks_countGood
  rcases h0 with z | z
  · rw [if_pos z]
    obtain ⟨h1, su, no, hl, op, a1, S, a3, a4, a5, a6, a7, a8⟩ := n_sort V
    have hno : su + no + hl ≤ rP r := S.1
    rw [a1, Option.bind_some]
    simp only [am_let]
    generalize hh3 : am_sI h1 91 7 0 = h3
    have F3 : tF7 h1 h3 := by rw [← hh3]; exact ⟨am_ex.sI (by decide), fun j h5 => by rw [sI_row, if_pos rfl, up_n h5]⟩
    have V1 := V.ex a7 (by decide)
    have e13 : h3.2.1 91 13 = nI hl := by rw [F3.2 13 (by decide)]; exact a4
    have e7 : h3.2.1 91 7 = nI 0 := by rw [← hh3, sI_row, if_pos rfl, up_s]; rfl
    have key : ∃ h4, ((if h3.2.1 91 13 = 0 then (f_Weeks_tryGood 0 h3).bind fun q5 => some q5 else some h3) : Option am_H) = some h4 ∧ tF7 h1 h4 ∧ h4.2.1 91 7 = nI (aW r s).2 := by
      rw [e13]
      by_cases q : hl = 0
      · subst q
        have T3 : tW h3 92 r (fun _ => none) := ⟨hnone, fun k hk => by
          rw [← hh3, sI_row, if_neg (by decide)]
          exact a6 k (by omega)⟩
        have L3 : tL h3 r s no op (rW r - rW r) (fun _ => none) := fun j hj i hi => by
          have : j = 0 := by omega
          subst this
          rw [Nat.mul_zero, Nat.zero_add, ← hh3, sI_row, if_neg (by decide)]
          exact a5 i hi
        obtain ⟨h4, t1, t2, t3, _⟩ := tg_ok S (rW r) 60 h3 (fun _ => none) 0 (by omega) (Nat.le_refl _) (F3.V V1) (F3.O a3) T3 (fun _ _ _ => rfl) L3 e7
        rw [Nat.sub_self] at t1
        have t1' : f_Weeks_tryGood 0 h3 = some h4 := t1
        rw [if_pos (show nI 0 = 0 from rfl), t1', Option.bind_some]
        refine ⟨h4, rfl, F3.tr t2, ?_⟩
        rw [t3, Nat.zero_add, hspec]
      · rw [if_neg (show ¬ nI hl = (0 : Int32) from fun y => q ((nI_eq (b := 0) (by omega) (by decide)).mp y))]
        refine ⟨h3, rfl, F3, ?_⟩
        rw [e7, hspec, Sm_on (z := 0) hr _ (rW r) (Nat.le_refl _) hnone (fun v v1 v2 => ?_), Nat.zero_mul]
        have h1 : inT r s v = su + cnt (fun i => cm r s v (op i)) no := S.2.2.1 v v1
        have h2 : errs r = su + no + hl := S.2.2.2
        have h3 := cnt_le (fun i => cm r s v (op i)) no
        unfold gdf
        exact if_neg (by omega)
    obtain ⟨h4, k1, k2, k3⟩ := key
    rw [k1, Option.bind_some]
    have r91 : ∀ j, j ≠ 9 → (am_sI h4 91 9 1).2.1 91 j = h4.2.1 91 j := fun j hj => by rw [sI_row, if_pos rfl, up_n hj]
    rw [r91 7 (by decide), k3]
    refine ⟨_, rfl, (a7.tr k2.1 (Z := [91, 92, 94, 95]) (fun _ z => z) (by decide)).tr (am_ex.sI (X := [91]) (by decide)) (fun _ z => z) (by decide), .inr ⟨by rw [sI_row, if_pos rfl, up_s], by rw [r91 7 (by decide)]; exact k3⟩, fun j hj => ?_⟩
    rw [r91 j (by omega), k2.2 j (by omega), a8 j (by omega)]
  · rw [if_neg (by rw [z.1]; decide), z.2]
    exact ⟨h, rfl, am_ex.rf, .inr z, fun _ _ => rfl⟩
theorem ok_weeks (b : Nat) (hb : b ≤ 90000) : ok2 b f_Top_weeks f_Mod_weeks := by
  refine ok2_st (fun g h v T M0 => ?_)
  have TV := T.tV v (by omega)
  obtain ⟨h1, a1, a2, a3, a4⟩ := n_countGood TV T.2.2.2.2.2.2.2.2.1
  have T1 : RT g h1 := T.wks (a2.tr am_ex.rf (Y := []) (by decide) (by decide)) (by
    have := T.2.2.2.2.2.2.2.1
    unfold tBest at this ⊢
    rw [a4 5 (by omega), a4 6 (by omega), a4 8 (by omega), a2.2.2 93 (by decide)]; exact this) a3
  refine ⟨nI (aW g.1.1 g.1.2.1).2, g, v.up (by omega), ⟨h1, ?_, T1, a2.frT (by decide)⟩, fun h' M => ?_⟩
  · unfold f_Top_weeks
    rw [a1, Option.bind_some]
  · obtain ⟨k0, MV⟩ := s0M M v hb
    obtain ⟨h2, c1, c2, c3, c4, c5⟩ := n_laysWeeks MV
    have k2 := k0.tr (laysWeeks_ke c4 c3 c5)
    unfold f_Mod_weeks
    simp only [am_let]
    rw [c1, Option.bind_some, c2.2.2]
    exact ⟨_, rfl, M.ke k2, k2.1⟩
