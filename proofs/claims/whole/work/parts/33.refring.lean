/-! ===== the other class: alarms ring ===== -/
def lgP (f w : Ar) (x1 x2 x3 : Int) : Prop := (∀ q, q < 162 ∨ 194 < q → w q = f q) ∧ (∀ j, 4 ≤ j → j < 32 → w (162 + j) = f (158 + j)) ∧ w 162 = x1 ∧ w 163 = f 0 ∧ w 164 = x2 ∧ w 165 = x3 ∧ w 194 = min 8 (f 194 + 1)
theorem sp_logs {G : Mm} {a : Nat} {f : Ar} {x1 x2 x3 : Int} {Q : dp_Ps} (hV : RV G a f) (h8 : 0 ≤ f 194 ∧ f 194 ≤ 8)
    (h : ∀ G' w, RV G' a w → RO G G' a → lgP f w x1 x2 x3 → Q (jI 0) G') : Sp 102 5 [vR 16 a, vI (jI x1), vI (jI x2), vI (jI x3)] G Q := by
  apply vcX8_logs
  have loop : ∀ k : Nat, ∀ (G1 : Mm) (f1 : Ar), k ≤ 28 → RV G1 a f1 → RO G G1 a → (∀ q, q < 162 ∨ 194 ≤ q → f1 q = f q) → (∀ j, j < 32 → f1 (162 + j) = if 3 + k < j then f (158 + j) else f (162 + j)) →
      Wp 102 4 [some (vR 16 a), some (vI (jI x1)), some (vI (jI x2)), some (vI (jI x3)), some (vI (jI ((3 + k : Nat) : Int)))] [] G1 Q := by
    intro k
    induction k with
    | zero =>
      intro G1 f1 hk hV1 hO ho hj
      apply vcX8_logs_4
      rw [jI_le (inR_n (by omega)) (inR_s (by omega) (by omega))]
      refine ⟨fun _ => ?_, fun q => absurd (show ((3 + 0 : Nat) : Int) ≤ 3 by omega) q⟩
      rintro _ rfl
      rw [wI_n (by omega), hV1, ho 0 (by omega)]
      rintro _ rfl _ rfl _ rfl
      have k4 := (((hV1.wr 162 x1).wr 163 (f 0)).wr 164 x2).wr 165 x3
      have e4 : aU (aU (aU (aU f1 162 x1) 163 (f 0)) 164 x2) 165 x3 194 = f 194 := by
        rw [aU_n (by omega), aU_n (by omega), aU_n (by omega), aU_n (by omega)]; exact ho 194 (by omega)
      rw [k4, e4, jI_le (inR_s (by omega) (by omega)) ⟨by omega, by omega⟩]
      have hO4 : RO G (wI (wI (wI (wI G1 a 162 (jI x1)) a 163 (jI (f 0))) a 164 (jI x2)) a 165 (jI x3)) a := hO.tr (RO.wr.tr (RO.wr.tr (RO.wr.tr RO.wr)))
      have fin : ∀ y : Int, y = min 8 (f 194 + 1) → lgP f (aU (aU (aU (aU (aU f1 162 x1) 163 (f 0)) 164 x2) 165 x3) 194 y) x1 x2 x3 := by
        intro y hy
        refine ⟨fun q hq => ?_, fun j h4 h32 => ?_, ?_, ?_, ?_, ?_, ?_⟩
        · rw [aU_n (by omega), aU_n (by omega), aU_n (by omega), aU_n (by omega), aU_n (by omega)]; exact ho q (by omega)
        · rw [aU_n (by omega), aU_n (by omega), aU_n (by omega), aU_n (by omega), aU_n (by omega), hj j h32, if_pos (by omega)]
        · rw [aU_n (by omega), aU_n (by omega), aU_n (by omega), aU_n (by omega), aU_s]
        · rw [aU_n (by omega), aU_n (by omega), aU_n (by omega), aU_s]
        · rw [aU_n (by omega), aU_n (by omega), aU_s]
        · rw [aU_n (by omega), aU_s]
        · rw [aU_s]; exact hy
      refine ⟨fun q => ?_, fun q => ?_⟩
      · rintro _ rfl
        rw [jI_add]
        exact h _ _ (k4.wr 194 _) (hO4.tr RO.wr) (fin _ (by omega))
      · rintro _ rfl
        rw [jI_add]
        exact h _ _ (k4.wr 194 _) (hO4.tr RO.wr) (fin _ (by omega))
    | succ k ih =>
      intro G1 f1 hk hV1 hO ho hj
      apply vcX8_logs_4
      rw [jI_le (inR_n (by omega)) (inR_s (by omega) (by omega))]
      refine ⟨fun q => by omega, fun _ => ?_⟩
      simp only [jI_add, jI_sub]
      refine ⟨jI_in (by omega) (by omega) (by omega), jI_in (by omega) (by omega) (by omega), ?_⟩
      rintro _ rfl
      have c0 : (jI ((162 : Int) + ((3 + (k + 1) : Nat) : Int))).toNatClampNeg = 162 + (4 + k) := by rw [jI_cl (by omega) (by omega)]; omega
      have c1 : (jI ((162 : Int) + ((3 + (k + 1) : Nat) : Int) - 4)).toNatClampNeg = 162 + k := by rw [jI_cl (by omega) (by omega)]; omega
      rw [c0, c1, hV1, hj k (by omega), if_neg (by omega), show (((3 + (k + 1) : Nat) : Int) + -1) = ((3 + k : Nat) : Int) by omega]
      refine ih _ _ (by omega) (hV1.wr _ _) (hO.tr RO.wr) (fun q hq => by rw [aU_n (by omega)]; exact ho q hq) (fun j h32 => ?_)
      by_cases hjk : j = 4 + k
      · rw [hjk, aU_s, if_pos (by omega), show 158 + (4 + k) = 162 + k by omega]
      · rw [aU_n (by omega), hj j h32]
        by_cases hj4 : 3 + (k + 1) < j
        · rw [if_pos hj4, if_pos (by omega)]
        · rw [if_neg hj4, if_neg (by omega)]
  exact loop 28 G f (by omega) hV RO.rf (fun _ _ => rfl) (fun j hj => by rw [if_neg (by omega)])
/-- the log's part of the state -/
theorem RepR.lg {f w : Ar} {M : Ms} {e : Ar} {x1 x2 x3 : Int} (h : RepR f M) (hl : M.2.1.length ≤ 20) (hl8 : M.2.2.2.length ≤ 8) (hw : lgP f w x1 x2 x3) (h0 : e 0 = x1) (h1 : e 1 = f 0) (h2 : e 2 = x2) (h3 : e 3 = x3) : RepR w (M.1, M.2.1, M.2.2.1, (e :: M.2.2.2).take 8) := by
  obtain ⟨⟨s2, s0⟩, hR, hc, hl2, hlg⟩ := h
  obtain ⟨wo, wj, w0, w1, w2, w3, w4⟩ := hw
  refine ⟨⟨by rw [wo 2 (by omega)]; exact s2, fun m hm hm2 => by rw [wo m (by omega)]; exact s0 m hm hm2⟩, hR.eq (fun k k1 k2 => wo k (by have : k < 14 + 7 * M.2.1.length := k2; omega)), fun c hc4 => by rw [wo _ (by omega), wo _ (by omega)]; exact hc c hc4, ?_, fun j x hx q hq => ?_⟩
  · rw [w4, hl2]
    show _ = (((e :: M.2.2.2).take 8).length : Int)
    rw [List.length_take, List.length_cons]
    omega
  · have hx : ((e :: M.2.2.2).take 8)[j]? = some x := hx
    rw [List.getElem?_take] at hx
    by_cases hj8 : j < 8
    · rw [if_pos hj8] at hx
      cases j with
      | zero =>
        have hx : e = x := Option.some.inj hx
        rw [← hx]
        rcases (show q = 0 ∨ q = 1 ∨ q = 2 ∨ q = 3 by omega) with rfl | rfl | rfl | rfl
        · rw [h0]; exact w0
        · rw [h1]; exact w1
        · rw [h2]; exact w2
        · rw [h3]; exact w3
      | succ j =>
        have hx : M.2.2.2[j]? = some x := hx
        rw [show 162 + 4 * (j + 1) + q = 162 + (4 * j + 4 + q) by omega, wj _ (by omega) (by omega), show 158 + (4 * j + 4 + q) = 162 + 4 * j + q by omega]
        exact hlg j x hx q hq
    · rw [if_neg hj8] at hx; cases hx
theorem RepR.s1 {f : Ar} {M : Ms} {s : Nat → Int} (h : RepR f M) (hs : ∀ k, k < 14 → s k = M.1 k) : RepR f (s, M.2) := by
  obtain ⟨⟨s2, s0⟩, hR⟩ := h
  refine ⟨⟨s2, fun m hm hm2 => ?_⟩, hR⟩
  show f m = s (hix m)
  have hb : hix m < 14 := by
    have : ∀ m, m < 14 → hix m < 14 := by decide
    exact this m hm
  rw [hs _ hb]
  exact s0 m hm hm2
theorem mR1_cnc {M : Ms} {a : Ar} (hn : NI M.2.1) (ha : a ∈ M.2.1) (h4 : a 4 ≠ -1005) : cnc (mR1 M a).2.1 + 1 = cnc M.2.1 := by
  show cnc (if a 2 = 0 then M.2.1.filter (fun b => decide (b 0 ≠ a 0)) else M.2.1.map (fun b => if b 0 = a 0 then rung b (M.1 0 - a 1) else b)) + 1 = _
  split
  · exact cnc_rem hn ha h4
  · exact cnc_map hn ha h4
theorem dv_lt {s p k : Int} (hp : 0 < p) : (k + 1) * p ≤ s ↔ k < s / p := by
  rw [show (k < s / p) ↔ (k + 1 ≤ s / p) by omega]
  exact (Int.le_ediv_iff_mul_le hp).symm
theorem sp_rings {G : Mm} {a i c : Nat} {f : Ar} {M : Ms} {T K : Int} {Q : dp_Ps} (hV : RV G a f) (hR : RepR f M) (hJ : MJ M T K c) (hi : i < M.2.1.length) (h4 : rA f i 4 = c)
    (h : ∀ G' f', RV G' a f' → RO G G' a → RepR f' (mR1 M (rA f i)) → Q (jI 0) G') : Sp 103 3 [vR 16 a, vI (jI (i : Int))] G Q := by
  have hB := hJ.B
  have hl := hB.2.1
  have hl8 := hB.l8
  have hs := hB.1
  have vi := hB.v hR.2.1 hi
  have haL := hR.2.1.at hi
  have hdue := hJ.2.2.2.2.2.2.2 _ haL h4
  have e0 : rA f i 0 = f (14 + 7 * i) := rA_k (k := 0) (by decide)
  have e1 : rA f i 1 = f (14 + 7 * i + 1) := rA_k (by decide)
  have e2 : rA f i 2 = f (14 + 7 * i + 2) := rA_k (by decide)
  have e4 : rA f i 4 = f (14 + 7 * i + 4) := rA_k (by decide)
  have e5 : rA f i 5 = f (14 + 7 * i + 5) := rA_k (by decide)
  have e6 : rA f i 6 = f (14 + 7 * i + 6) := rA_k (by decide)
  have ec : f 0 = M.1 0 := hR.1.2 0 (by decide) (by decide)
  have f4 : f 4 = M.1 8 := hR.1.2 4 (by decide) (by decide)
  have f5 : f 5 = M.1 9 := hR.1.2 5 (by decide) (by decide)
  have f6 : f 6 = M.1 10 := hR.1.2 6 (by decide) (by decide)
  have f7 : f 7 = M.1 11 := hR.1.2 7 (by decide) (by decide)
  unfold SI at hs
  rw [e1] at hdue
  generalize hsl : M.1 0 - f (14 + 7 * i + 1) = s
  have hs0 : 0 ≤ s ∧ s ≤ 100000000 := by omega
  have is : inR s := ⟨by omega, by omega⟩
  have i0 : inR 0 := inR_s (by omega) (by omega)
  apply vcX8_rings
  refine sp_of (k := 1) hV (by omega) (by decide) ?_
  refine sp_of (k := 0) hV (by omega) (by decide) ?_
  refine sp_of (k := 4) hV (by omega) (by decide) ?_
  rw [hV 0, ec, jI_sub, hsl]
  refine sp_logs hV (by rw [hR.2.2.2.1]; omega) (fun G1 w k1 k2 k3 => ?_)
  have hRl := hR.lg (e := lgE (rA f i) (M.1 0) s) hl hl8 k3 e0 ec.symm rfl (by show rA f i 4 = _; rw [e4])
  have wo := k3.1
  have w4 : w 4 = M.1 8 := by rw [wo 4 (by omega), f4]
  have w5 : w 5 = M.1 9 := by rw [wo 5 (by omega), f5]
  have w6 : w 6 = M.1 10 := by rw [wo 6 (by omega), f6]
  have w7 : w 7 = M.1 11 := by rw [wo 7 (by omega), f7]
  have wa : ∀ k, k < 7 → w (14 + 7 * i + k) = f (14 + 7 * i + k) := fun k hk => wo _ (by omega)
  rintro _ rfl
  rw [k1, w4, jI_add]
  have k5 := k1.wr 4 (M.1 8 + 1)
  rintro _ rfl
  rw [k5, aU_n (by omega), w5, jI_add]
  have k6 := k5.wr 5 (M.1 9 + s)
  rw [k6, aU_n (by omega), aU_n (by omega), w6, jI_le is ⟨by omega, by omega⟩]
  have hO6 : RO G (wI (wI G1 a 4 (jI (M.1 8 + 1))) a 5 (jI (M.1 9 + s))) a := k2.tr (RO.wr.tr RO.wr)
  have hR6 := ((hRl.hd (k := 4) (x := M.1 8 + 1) (by decide) (by decide)).hd (k := 5) (x := M.1 9 + s) (by decide) (by decide)).hd (k := 6) (x := max (M.1 10) s) (by decide) (by decide)
  have key : ∀ y : Int, y = max (M.1 10) s → ∀ G7 : Mm, G7 = wI (wI (wI G1 a 4 (jI (M.1 8 + 1))) a 5 (jI (M.1 9 + s))) a 6 (jI y) →
      RV G7 a (aU (aU (aU w 4 (M.1 8 + 1)) 5 (M.1 9 + s)) 6 (max (M.1 10) s)) ∧ RO G G7 a := by
    rintro y rfl _ rfl
    exact ⟨k6.wr 6 _, hO6.tr RO.wr⟩
  generalize hg6 : aU (aU (aU w 4 (M.1 8 + 1)) 5 (M.1 9 + s)) 6 (max (M.1 10) s) = g at *
  have ga : ∀ k, k < 7 → g (14 + 7 * i + k) = f (14 + 7 * i + k) := fun k hk => by rw [← hg6, aU_n (by omega), aU_n (by omega), aU_n (by omega)]; exact wa k hk
  have g7 : g 7 = M.1 11 := by rw [← hg6, aU_n (by omega), aU_n (by omega), aU_n (by omega)]; exact w7
  have gc : g 0 = M.1 0 := by rw [← hg6, aU_n (by omega), aU_n (by omega), aU_n (by omega), wo 0 (by omega), ec]
  have gr : rA g i = rA f i := rA_eq ga
  -- the alarm is over
  have over : ∀ G7 : Mm, RV G7 a g → RO G G7 a → f (14 + 7 * i + 2) = 0 → Sp 101 3 [vR 16 a, vI (jI (i : Int))] G7 (fun _ G => Q (jI 0) G) := by
    intro G7 hV7 hO7 hp
    have hR7 := hR6.s1 (s := mSc M.1 s 0) (fun k hk => ?_)
    · refine sp_removes hV7 hR7 hB.2.2.1 hl hi (fun G' f' j1 j2 j3 => h G' f' j1 (hO7.tr j2) ?_)
      have e : mRem (mSc M.1 s 0, M.2.1, M.2.2.1, (lgE (rA f i) (M.1 0) s :: M.2.2.2).take 8) (rA g i) = mR1 M (rA f i) := by
        unfold mR1 mRem
        rw [if_pos (by rw [e2]; exact hp), if_pos (by rw [e2]; exact hp), e1, hsl, gr]
      rw [e] at j3
      exact j3
    · show mSc M.1 s 0 k = aU (aU (aU M.1 8 (M.1 8 + 1)) 9 (M.1 9 + s)) 10 (max (M.1 10) s) k
      unfold mSc
      rw [aU_n (by omega)]
      by_cases hk11 : k = 11
      · rw [hk11, aU_s, aU_n (by omega), aU_n (by omega), aU_n (by omega), Int.add_zero]
      · rw [aU_n hk11]
  -- it goes on
  have on : ∀ (G7 : Mm) (w2 : Option Vl) (u : Ar), ¬ f (14 + 7 * i + 2) = 0 → RV G7 a u → RO G G7 a → (∀ q, q < 14 + 7 * i ∨ 14 + 7 * i + 7 ≤ q → u q = g q) → u (14 + 7 * i) = f (14 + 7 * i) → u (14 + 7 * i + 1) = f (14 + 7 * i + 1) + f (14 + 7 * i + 2) → u (14 + 7 * i + 2) = f (14 + 7 * i + 2) → u (14 + 7 * i + 3) = f (14 + 7 * i + 3) → u (14 + 7 * i + 4) = -1005 → u (14 + 7 * i + 5) = f (14 + 7 * i + 5) + 1 → u (14 + 7 * i + 6) = max (f (14 + 7 * i + 6)) s →
      Wp 103 148 [some (vR 16 a), some (vI (jI (i : Int))), w2] [] G7 Q := by
    intro G7 w2 u hp hV7 hO7 uo u0 u1 u2 u3 u4 u5 u6
    have hp0 : 0 < f (14 + 7 * i + 2) := by omega
    generalize hpp : f (14 + 7 * i + 2) = p at *
    have hd := tdiv_b hs0.1 hp0
    have loop : ∀ m : Nat, ∀ (k : Int) (G8 : Mm) (x : Ar), (s / p - k).toNat < m → 0 ≤ k → k ≤ s / p → RV G8 a x → RO G G8 a → (∀ q, q ≠ 7 → q ≠ 14 + 7 * i + 1 → x q = u q) → x 7 = M.1 11 + k → x (14 + 7 * i + 1) = f (14 + 7 * i + 1) + (k + 1) * p → Wp 103 148 [some (vR 16 a), some (vI (jI (i : Int))), w2] [] G8 Q := by
      intro m
      induction m with
      | zero => intro k G8 x hm; omega
      | succ m ih =>
        intro k G8 x hm hk0 hk hV8 hO8 xo x7 x1
        have hkp : 0 ≤ k * p ∧ k * p ≤ s / p * p := ⟨Int.mul_nonneg hk0 (by omega), Int.mul_le_mul_of_nonneg_right hk (by omega)⟩
        have hk1 : (k + 1) * p = k * p + p := by rw [Int.add_mul, Int.one_mul]
        have xc : x 0 = M.1 0 := by rw [xo 0 (by omega) (by omega), uo 0 (by omega), gc]
        have hdv := dv_lt (s := s) (k := k) hp0
        apply vcX8_rings_148
        refine sp_of (k := 1) hV8 (by omega) (by decide) ?_
        rw [hV8 0, xc, x1, jI_lt ⟨by omega, by omega⟩ ⟨by omega, by omega⟩]
        refine ⟨fun q => ?_, fun q => ?_⟩
        · have hke : k = s / p := by omega
          refine h G8 x hV8 hO8 ?_
          obtain ⟨⟨s2, s0⟩, hA, hcc, hl2, hlg⟩ := hR6
          have xg : ∀ q, q ≠ 7 → (q < 14 + 7 * i ∨ 14 + 7 * i + 7 ≤ q) → x q = g q := fun q h1 h2 => by rw [xo q h1 (by omega), uo q h2]
          have ef : mR1 M (rA f i) = (mSc M.1 s (s / p), M.2.1.map (fun b => if b 0 = rA f i 0 then rung b s else b), M.2.2.1, (lgE (rA f i) (M.1 0) s :: M.2.2.2).take 8) := by
            unfold mR1
            rw [if_neg (by rw [e2]; exact hp), if_neg (by rw [e2]; exact hp), e1, hsl, e2]
          rw [ef]
          have hA : RA g M.2.1 := hA
          refine ⟨⟨?_, fun m hm hm2 => ?_⟩, hA.map (fun j hj => ?_) (fun j hj => ?_), fun d hd4 => ?_, ?_, fun j e he r hr => ?_⟩
          · rw [xg 2 (by omega) (by omega)]
            show _ = (((M.2.1.map _).length : Nat) : Int)
            rw [List.length_map]; exact s2
          · show x m = mSc M.1 s (s / p) (hix m)
            have hb : ∀ m, m < 14 → m ≠ 2 → hix m ≠ 14 ∧ (hix m = 11 → m = 7) := by decide
            have hbm := hb m hm hm2
            unfold mSc
            rw [aU_n hbm.1]
            by_cases hm7 : m = 7
            · subst hm7
              rw [x7, hke]
              show _ = aU _ 11 _ 11
              rw [aU_s]
            · rw [xg m hm7 (by omega), aU_n (fun z => hm7 (hbm.2 z))]
              exact s0 m hm hm2
          · have hj : j < M.2.1.length := hj
            by_cases hji : j = i
            · subst hji
              rw [gr, if_pos rfl]
              funext r
              by_cases hr : r < 7
              · rw [rA_k hr]
                rcases (show r = 0 ∨ r = 1 ∨ r = 2 ∨ r = 3 ∨ r = 4 ∨ r = 5 ∨ r = 6 by omega) with rfl | rfl | rfl | rfl | rfl | rfl | rfl
                · rw [rung_k (by decide) (by decide) (by decide) (by decide), e0]; show x (14 + 7 * j) = _; rw [xo _ (by omega) (by omega)]; exact u0
                · rw [rung_1, e1, e2, x1, hke]
                · rw [rung_k (by decide) (by decide) (by decide) (by decide), e2, xo _ (by omega) (by omega)]; exact u2
                · rw [rung_k (by decide) (by decide) (by decide) (by decide), rA_k (by decide), xo _ (by omega) (by omega)]; exact u3
                · rw [rung_4, xo _ (by omega) (by omega)]; exact u4
                · rw [rung_5, e5, xo _ (by omega) (by omega)]; exact u5
                · rw [rung_6, e6, xo _ (by omega) (by omega)]; exact u6
              · rw [rung_k (by omega) (by omega) (by omega) (by omega)]
                unfold rA rc7
                rw [if_neg hr, if_neg hr]
            · have : rA g j 0 ≠ rA f i 0 := by rw [← gr]; exact fun z => hji (hA.inj hj hi z)
              rw [if_neg this]
              exact rA_eq (fun r hr => xg _ (by omega) (by omega))
          · have hj : j < M.2.1.length := hj
            by_cases hji : j = i
            · subst hji
              rw [xo _ (by omega) (by omega), u0]
              exact (ga 0 (by decide)).symm
            · exact xg _ (by omega) (by omega)
          · rw [xg _ (by omega) (by omega), xg _ (by omega) (by omega)]
            exact hcc d hd4
          · rw [xg _ (by omega) (by omega)]; exact hl2
          · have hjl := log_lt he
            have hjl : j < ((lgE (rA f i) (M.1 0) s :: M.2.2.2).take 8).length := hjl
            rw [List.length_take] at hjl
            rw [xg _ (by omega) (by omega)]
            exact hlg j e he r hr
        · have hkl : k < s / p := by omega
          rintro _ rfl
          rw [hV8 7, x7, jI_add]
          have k8 := hV8.wr 7 (M.1 11 + k + 1)
          refine sp_of (k := 1) k8 (by omega) (by decide) ?_
          refine sp_of (k := 2) k8 (by omega) (by decide) ?_
          have z1 : aU x 7 (M.1 11 + k + 1) (14 + 7 * i + 1) = f (14 + 7 * i + 1) + (k + 1) * p := by rw [aU_n (by omega)]; exact x1
          have z2 : aU x 7 (M.1 11 + k + 1) (14 + 7 * i + 2) = p := by rw [aU_n (by omega), xo _ (by omega) (by omega)]; exact u2
          rw [z1, z2, jI_add]
          refine sp_put (k := 1) k8 (by omega) (by decide) (fun G9 k9 k10 => ?_)
          refine ih (k + 1) G9 _ (by omega) (by omega) (by omega) k9 (hO8.tr (RO.wr.tr k10)) (fun q h1 h2 => by rw [aU_n h2, aU_n h1]; exact xo q h1 h2) (by rw [aU_n (by omega), aU_s]; omega) ?_
          rw [aU_s, Int.add_mul (k + 1) 1 p, Int.one_mul]; omega
    refine loop ((s / p - 0).toNat + 1) 0 G7 u (by omega) (by omega) hd.1 hV7 hO7 (fun _ _ _ => rfl) (by rw [uo 7 (by omega), g7]; omega) (by rw [u1]; omega)
  -- what goes before it
  have mid : ∀ (G7 : Mm) (w2 : Option Vl) (y : Int), RV G7 a g → RO G G7 a → ¬ f (14 + 7 * i + 2) = 0 → y = max (f (14 + 7 * i + 6)) s →
      ∀ G8 u8, RV G8 a u8 → RO G G8 a → u8 = aU (aU g (14 + 7 * i + 5) (f (14 + 7 * i + 5) + 1)) (14 + 7 * i + 6) y →
      Sp 84 4 [vR 16 a, vI (jI (i : Int)), vI (jI 4), vI (jI (-1005))] G8 (fun _ G38 => Sp 83 3 [vR 16 a, vI (jI (i : Int)), vI (jI 1)] G38 (fun y40 G41 => Sp 83 3 [vR 16 a, vI (jI (i : Int)), vI (jI 2)] G41 (fun y43 G44 => Sp 84 4 [vR 16 a, vI (jI (i : Int)), vI (jI 1), vI (y40 + y43)] G44 (fun _ G47 => Wp 103 148 [some (vR 16 a), some (vI (jI (i : Int))), w2] [] G47 Q)))) := by
    intro G7 w2 y hV7 hO7 hp hy G8 u8 hV8 hO8 hu8
    refine sp_put (k := 4) (x := -1005) hV8 (by omega) (by decide) (fun G9 k9 k10 => ?_)
    refine sp_of (k := 1) k9 (by omega) (by decide) ?_
    refine sp_of (k := 2) k9 (by omega) (by decide) ?_
    have z1 : aU u8 (14 + 7 * i + 4) (-1005) (14 + 7 * i + 1) = f (14 + 7 * i + 1) := by rw [aU_n (by omega), hu8, aU_n (by omega), aU_n (by omega)]; exact ga 1 (by decide)
    have z2 : aU u8 (14 + 7 * i + 4) (-1005) (14 + 7 * i + 2) = f (14 + 7 * i + 2) := by rw [aU_n (by omega), hu8, aU_n (by omega), aU_n (by omega)]; exact ga 2 (by decide)
    rw [z1, z2, jI_add]
    refine sp_put (k := 1) k9 (by omega) (by decide) (fun G10 k11 k12 => ?_)
    refine on G10 w2 _ hp k11 (hO8.tr (k10.tr k12)) (fun q hq => ?_) ?_ ?_ ?_ ?_ ?_ ?_ ?_
    · rw [aU_n (by omega), aU_n (by omega), hu8, aU_n (by omega), aU_n (by omega)]
    · rw [aU_n (by omega), aU_n (by omega), hu8, aU_n (by omega), aU_n (by omega)]; exact ga 0 (by decide)
    · rw [aU_s]
    · rw [aU_n (by omega)]; exact z2
    · rw [aU_n (by omega), aU_n (by omega), hu8, aU_n (by omega), aU_n (by omega)]; exact ga 3 (by decide)
    · rw [aU_n (by omega), aU_s]
    · rw [aU_n (by omega), aU_n (by omega), hu8, aU_n (by omega), aU_s]
    · rw [aU_n (by omega), aU_n (by omega), hu8, aU_s]; exact hy
  have rest : ∀ G7 : Mm, RV G7 a g → RO G G7 a → Sp 83 3 [vR 16 a, vI (jI (i : Int)), vI (jI 2)] G7 (fun y17 G18 => (y17 = jI 0 → Sp 101 3 [vR 16 a, vI (jI (i : Int))] G18 (fun _ G65 => Q (jI 0) G65)) ∧ (¬ y17 = jI 0 → Sp 83 3 [vR 16 a, vI (jI (i : Int)), vI (jI 5)] G18 (fun y21 G22 => Sp 84 4 [vR 16 a, vI (jI (i : Int)), vI (jI 5), vI (y21 + jI 1)] G22 (fun _ G25 => Sp 83 3 [vR 16 a, vI (jI (i : Int)), vI (jI 6)] G25 (fun y27 G28 => (jI s ≤ y27 → Sp 83 3 [vR 16 a, vI (jI (i : Int)), vI (jI 6)] G28 (fun y31 G32 => Sp 84 4 [vR 16 a, vI (jI (i : Int)), vI (jI 6), vI y31] G32 (fun _ G35 => Sp 84 4 [vR 16 a, vI (jI (i : Int)), vI (jI 4), vI (jI (-1005))] G35 (fun _ G38 => Sp 83 3 [vR 16 a, vI (jI (i : Int)), vI (jI 1)] G38 (fun y40 G41 => Sp 83 3 [vR 16 a, vI (jI (i : Int)), vI (jI 2)] G41 (fun y43 G44 => Sp 84 4 [vR 16 a, vI (jI (i : Int)), vI (jI 1), vI (y40 + y43)] G44 (fun _ G47 => Wp 103 148 [some (vR 16 a), some (vI (jI (i : Int))), some (vI (jI s))] [] G47 Q))))))) ∧ (¬ jI s ≤ y27 → Sp 84 4 [vR 16 a, vI (jI (i : Int)), vI (jI 6), vI (jI s)] G28 (fun _ G50 => Sp 84 4 [vR 16 a, vI (jI (i : Int)), vI (jI 4), vI (jI (-1005))] G50 (fun _ G38 => Sp 83 3 [vR 16 a, vI (jI (i : Int)), vI (jI 1)] G38 (fun y40 G41 => Sp 83 3 [vR 16 a, vI (jI (i : Int)), vI (jI 2)] G41 (fun y43 G44 => Sp 84 4 [vR 16 a, vI (jI (i : Int)), vI (jI 1), vI (y40 + y43)] G44 (fun _ G47 => Wp 103 148 [some (vR 16 a), some (vI (jI (i : Int))), some (vI (jI s))] [] G47 Q))))))))))) := by
    intro G7 hV7 hO7
    refine sp_of (k := 2) hV7 (by omega) (by decide) ?_
    rw [ga 2 (by decide), jI_inj ⟨by omega, by omega⟩ i0]
    refine ⟨fun q => over G7 hV7 hO7 q, fun q => ?_⟩
    refine sp_of (k := 5) hV7 (by omega) (by decide) ?_
    rw [ga 5 (by decide), jI_add]
    refine sp_put (k := 5) hV7 (by omega) (by decide) (fun G8 k7 k8 => ?_)
    refine sp_of (k := 6) k7 (by omega) (by decide) ?_
    have z6 : aU g (14 + 7 * i + 5) (f (14 + 7 * i + 5) + 1) (14 + 7 * i + 6) = f (14 + 7 * i + 6) := by rw [aU_n (by omega)]; exact ga 6 (by decide)
    rw [z6, jI_le is ⟨by omega, by omega⟩]
    refine ⟨fun q2 => ?_, fun q2 => ?_⟩
    · refine sp_of (k := 6) k7 (by omega) (by decide) ?_
      rw [z6]
      refine sp_put (k := 6) k7 (by omega) (by decide) (fun G9 k9 k10 => ?_)
      exact mid G7 _ _ hV7 hO7 q (show f (14 + 7 * i + 6) = max (f (14 + 7 * i + 6)) s by omega) G9 _ k9 (hO7.tr (k8.tr k10)) rfl
    · refine sp_put (k := 6) k7 (by omega) (by decide) (fun G9 k9 k10 => ?_)
      exact mid G7 _ _ hV7 hO7 q (show s = max (f (14 + 7 * i + 6)) s by omega) G9 _ k9 (hO7.tr (k8.tr k10)) rfl
  exact ⟨fun q G7 hG => rest G7 (key _ (by omega) G7 hG).1 (key _ (by omega) G7 hG).2, fun q G7 hG => rest G7 (key _ (by omega) G7 hG).1 (key _ (by omega) G7 hG).2⟩
