/-! ===== what each method asks, from its entry and from each loop head on: printed by a program ===== -/
set_option maxHeartbeats 20000000 in
theorem vcX8_in {x0 x1 x2 : Int32} {G : Mm} {Q : dp_Ps} (h : (x0 < x1 → Q (jI 0) G) ∧ (¬ x0 < x1 → (x2 < x0 → Q (jI 0) G) ∧ (¬ x2 < x0 → Q (jI 1) G))) : Sp 80 3 [vI x0, vI x1, vI x2] G Q := by
  have f := @fX8_in
  have mo := @Wp_mono
  revert h f mo
  try unfold Sp
  generalize Wp = X
  intro h f mo
  refine f ?_
  refine f ?_
  refine f ?_
  refine And.intro (fun q1 => ?_) (fun q1 => ?_)
  · refine f ?_
    refine f ?_
    exact And.intro (Or.inl rfl) (h.1 q1)
  · refine f ?_
    refine f ?_
    refine f ?_
    refine And.intro (fun q2 => ?_) (fun q2 => ?_)
    · refine f ?_
      refine f ?_
      exact And.intro (Or.inl rfl) ((h.2 q1).1 q2)
    · refine f ?_
      refine f ?_
      refine f ?_
      exact And.intro (Or.inr rfl) ((h.2 q1).2 q2)
set_option maxHeartbeats 20000000 in
theorem vcX8_lays_16_16 {a0 a2 : Nat} {x1 x3 : Int32} {G : Mm} {Q : dp_Ps} (h : Wp 81 3 [some (vR 16 a0), some (vI x1), some (vR 16 a2), some (vI x3), some (vI (jI 0))] [] G Q) : Sp 81 5 [vR 16 a0, vI x1, vR 16 a2, vI x3] G Q := by
  have f := @fX8_lays
  have mo := @Wp_mono
  revert h f mo
  try unfold Sp
  generalize Wp = X
  intro h f mo
  refine f ?_
  refine f ?_
  exact h
set_option maxHeartbeats 20000000 in
theorem vcX8_lays_3_16_16 {a0 a2 : Nat} {x1 x3 x4 : Int32} {G : Mm} {Q : dp_Ps} (h : ((jI 195) ≤ x4 → Q (jI 0) G) ∧ (¬ (jI 195) ≤ x4 → vp_in (x1 + x4) 195 ∧ (vp_in (x3 + x4) 195 ∧ (∀ G2 : Mm, G2 = wI G a2 ((x3 + x4)).toNatClampNeg (G.1 a0 ((x1 + x4)).toNatClampNeg) → Wp 81 3 [some (vR 16 a0), some (vI x1), some (vR 16 a2), some (vI x3), some (vI (x4 + (jI 1)))] [] G2 Q)))) : Wp 81 3 [some (vR 16 a0), some (vI x1), some (vR 16 a2), some (vI x3), some (vI x4)] [] G Q := by
  have f := @fX8_lays
  have mo := @Wp_mono
  revert h f mo
  try unfold Sp
  generalize Wp = X
  intro h f mo
  refine f ?_
  refine f ?_
  refine f ?_
  refine And.intro (fun q1 => ?_) (fun q1 => ?_)
  · refine f ?_
    exact (h.1 q1)
  · refine f ?_
    refine f ?_
    refine f ?_
    refine f ?_
    refine f ?_
    refine f ?_
    refine f ?_
    refine f ?_
    refine f ?_
    refine And.intro (h.2 q1).1 ?_
    refine f ?_
    refine And.intro (h.2 q1).2.1 ?_
    refine f ?_
    refine f ?_
    exact ((h.2 q1).2.2 _ rfl)
set_option maxHeartbeats 20000000 in
theorem vcX8_lays_16_17 {a0 a2 : Nat} {x1 x3 : Int32} {G : Mm} {Q : dp_Ps} (h : Wp 81 3 [some (vR 16 a0), some (vI x1), some (vR 17 a2), some (vI x3), some (vI (jI 0))] [] G Q) : Sp 81 5 [vR 16 a0, vI x1, vR 17 a2, vI x3] G Q := by
  have f := @fX8_lays
  have mo := @Wp_mono
  revert h f mo
  try unfold Sp
  generalize Wp = X
  intro h f mo
  refine f ?_
  refine f ?_
  exact h
set_option maxHeartbeats 20000000 in
theorem vcX8_lays_3_16_17 {a0 a2 : Nat} {x1 x3 x4 : Int32} {G : Mm} {Q : dp_Ps} (h : ((jI 195) ≤ x4 → Q (jI 0) G) ∧ (¬ (jI 195) ≤ x4 → vp_in (x1 + x4) 195 ∧ (vp_in (x3 + x4) 780 ∧ (∀ G2 : Mm, G2 = wI G a2 ((x3 + x4)).toNatClampNeg (G.1 a0 ((x1 + x4)).toNatClampNeg) → Wp 81 3 [some (vR 16 a0), some (vI x1), some (vR 17 a2), some (vI x3), some (vI (x4 + (jI 1)))] [] G2 Q)))) : Wp 81 3 [some (vR 16 a0), some (vI x1), some (vR 17 a2), some (vI x3), some (vI x4)] [] G Q := by
  have f := @fX8_lays
  have mo := @Wp_mono
  revert h f mo
  try unfold Sp
  generalize Wp = X
  intro h f mo
  refine f ?_
  refine f ?_
  refine f ?_
  refine And.intro (fun q1 => ?_) (fun q1 => ?_)
  · refine f ?_
    exact (h.1 q1)
  · refine f ?_
    refine f ?_
    refine f ?_
    refine f ?_
    refine f ?_
    refine f ?_
    refine f ?_
    refine f ?_
    refine f ?_
    refine And.intro (h.2 q1).1 ?_
    refine f ?_
    refine And.intro (h.2 q1).2.1 ?_
    refine f ?_
    refine f ?_
    exact ((h.2 q1).2.2 _ rfl)
set_option maxHeartbeats 20000000 in
theorem vcX8_lays_17_16 {a0 a2 : Nat} {x1 x3 : Int32} {G : Mm} {Q : dp_Ps} (h : Wp 81 3 [some (vR 17 a0), some (vI x1), some (vR 16 a2), some (vI x3), some (vI (jI 0))] [] G Q) : Sp 81 5 [vR 17 a0, vI x1, vR 16 a2, vI x3] G Q := by
  have f := @fX8_lays
  have mo := @Wp_mono
  revert h f mo
  try unfold Sp
  generalize Wp = X
  intro h f mo
  refine f ?_
  refine f ?_
  exact h
set_option maxHeartbeats 20000000 in
theorem vcX8_lays_3_17_16 {a0 a2 : Nat} {x1 x3 x4 : Int32} {G : Mm} {Q : dp_Ps} (h : ((jI 195) ≤ x4 → Q (jI 0) G) ∧ (¬ (jI 195) ≤ x4 → vp_in (x1 + x4) 780 ∧ (vp_in (x3 + x4) 195 ∧ (∀ G2 : Mm, G2 = wI G a2 ((x3 + x4)).toNatClampNeg (G.1 a0 ((x1 + x4)).toNatClampNeg) → Wp 81 3 [some (vR 17 a0), some (vI x1), some (vR 16 a2), some (vI x3), some (vI (x4 + (jI 1)))] [] G2 Q)))) : Wp 81 3 [some (vR 17 a0), some (vI x1), some (vR 16 a2), some (vI x3), some (vI x4)] [] G Q := by
  have f := @fX8_lays
  have mo := @Wp_mono
  revert h f mo
  try unfold Sp
  generalize Wp = X
  intro h f mo
  refine f ?_
  refine f ?_
  refine f ?_
  refine And.intro (fun q1 => ?_) (fun q1 => ?_)
  · refine f ?_
    exact (h.1 q1)
  · refine f ?_
    refine f ?_
    refine f ?_
    refine f ?_
    refine f ?_
    refine f ?_
    refine f ?_
    refine f ?_
    refine f ?_
    refine And.intro (h.2 q1).1 ?_
    refine f ?_
    refine And.intro (h.2 q1).2.1 ?_
    refine f ?_
    refine f ?_
    exact ((h.2 q1).2.2 _ rfl)
set_option maxHeartbeats 20000000 in
theorem vcX8_records {a0 : Nat} {G : Mm} {Q : dp_Ps} (h : ((G.1 a0 3) = (jI 4) → Wp 82 10 [some (vR 8 a0), some (vI (jI 0))] [] G Q) ∧ (¬ (G.1 a0 3) = (jI 4) → Sp 81 5 [vR 16 (G.2 a0 0), vI (jI 0), vR 17 (G.2 a0 2), vI ((jI 195) * (G.1 a0 3))] G (fun y2 G3 => (∀ G5 : Mm, G5 = wI G3 a0 3 ((G3.1 a0 3) + (jI 1)) → Q (jI 0) G5)))) : Sp 82 2 [vR 8 a0] G Q := by
  have f := @fX8_records
  have mo := @Wp_mono
  revert h f mo
  try unfold Sp
  generalize Wp = X
  intro h f mo
  refine f ?_
  refine f ?_
  refine f ?_
  refine f ?_
  refine And.intro (fun q1 => ?_) (fun q1 => ?_)
  · refine f ?_
    refine f ?_
    refine f ?_
    refine f ?_
    refine f ?_
    refine f ?_
    refine f ?_
    refine f ?_
    refine f ?_
    refine f ?_
    refine mo (h.2 q1) (fun y2 G3 q4 => ?_)
    refine f ?_
    refine f ?_
    refine f ?_
    refine f ?_
    refine f ?_
    refine f ?_
    refine f ?_
    exact (q4 _ rfl)
  · refine f ?_
    refine f ?_
    exact (h.1 (Classical.not_not.mp q1))
set_option maxHeartbeats 20000000 in
theorem vcX8_records_10 {a0 : Nat} {x1 : Int32} {G : Mm} {Q : dp_Ps} (h : ((jI 585) ≤ x1 → (∀ G2 : Mm, G2 = wI G a0 3 ((G.1 a0 3) - (jI 1)) → Sp 81 5 [vR 16 (G2.2 a0 0), vI (jI 0), vR 17 (G2.2 a0 2), vI ((jI 195) * (G2.1 a0 3))] G2 (fun y3 G4 => (∀ G6 : Mm, G6 = wI G4 a0 3 ((G4.1 a0 3) + (jI 1)) → Q (jI 0) G6)))) ∧ (¬ (jI 585) ≤ x1 → vp_in (x1 + (jI 195)) 780 ∧ (vp_in x1 780 ∧ (∀ G7 : Mm, G7 = wI G (G.2 a0 2) (x1).toNatClampNeg (G.1 (G.2 a0 2) ((x1 + (jI 195))).toNatClampNeg) → Wp 82 10 [some (vR 8 a0), some (vI (x1 + (jI 1)))] [] G7 Q)))) : Wp 82 10 [some (vR 8 a0), some (vI x1)] [] G Q := by
  have f := @fX8_records
  have mo := @Wp_mono
  revert h f mo
  try unfold Sp
  generalize Wp = X
  intro h f mo
  refine f ?_
  refine f ?_
  refine f ?_
  refine And.intro (fun q1 => ?_) (fun q1 => ?_)
  · refine f ?_
    refine f ?_
    refine f ?_
    refine f ?_
    refine f ?_
    refine f ?_
    refine f ?_
    refine f ?_
    refine f ?_
    refine f ?_
    refine f ?_
    refine f ?_
    refine f ?_
    refine f ?_
    refine f ?_
    refine f ?_
    refine mo ((h.1 q1) _ rfl) (fun y3 G4 q5 => ?_)
    refine f ?_
    refine f ?_
    refine f ?_
    refine f ?_
    refine f ?_
    refine f ?_
    refine f ?_
    exact (q5 _ rfl)
  · refine f ?_
    refine f ?_
    refine f ?_
    refine f ?_
    refine f ?_
    refine f ?_
    refine f ?_
    refine f ?_
    refine f ?_
    refine And.intro (h.2 q1).1 ?_
    refine f ?_
    refine And.intro (h.2 q1).2.1 ?_
    refine f ?_
    refine f ?_
    exact ((h.2 q1).2.2 _ rfl)
set_option maxHeartbeats 20000000 in
theorem vcX8_of {a0 : Nat} {x1 x2 : Int32} {G : Mm} {Q : dp_Ps} (h : vp_in (((jI 14) + ((jI 7) * x1)) + x2) 195 ∧ (Q (G.1 a0 ((((jI 14) + ((jI 7) * x1)) + x2)).toNatClampNeg) G)) : Sp 83 3 [vR 16 a0, vI x1, vI x2] G Q := by
  have f := @fX8_of
  have mo := @Wp_mono
  revert h f mo
  try unfold Sp
  generalize Wp = X
  intro h f mo
  refine f ?_
  refine f ?_
  refine f ?_
  refine f ?_
  refine f ?_
  refine f ?_
  refine f ?_
  refine f ?_
  refine f ?_
  refine And.intro h.1 ?_
  refine f ?_
  exact h.2
set_option maxHeartbeats 20000000 in
theorem vcX8_put {a0 : Nat} {x1 x2 x3 : Int32} {G : Mm} {Q : dp_Ps} (h : vp_in (((jI 14) + ((jI 7) * x1)) + x2) 195 ∧ (∀ G1 : Mm, G1 = wI G a0 ((((jI 14) + ((jI 7) * x1)) + x2)).toNatClampNeg x3 → Q (jI 0) G1)) : Sp 84 4 [vR 16 a0, vI x1, vI x2, vI x3] G Q := by
  have f := @fX8_put
  have mo := @Wp_mono
  revert h f mo
  try unfold Sp
  generalize Wp = X
  intro h f mo
  refine f ?_
  refine f ?_
  refine f ?_
  refine f ?_
  refine f ?_
  refine f ?_
  refine f ?_
  refine f ?_
  refine f ?_
  refine f ?_
  refine And.intro h.1 ?_
  refine f ?_
  exact (h.2 _ rfl)
set_option maxHeartbeats 20000000 in
theorem vcX8_find {a0 : Nat} {x1 : Int32} {G : Mm} {Q : dp_Ps} (h : Wp 85 2 [some (vR 16 a0), some (vI x1), some (vI (jI 0))] [] G Q) : Sp 85 3 [vR 16 a0, vI x1] G Q := by
  have f := @fX8_find
  have mo := @Wp_mono
  revert h f mo
  try unfold Sp
  generalize Wp = X
  intro h f mo
  refine f ?_
  refine f ?_
  exact h
set_option maxHeartbeats 20000000 in
theorem vcX8_find_2 {a0 : Nat} {x1 x2 : Int32} {G : Mm} {Q : dp_Ps} (h : ((G.1 a0 2) ≤ x2 → Q (jI (-1005)) G) ∧ (¬ (G.1 a0 2) ≤ x2 → Sp 83 3 [vR 16 a0, vI x2, vI (jI 0)] G (fun y2 G3 => (y2 = x1 → Q x2 G3) ∧ (¬ y2 = x1 → Wp 85 2 [some (vR 16 a0), some (vI x1), some (vI (x2 + (jI 1)))] [] G3 Q)))) : Wp 85 2 [some (vR 16 a0), some (vI x1), some (vI x2)] [] G Q := by
  have f := @fX8_find
  have mo := @Wp_mono
  revert h f mo
  try unfold Sp
  generalize Wp = X
  intro h f mo
  refine f ?_
  refine f ?_
  refine f ?_
  refine f ?_
  refine And.intro (show vp_in (jI 2) 195 from jI_in (by omega) (by omega) (by omega)) ?_
  refine f ?_
  refine And.intro (fun q1 => ?_) (fun q1 => ?_)
  · refine f ?_
    refine f ?_
    exact (h.1 q1)
  · refine f ?_
    refine f ?_
    refine f ?_
    refine f ?_
    refine mo (h.2 q1) (fun y2 G3 q4 => ?_)
    refine f ?_
    refine f ?_
    refine And.intro (fun q5 => ?_) (fun q5 => ?_)
    · refine f ?_
      refine f ?_
      exact (q4.2 q5)
    · refine f ?_
      refine f ?_
      exact (q4.1 (Classical.not_not.mp q5))
set_option maxHeartbeats 20000000 in
theorem vcX8_isAhead {a0 : Nat} {x1 x2 : Int32} {G : Mm} {Q : dp_Ps} (h : Sp 83 3 [vR 16 a0, vI x1, vI (jI 1)] G (fun y1 G2 => Sp 83 3 [vR 16 a0, vI x2, vI (jI 1)] G2 (fun y4 G5 => ((y1 - y4) = jI 0 → Sp 83 3 [vR 16 a0, vI x2, vI (jI 3)] G5 (fun y8 G9 => Sp 83 3 [vR 16 a0, vI x1, vI (jI 3)] G9 (fun y11 G12 => ((y8 - y11) = jI 0 → (x2 ≤ x1 → Q (jI 0) G12) ∧ (¬ x2 ≤ x1 → Q (jI 1) G12)) ∧ (¬ (y8 - y11) = jI 0 → (jI 0 ≤ (y8 - y11) → Q (jI 0) G12) ∧ (¬ jI 0 ≤ (y8 - y11) → Q (jI 1) G12))))) ∧ (¬ (y1 - y4) = jI 0 → ((y1 - y4) = jI 0 → (x2 ≤ x1 → Q (jI 0) G5) ∧ (¬ x2 ≤ x1 → Q (jI 1) G5)) ∧ (¬ (y1 - y4) = jI 0 → (jI 0 ≤ (y1 - y4) → Q (jI 0) G5) ∧ (¬ jI 0 ≤ (y1 - y4) → Q (jI 1) G5)))))) : Sp 86 4 [vR 16 a0, vI x1, vI x2] G Q := by
  have f := @fX8_isAhead
  have mo := @Wp_mono
  revert h f mo
  try unfold Sp
  generalize Wp = X
  intro h f mo
  refine f ?_
  refine f ?_
  refine f ?_
  refine f ?_
  refine mo h (fun y1 G2 q3 => ?_)
  refine f ?_
  refine f ?_
  refine f ?_
  refine f ?_
  refine mo q3 (fun y4 G5 q6 => ?_)
  refine f ?_
  refine f ?_
  refine f ?_
  refine f ?_
  refine And.intro (fun q7 => ?_) (fun q7 => ?_)
  · refine f ?_
    refine f ?_
    refine f ?_
    refine f ?_
    refine mo (q6.1 q7) (fun y8 G9 q10 => ?_)
    refine f ?_
    refine f ?_
    refine f ?_
    refine f ?_
    refine mo q10 (fun y11 G12 q13 => ?_)
    refine f ?_
    refine f ?_
    refine f ?_
    refine f ?_
    refine And.intro (fun q14 => ?_) (fun q14 => ?_)
    · refine f ?_
      refine f ?_
      refine f ?_
      refine And.intro (fun q15 => ?_) (fun q15 => ?_)
      · refine f ?_
        refine f ?_
        exact And.intro (Or.inl rfl) ((q13.1 q14).1 q15)
      · refine f ?_
        refine f ?_
        refine f ?_
        exact And.intro (Or.inr rfl) ((q13.1 q14).2 q15)
    · refine f ?_
      refine f ?_
      refine And.intro (fun q16 => ?_) (fun q16 => ?_)
      · refine f ?_
        refine f ?_
        refine f ?_
        exact And.intro (Or.inl rfl) ((q13.2 q14).1 q16)
      · refine f ?_
        refine f ?_
        refine f ?_
        exact And.intro (Or.inr rfl) ((q13.2 q14).2 q16)
  · refine f ?_
    refine f ?_
    refine f ?_
    refine f ?_
    refine f ?_
    refine And.intro (fun q17 => ?_) (fun q17 => ?_)
    · refine f ?_
      refine f ?_
      refine f ?_
      refine And.intro (fun q18 => ?_) (fun q18 => ?_)
      · refine f ?_
        refine f ?_
        exact And.intro (Or.inl rfl) (((q6.2 q7).1 q17).1 q18)
      · refine f ?_
        refine f ?_
        refine f ?_
        exact And.intro (Or.inr rfl) (((q6.2 q7).1 q17).2 q18)
    · refine f ?_
      refine f ?_
      refine And.intro (fun q19 => ?_) (fun q19 => ?_)
      · refine f ?_
        refine f ?_
        refine f ?_
        exact And.intro (Or.inl rfl) (((q6.2 q7).2 q17).1 q19)
      · refine f ?_
        refine f ?_
        refine f ?_
        exact And.intro (Or.inr rfl) (((q6.2 q7).2 q17).2 q19)
set_option maxHeartbeats 20000000 in
theorem vcX8_firstOf {a0 : Nat} {x1 : Int32} {G : Mm} {Q : dp_Ps} (h : Wp 87 6 [some (vR 16 a0), some (vI x1), some (vI (jI (-1005))), some (vI (jI 0))] [] G Q) : Sp 87 4 [vR 16 a0, vI x1] G Q := by
  have f := @fX8_firstOf
  have mo := @Wp_mono
  revert h f mo
  try unfold Sp
  generalize Wp = X
  intro h f mo
  refine f ?_
  refine f ?_
  refine f ?_
  refine f ?_
  exact h
set_option maxHeartbeats 20000000 in
theorem vcX8_firstOf_6 {a0 : Nat} {x1 x2 x3 : Int32} {G : Mm} {Q : dp_Ps} (h : ((G.1 a0 2) ≤ x3 → Q x2 G) ∧ (¬ (G.1 a0 2) ≤ x3 → Sp 83 3 [vR 16 a0, vI x3, vI (jI 4)] G (fun y2 G3 => (y2 = x1 → (x2 = (jI (-1005)) → Wp 87 6 [some (vR 16 a0), some (vI x1), some (vI x3), some (vI (x3 + (jI 1)))] [] G3 Q) ∧ (¬ x2 = (jI (-1005)) → Sp 86 4 [vR 16 a0, vI x3, vI x2] G3 (fun y7 G8 => (y7 = jI 0 → Wp 87 6 [some (vR 16 a0), some (vI x1), some (vI x2), some (vI (x3 + (jI 1)))] [] G8 Q) ∧ (¬ y7 = jI 0 → Wp 87 6 [some (vR 16 a0), some (vI x1), some (vI x3), some (vI (x3 + (jI 1)))] [] G8 Q)))) ∧ (¬ y2 = x1 → Wp 87 6 [some (vR 16 a0), some (vI x1), some (vI x2), some (vI (x3 + (jI 1)))] [] G3 Q)))) : Wp 87 6 [some (vR 16 a0), some (vI x1), some (vI x2), some (vI x3)] [] G Q := by
  have f := @fX8_firstOf
  have mo := @Wp_mono
  revert h f mo
  try unfold Sp
  generalize Wp = X
  intro h f mo
  refine f ?_
  refine f ?_
  refine f ?_
  refine f ?_
  refine And.intro (show vp_in (jI 2) 195 from jI_in (by omega) (by omega) (by omega)) ?_
  refine f ?_
  refine And.intro (fun q1 => ?_) (fun q1 => ?_)
  · refine f ?_
    refine f ?_
    exact (h.1 q1)
  · refine f ?_
    refine f ?_
    refine f ?_
    refine f ?_
    refine mo (h.2 q1) (fun y2 G3 q4 => ?_)
    refine f ?_
    refine f ?_
    refine And.intro (fun q5 => ?_) (fun q5 => ?_)
    · refine f ?_
      refine f ?_
      refine f ?_
      refine f ?_
      exact (q4.2 q5)
    · refine f ?_
      refine f ?_
      refine f ?_
      refine And.intro (fun q6 => ?_) (fun q6 => ?_)
      · refine f ?_
        refine f ?_
        refine f ?_
        refine f ?_
        refine f ?_
        exact ((q4.1 (Classical.not_not.mp q5)).1 q6)
      · refine f ?_
        refine f ?_
        refine f ?_
        refine f ?_
        refine mo ((q4.1 (Classical.not_not.mp q5)).2 q6) (fun y7 G8 q9 => ?_)
        refine f ?_
        refine And.intro (fun q10 => ?_) (fun q10 => ?_)
        · refine f ?_
          refine f ?_
          refine f ?_
          refine f ?_
          exact (q9.1 q10)
        · refine f ?_
          refine f ?_
          refine f ?_
          refine f ?_
          refine f ?_
          exact (q9.2 q10)
set_option maxHeartbeats 20000000 in
theorem vcX8_placeOf {a0 : Nat} {x1 : Int32} {G : Mm} {Q : dp_Ps} (h : Wp 88 4 [some (vR 16 a0), some (vI x1), some (vI (jI 0)), some (vI (jI 0))] [] G Q) : Sp 88 4 [vR 16 a0, vI x1] G Q := by
  have f := @fX8_placeOf
  have mo := @Wp_mono
  revert h f mo
  try unfold Sp
  generalize Wp = X
  intro h f mo
  refine f ?_
  refine f ?_
  refine f ?_
  refine f ?_
  exact h
set_option maxHeartbeats 20000000 in
theorem vcX8_placeOf_4 {a0 : Nat} {x1 x2 x3 : Int32} {G : Mm} {Q : dp_Ps} (h : ((G.1 a0 2) ≤ x3 → Q x2 G) ∧ (¬ (G.1 a0 2) ≤ x3 → (x3 = x1 → Wp 88 4 [some (vR 16 a0), some (vI x1), some (vI (x2 + (jI 0))), some (vI (x3 + (jI 1)))] [] G Q) ∧ (¬ x3 = x1 → Sp 86 4 [vR 16 a0, vI x3, vI x1] G (fun y3 G4 => (y3 = jI 0 → Wp 88 4 [some (vR 16 a0), some (vI x1), some (vI (x2 + (jI 0))), some (vI (x3 + (jI 1)))] [] G4 Q) ∧ (¬ y3 = jI 0 → Wp 88 4 [some (vR 16 a0), some (vI x1), some (vI (x2 + (jI 1))), some (vI (x3 + (jI 1)))] [] G4 Q))))) : Wp 88 4 [some (vR 16 a0), some (vI x1), some (vI x2), some (vI x3)] [] G Q := by
  have f := @fX8_placeOf
  have mo := @Wp_mono
  revert h f mo
  try unfold Sp
  generalize Wp = X
  intro h f mo
  refine f ?_
  refine f ?_
  refine f ?_
  refine f ?_
  refine And.intro (show vp_in (jI 2) 195 from jI_in (by omega) (by omega) (by omega)) ?_
  refine f ?_
  refine And.intro (fun q1 => ?_) (fun q1 => ?_)
  · refine f ?_
    refine f ?_
    exact (h.1 q1)
  · refine f ?_
    refine f ?_
    refine f ?_
    refine f ?_
    refine And.intro (fun q2 => ?_) (fun q2 => ?_)
    · refine f ?_
      refine f ?_
      refine f ?_
      refine f ?_
      refine f ?_
      exact ((h.2 q1).1 q2)
    · refine f ?_
      refine f ?_
      refine f ?_
      refine f ?_
      refine mo ((h.2 q1).2 q2) (fun y3 G4 q5 => ?_)
      refine f ?_
      refine And.intro (fun q6 => ?_) (fun q6 => ?_)
      · refine f ?_
        refine f ?_
        refine f ?_
        refine f ?_
        refine f ?_
        exact (q5.1 q6)
      · refine f ?_
        refine f ?_
        refine f ?_
        refine f ?_
        refine f ?_
        refine f ?_
        exact (q5.2 q6)
set_option maxHeartbeats 20000000 in
theorem vcX8_countOf {a0 : Nat} {x1 : Int32} {G : Mm} {Q : dp_Ps} (h : vp_in ((jI 154) + ((jI 2) * x1)) 195 ∧ (Q (G.1 a0 (((jI 154) + ((jI 2) * x1))).toNatClampNeg) G)) : Sp 89 2 [vR 16 a0, vI x1] G Q := by
  have f := @fX8_countOf
  have mo := @Wp_mono
  revert h f mo
  try unfold Sp
  generalize Wp = X
  intro h f mo
  refine f ?_
  refine f ?_
  refine f ?_
  refine f ?_
  refine f ?_
  refine f ?_
  refine f ?_
  refine And.intro h.1 ?_
  refine f ?_
  exact h.2
set_option maxHeartbeats 20000000 in
theorem vcX8_sharing {a0 : Nat} {x1 : Int32} {G : Mm} {Q : dp_Ps} (h : Wp 90 4 [some (vR 16 a0), some (vI x1), some (vI (jI 0)), some (vI (jI 0))] [] G Q) : Sp 90 4 [vR 16 a0, vI x1] G Q := by
  have f := @fX8_sharing
  have mo := @Wp_mono
  revert h f mo
  try unfold Sp
  generalize Wp = X
  intro h f mo
  refine f ?_
  refine f ?_
  refine f ?_
  refine f ?_
  exact h
set_option maxHeartbeats 20000000 in
theorem vcX8_sharing_4 {a0 : Nat} {x1 x2 x3 : Int32} {G : Mm} {Q : dp_Ps} (h : ((G.1 a0 2) ≤ x3 → Q x2 G) ∧ (¬ (G.1 a0 2) ≤ x3 → Sp 83 3 [vR 16 a0, vI x3, vI (jI 4)] G (fun y2 G3 => (y2 = x1 → Wp 90 4 [some (vR 16 a0), some (vI x1), some (vI (x2 + (jI 1))), some (vI (x3 + (jI 1)))] [] G3 Q) ∧ (¬ y2 = x1 → Wp 90 4 [some (vR 16 a0), some (vI x1), some (vI (x2 + (jI 0))), some (vI (x3 + (jI 1)))] [] G3 Q)))) : Wp 90 4 [some (vR 16 a0), some (vI x1), some (vI x2), some (vI x3)] [] G Q := by
  have f := @fX8_sharing
  have mo := @Wp_mono
  revert h f mo
  try unfold Sp
  generalize Wp = X
  intro h f mo
  refine f ?_
  refine f ?_
  refine f ?_
  refine f ?_
  refine And.intro (show vp_in (jI 2) 195 from jI_in (by omega) (by omega) (by omega)) ?_
  refine f ?_
  refine And.intro (fun q1 => ?_) (fun q1 => ?_)
  · refine f ?_
    refine f ?_
    exact (h.1 q1)
  · refine f ?_
    refine f ?_
    refine f ?_
    refine f ?_
    refine f ?_
    refine mo (h.2 q1) (fun y2 G3 q4 => ?_)
    refine f ?_
    refine f ?_
    refine And.intro (fun q5 => ?_) (fun q5 => ?_)
    · refine f ?_
      refine f ?_
      refine f ?_
      refine f ?_
      refine f ?_
      exact (q4.2 q5)
    · refine f ?_
      refine f ?_
      refine f ?_
      refine f ?_
      refine f ?_
      refine f ?_
      exact (q4.1 (Classical.not_not.mp q5))
set_option maxHeartbeats 20000000 in
theorem vcX8_extreme {a0 : Nat} {x1 x2 x3 : Int32} {G : Mm} {Q : dp_Ps} (h : Wp 91 6 [some (vR 16 a0), some (vI x1), some (vI x2), some (vI x3), some (vI x2), some (vI (jI 0)), none] [] G Q) : Sp 91 7 [vR 16 a0, vI x1, vI x2, vI x3] G Q := by
  have f := @fX8_extreme
  have mo := @Wp_mono
  revert h f mo
  try unfold Sp
  generalize Wp = X
  intro h f mo
  refine f ?_
  refine f ?_
  refine f ?_
  refine f ?_
  exact h
set_option maxHeartbeats 20000000 in
theorem vcX8_extreme_6 {a0 : Nat} {x1 x3 x4 x5 : Int32} {w2 w6 : Option Vl} {G : Mm} {Q : dp_Ps} (h : ((G.1 a0 2) ≤ x5 → Q x4 G) ∧ (¬ (G.1 a0 2) ≤ x5 → Sp 83 3 [vR 16 a0, vI x5, vI (jI 1)] G (fun y2 G3 => Sp 83 3 [vR 16 a0, vI x5, vI (jI 4)] G3 (fun y5 G6 => (y5 = x1 → (y2 ≤ x4 → ((jI 0) = x3 → Wp 91 6 [some (vR 16 a0), some (vI x1), w2, some (vI x3), some (vI y2), some (vI (x5 + (jI 1))), some (vI y2)] [] G6 Q) ∧ (¬ (jI 0) = x3 → Wp 91 6 [some (vR 16 a0), some (vI x1), w2, some (vI x3), some (vI x4), some (vI (x5 + (jI 1))), some (vI y2)] [] G6 Q)) ∧ (¬ y2 ≤ x4 → ((jI 1) = x3 → Wp 91 6 [some (vR 16 a0), some (vI x1), w2, some (vI x3), some (vI y2), some (vI (x5 + (jI 1))), some (vI y2)] [] G6 Q) ∧ (¬ (jI 1) = x3 → Wp 91 6 [some (vR 16 a0), some (vI x1), w2, some (vI x3), some (vI x4), some (vI (x5 + (jI 1))), some (vI y2)] [] G6 Q))) ∧ (¬ y5 = x1 → Wp 91 6 [some (vR 16 a0), some (vI x1), w2, some (vI x3), some (vI x4), some (vI (x5 + (jI 1))), some (vI y2)] [] G6 Q))))) : Wp 91 6 [some (vR 16 a0), some (vI x1), w2, some (vI x3), some (vI x4), some (vI x5), w6] [] G Q := by
  have f := @fX8_extreme
  have mo := @Wp_mono
  revert h f mo
  try unfold Sp
  generalize Wp = X
  intro h f mo
  refine f ?_
  refine f ?_
  refine f ?_
  refine f ?_
  refine And.intro (show vp_in (jI 2) 195 from jI_in (by omega) (by omega) (by omega)) ?_
  refine f ?_
  refine And.intro (fun q1 => ?_) (fun q1 => ?_)
  · refine f ?_
    refine f ?_
    exact (h.1 q1)
  · refine f ?_
    refine f ?_
    refine f ?_
    refine f ?_
    refine mo (h.2 q1) (fun y2 G3 q4 => ?_)
    refine f ?_
    refine f ?_
    refine f ?_
    refine f ?_
    refine f ?_
    refine mo q4 (fun y5 G6 q7 => ?_)
    refine f ?_
    refine f ?_
    refine And.intro (fun q8 => ?_) (fun q8 => ?_)
    · refine f ?_
      refine f ?_
      refine f ?_
      refine f ?_
      exact (q7.2 q8)
    · refine f ?_
      refine f ?_
      refine f ?_
      refine And.intro (fun q9 => ?_) (fun q9 => ?_)
      · refine f ?_
        refine f ?_
        refine f ?_
        refine And.intro (fun q10 => ?_) (fun q10 => ?_)
        · refine f ?_
          refine f ?_
          refine f ?_
          refine f ?_
          exact (((q7.1 (Classical.not_not.mp q8)).1 q9).2 q10)
        · refine f ?_
          refine f ?_
          refine f ?_
          refine f ?_
          refine f ?_
          exact (((q7.1 (Classical.not_not.mp q8)).1 q9).1 (Classical.not_not.mp q10))
      · refine f ?_
        refine f ?_
        refine f ?_
        refine f ?_
        refine And.intro (fun q11 => ?_) (fun q11 => ?_)
        · refine f ?_
          refine f ?_
          refine f ?_
          refine f ?_
          exact (((q7.1 (Classical.not_not.mp q8)).2 q9).2 q11)
        · refine f ?_
          refine f ?_
          refine f ?_
          refine f ?_
          refine f ?_
          exact (((q7.1 (Classical.not_not.mp q8)).2 q9).1 (Classical.not_not.mp q11))
set_option maxHeartbeats 20000000 in
theorem vcX8_fits {a0 : Nat} {x1 x2 : Int32} {G : Mm} {Q : dp_Ps} (h : Sp 91 7 [vR 16 a0, vI x1, vI x2, vI (jI 1)] G (fun y1 G2 => Sp 91 7 [vR 16 a0, vI x1, vI x2, vI (jI 0)] G2 (fun y4 G5 => ((G5.1 a0 11) < (y1 - y4) → Q (jI 0) G5) ∧ (¬ (G5.1 a0 11) < (y1 - y4) → Q (jI 1) G5)))) : Sp 92 3 [vR 16 a0, vI x1, vI x2] G Q := by
  have f := @fX8_fits
  have mo := @Wp_mono
  revert h f mo
  try unfold Sp
  generalize Wp = X
  intro h f mo
  refine f ?_
  refine f ?_
  refine f ?_
  refine f ?_
  refine f ?_
  refine mo h (fun y1 G2 q3 => ?_)
  refine f ?_
  refine f ?_
  refine f ?_
  refine f ?_
  refine f ?_
  refine mo q3 (fun y4 G5 q6 => ?_)
  refine f ?_
  refine f ?_
  refine f ?_
  refine f ?_
  refine And.intro (show vp_in (jI 11) 195 from jI_in (by omega) (by omega) (by omega)) ?_
  refine f ?_
  refine And.intro (fun q7 => ?_) (fun q7 => ?_)
  · refine f ?_
    refine f ?_
    exact And.intro (Or.inl rfl) (q6.1 q7)
  · refine f ?_
    refine f ?_
    refine f ?_
    exact And.intro (Or.inr rfl) (q6.2 q7)
set_option maxHeartbeats 20000000 in
theorem vcX8_joinable {a0 : Nat} {x1 : Int32} {G : Mm} {Q : dp_Ps} (h : Wp 93 2 [some (vR 16 a0), some (vI x1), some (vI (jI 0))] [] G Q) : Sp 93 3 [vR 16 a0, vI x1] G Q := by
  have f := @fX8_joinable
  have mo := @Wp_mono
  revert h f mo
  try unfold Sp
  generalize Wp = X
  intro h f mo
  refine f ?_
  refine f ?_
  exact h
set_option maxHeartbeats 20000000 in
theorem vcX8_joinable_2 {a0 : Nat} {x1 x2 : Int32} {G : Mm} {Q : dp_Ps} (h : ((G.1 a0 10) ≤ x2 → Q (jI (-1005)) G) ∧ (¬ (G.1 a0 10) ≤ x2 → Sp 89 2 [vR 16 a0, vI x2] G (fun y2 G3 => (y2 = (jI (-1005)) → Wp 93 2 [some (vR 16 a0), some (vI x1), some (vI (x2 + (jI 1)))] [] G3 Q) ∧ (¬ y2 = (jI (-1005)) → Sp 92 3 [vR 16 a0, vI x2, vI x1] G3 (fun y6 G7 => (y6 = jI 0 → Wp 93 2 [some (vR 16 a0), some (vI x1), some (vI (x2 + (jI 1)))] [] G7 Q) ∧ (¬ y6 = jI 0 → Q x2 G7)))))) : Wp 93 2 [some (vR 16 a0), some (vI x1), some (vI x2)] [] G Q := by
  have f := @fX8_joinable
  have mo := @Wp_mono
  revert h f mo
  try unfold Sp
  generalize Wp = X
  intro h f mo
  refine f ?_
  refine f ?_
  refine f ?_
  refine f ?_
  refine And.intro (show vp_in (jI 10) 195 from jI_in (by omega) (by omega) (by omega)) ?_
  refine f ?_
  refine And.intro (fun q1 => ?_) (fun q1 => ?_)
  · refine f ?_
    refine f ?_
    exact (h.1 q1)
  · refine f ?_
    refine f ?_
    refine f ?_
    refine mo (h.2 q1) (fun y2 G3 q4 => ?_)
    refine f ?_
    refine f ?_
    refine And.intro (fun q5 => ?_) (fun q5 => ?_)
    · refine f ?_
      refine f ?_
      exact (q4.1 q5)
    · refine f ?_
      refine f ?_
      refine f ?_
      refine f ?_
      refine mo (q4.2 q5) (fun y6 G7 q8 => ?_)
      refine f ?_
      refine And.intro (fun q9 => ?_) (fun q9 => ?_)
      · refine f ?_
        refine f ?_
        exact (q8.1 q9)
      · refine f ?_
        refine f ?_
        exact (q8.2 q9)
set_option maxHeartbeats 20000000 in
theorem vcX8_freeOne {a0 : Nat} {G : Mm} {Q : dp_Ps} (h : Wp 94 2 [some (vR 16 a0), some (vI (jI 0))] [] G Q) : Sp 94 2 [vR 16 a0] G Q := by
  have f := @fX8_freeOne
  have mo := @Wp_mono
  revert h f mo
  try unfold Sp
  generalize Wp = X
  intro h f mo
  refine f ?_
  refine f ?_
  exact h
set_option maxHeartbeats 20000000 in
theorem vcX8_freeOne_2 {a0 : Nat} {x1 : Int32} {G : Mm} {Q : dp_Ps} (h : ((G.1 a0 10) ≤ x1 → Q (jI (-1005)) G) ∧ (¬ (G.1 a0 10) ≤ x1 → Sp 89 2 [vR 16 a0, vI x1] G (fun y2 G3 => (y2 = (jI (-1005)) → Q x1 G3) ∧ (¬ y2 = (jI (-1005)) → Wp 94 2 [some (vR 16 a0), some (vI (x1 + (jI 1)))] [] G3 Q)))) : Wp 94 2 [some (vR 16 a0), some (vI x1)] [] G Q := by
  have f := @fX8_freeOne
  have mo := @Wp_mono
  revert h f mo
  try unfold Sp
  generalize Wp = X
  intro h f mo
  refine f ?_
  refine f ?_
  refine f ?_
  refine f ?_
  refine And.intro (show vp_in (jI 10) 195 from jI_in (by omega) (by omega) (by omega)) ?_
  refine f ?_
  refine And.intro (fun q1 => ?_) (fun q1 => ?_)
  · refine f ?_
    refine f ?_
    exact (h.1 q1)
  · refine f ?_
    refine f ?_
    refine f ?_
    refine mo (h.2 q1) (fun y2 G3 q4 => ?_)
    refine f ?_
    refine f ?_
    refine And.intro (fun q5 => ?_) (fun q5 => ?_)
    · refine f ?_
      refine f ?_
      exact (q4.2 q5)
    · refine f ?_
      refine f ?_
      exact (q4.1 (Classical.not_not.mp q5))
set_option maxHeartbeats 20000000 in
theorem vcX8_latest {a0 : Nat} {G : Mm} {Q : dp_Ps} (h : Wp 95 4 [some (vR 16 a0), some (vI (jI 0)), some (vI (jI 1))] [] G Q) : Sp 95 3 [vR 16 a0] G Q := by
  have f := @fX8_latest
  have mo := @Wp_mono
  revert h f mo
  try unfold Sp
  generalize Wp = X
  intro h f mo
  refine f ?_
  refine f ?_
  refine f ?_
  refine f ?_
  exact h
set_option maxHeartbeats 20000000 in
theorem vcX8_latest_4 {a0 : Nat} {x1 x2 : Int32} {G : Mm} {Q : dp_Ps} (h : ((G.1 a0 10) ≤ x2 → Q x1 G) ∧ (¬ (G.1 a0 10) ≤ x2 → Sp 89 2 [vR 16 a0, vI x2] G (fun y2 G3 => Sp 89 2 [vR 16 a0, vI x1] G3 (fun y5 G6 => (y2 ≤ y5 → Wp 95 4 [some (vR 16 a0), some (vI x1), some (vI (x2 + (jI 1)))] [] G6 Q) ∧ (¬ y2 ≤ y5 → Wp 95 4 [some (vR 16 a0), some (vI x2), some (vI (x2 + (jI 1)))] [] G6 Q))))) : Wp 95 4 [some (vR 16 a0), some (vI x1), some (vI x2)] [] G Q := by
  have f := @fX8_latest
  have mo := @Wp_mono
  revert h f mo
  try unfold Sp
  generalize Wp = X
  intro h f mo
  refine f ?_
  refine f ?_
  refine f ?_
  refine f ?_
  refine And.intro (show vp_in (jI 10) 195 from jI_in (by omega) (by omega) (by omega)) ?_
  refine f ?_
  refine And.intro (fun q1 => ?_) (fun q1 => ?_)
  · refine f ?_
    refine f ?_
    exact (h.1 q1)
  · refine f ?_
    refine f ?_
    refine f ?_
    refine mo (h.2 q1) (fun y2 G3 q4 => ?_)
    refine f ?_
    refine f ?_
    refine f ?_
    refine mo q4 (fun y5 G6 q7 => ?_)
    refine f ?_
    refine And.intro (fun q8 => ?_) (fun q8 => ?_)
    · refine f ?_
      refine f ?_
      refine f ?_
      refine f ?_
      exact (q7.1 q8)
    · refine f ?_
      refine f ?_
      refine f ?_
      refine f ?_
      refine f ?_
      exact (q7.2 q8)
set_option maxHeartbeats 20000000 in
theorem vcX8_frees {a0 : Nat} {x1 : Int32} {G : Mm} {Q : dp_Ps} (h : Wp 96 2 [some (vR 16 a0), some (vI x1), some (vI (jI 0))] [] G Q) : Sp 96 3 [vR 16 a0, vI x1] G Q := by
  have f := @fX8_frees
  have mo := @Wp_mono
  revert h f mo
  try unfold Sp
  generalize Wp = X
  intro h f mo
  refine f ?_
  refine f ?_
  exact h
set_option maxHeartbeats 20000000 in
theorem vcX8_frees_2 {a0 : Nat} {x1 x2 : Int32} {G : Mm} {Q : dp_Ps} (h : ((G.1 a0 2) ≤ x2 → vp_in ((jI 154) + ((jI 2) * x1)) 195 ∧ (∀ G2 : Mm, G2 = wI G a0 (((jI 154) + ((jI 2) * x1))).toNatClampNeg (jI (-1005)) → vp_in (((jI 154) + ((jI 2) * x1)) + (jI 1)) 195 ∧ (∀ G3 : Mm, G3 = wI G2 a0 ((((jI 154) + ((jI 2) * x1)) + (jI 1))).toNatClampNeg (jI 0) → Q (jI 0) G3))) ∧ (¬ (G.1 a0 2) ≤ x2 → Sp 83 3 [vR 16 a0, vI x2, vI (jI 4)] G (fun y4 G5 => (y4 = x1 → Sp 84 4 [vR 16 a0, vI x2, vI (jI 4), vI (jI (-1005))] G5 (fun y8 G9 => Wp 96 2 [some (vR 16 a0), some (vI x1), some (vI (x2 + (jI 1)))] [] G9 Q)) ∧ (¬ y4 = x1 → Wp 96 2 [some (vR 16 a0), some (vI x1), some (vI (x2 + (jI 1)))] [] G5 Q)))) : Wp 96 2 [some (vR 16 a0), some (vI x1), some (vI x2)] [] G Q := by
  have f := @fX8_frees
  have mo := @Wp_mono
  revert h f mo
  try unfold Sp
  generalize Wp = X
  intro h f mo
  refine f ?_
  refine f ?_
  refine f ?_
  refine f ?_
  refine And.intro (show vp_in (jI 2) 195 from jI_in (by omega) (by omega) (by omega)) ?_
  refine f ?_
  refine And.intro (fun q1 => ?_) (fun q1 => ?_)
  · refine f ?_
    refine f ?_
    refine f ?_
    refine f ?_
    refine f ?_
    refine f ?_
    refine f ?_
    refine f ?_
    refine And.intro (h.1 q1).1 ?_
    refine f ?_
    refine f ?_
    refine f ?_
    refine f ?_
    refine f ?_
    refine f ?_
    refine f ?_
    refine f ?_
    refine f ?_
    refine f ?_
    refine And.intro ((h.1 q1).2 _ rfl).1 ?_
    refine f ?_
    exact (((h.1 q1).2 _ rfl).2 _ rfl)
  · refine f ?_
    refine f ?_
    refine f ?_
    refine f ?_
    refine mo (h.2 q1) (fun y4 G5 q6 => ?_)
    refine f ?_
    refine f ?_
    refine And.intro (fun q7 => ?_) (fun q7 => ?_)
    · refine f ?_
      refine f ?_
      exact (q6.2 q7)
    · refine f ?_
      refine f ?_
      refine f ?_
      refine f ?_
      refine f ?_
      refine mo (q6.1 (Classical.not_not.mp q7)) (fun y8 G9 q10 => ?_)
      refine f ?_
      refine f ?_
      exact q10
set_option maxHeartbeats 20000000 in
theorem vcX8_loads {a0 : Nat} {x1 x2 : Int32} {G : Mm} {Q : dp_Ps} (h : Sp 84 4 [vR 16 a0, vI x2, vI (jI 4), vI x1] G (fun y1 G2 => Sp 83 3 [vR 16 a0, vI x2, vI (jI 1)] G2 (fun y4 G5 => vp_in ((jI 154) + ((jI 2) * x1)) 195 ∧ (∀ G7 : Mm, G7 = wI G5 a0 (((jI 154) + ((jI 2) * x1))).toNatClampNeg y4 → vp_in (((jI 154) + ((jI 2) * x1)) + (jI 1)) 195 ∧ (∀ G8 : Mm, G8 = wI G7 a0 ((((jI 154) + ((jI 2) * x1)) + (jI 1))).toNatClampNeg (G7.1 a0 12) → (∀ G9 : Mm, G9 = wI G8 a0 8 ((G8.1 a0 8) + (jI 1)) → Q (jI 0) G9)))))) : Sp 97 3 [vR 16 a0, vI x1, vI x2] G Q := by
  have f := @fX8_loads
  have mo := @Wp_mono
  revert h f mo
  try unfold Sp
  generalize Wp = X
  intro h f mo
  refine f ?_
  refine f ?_
  refine f ?_
  refine f ?_
  refine f ?_
  refine mo h (fun y1 G2 q3 => ?_)
  refine f ?_
  refine f ?_
  refine f ?_
  refine f ?_
  refine f ?_
  refine f ?_
  refine f ?_
  refine f ?_
  refine f ?_
  refine f ?_
  refine mo q3 (fun y4 G5 q6 => ?_)
  refine f ?_
  refine And.intro q6.1 ?_
  refine f ?_
  refine f ?_
  refine f ?_
  refine f ?_
  refine f ?_
  refine f ?_
  refine f ?_
  refine f ?_
  refine f ?_
  refine f ?_
  refine f ?_
  refine And.intro (show vp_in (jI 12) 195 from jI_in (by omega) (by omega) (by omega)) ?_
  refine f ?_
  refine And.intro (q6.2 _ rfl).1 ?_
  refine f ?_
  refine f ?_
  refine f ?_
  refine f ?_
  refine And.intro (show vp_in (jI 8) 195 from jI_in (by omega) (by omega) (by omega)) ?_
  refine f ?_
  refine f ?_
  refine f ?_
  refine And.intro (show vp_in (jI 8) 195 from jI_in (by omega) (by omega) (by omega)) ?_
  refine f ?_
  exact (((q6.2 _ rfl).2 _ rfl) _ rfl)
set_option maxHeartbeats 20000000 in
theorem vcX8_isShared {a0 : Nat} {x1 : Int32} {G : Mm} {Q : dp_Ps} (h : Sp 83 3 [vR 16 a0, vI x1, vI (jI 1)] G (fun y1 G2 => Sp 93 3 [vR 16 a0, vI y1] G2 (fun y4 G5 => (y4 = (jI (-1005)) → Sp 94 2 [vR 16 a0] G5 (fun y8 G9 => (y8 = (jI (-1005)) → Sp 95 3 [vR 16 a0] G9 (fun y15 G16 => Sp 89 2 [vR 16 a0, vI y15] G16 (fun y18 G19 => (y1 < y18 → Sp 96 3 [vR 16 a0, vI y15] G19 (fun y22 G23 => (∀ G25 : Mm, G25 = wI G23 a0 9 ((G23.1 a0 9) + (jI 1)) → Sp 97 3 [vR 16 a0, vI y15, vI x1] G25 (fun y26 G27 => Q (jI 1) G27)))) ∧ (¬ y1 < y18 → Q (jI 0) G19)))) ∧ (¬ y8 = (jI (-1005)) → Sp 97 3 [vR 16 a0, vI y8, vI x1] G9 (fun y12 G13 => Q (jI 1) G13)))) ∧ (¬ y4 = (jI (-1005)) → Sp 84 4 [vR 16 a0, vI x1, vI (jI 4), vI y4] G5 (fun y29 G30 => Sp 91 7 [vR 16 a0, vI y4, vI y1, vI (jI 1)] G30 (fun y32 G33 => vp_in ((jI 154) + ((jI 2) * y4)) 195 ∧ (∀ G35 : Mm, G35 = wI G33 a0 (((jI 154) + ((jI 2) * y4))).toNatClampNeg y32 → Q (jI 1) G35))))))) : Sp 98 4 [vR 16 a0, vI x1] G Q := by
  have f := @fX8_isShared
  have mo := @Wp_mono
  revert h f mo
  try unfold Sp
  generalize Wp = X
  intro h f mo
  refine f ?_
  refine f ?_
  refine f ?_
  refine f ?_
  refine mo h (fun y1 G2 q3 => ?_)
  refine f ?_
  refine f ?_
  refine f ?_
  refine f ?_
  refine mo q3 (fun y4 G5 q6 => ?_)
  refine f ?_
  refine f ?_
  refine f ?_
  refine f ?_
  refine And.intro (fun q7 => ?_) (fun q7 => ?_)
  · refine f ?_
    refine f ?_
    refine mo (q6.1 q7) (fun y8 G9 q10 => ?_)
    refine f ?_
    refine f ?_
    refine f ?_
    refine f ?_
    refine And.intro (fun q11 => ?_) (fun q11 => ?_)
    · refine f ?_
      refine f ?_
      refine f ?_
      refine f ?_
      refine mo (q10.2 q11) (fun y12 G13 q14 => ?_)
      refine f ?_
      refine f ?_
      exact And.intro (Or.inr rfl) q14
    · refine f ?_
      refine f ?_
      refine mo (q10.1 (Classical.not_not.mp q11)) (fun y15 G16 q17 => ?_)
      refine f ?_
      refine f ?_
      refine f ?_
      refine f ?_
      refine mo q17 (fun y18 G19 q20 => ?_)
      refine f ?_
      refine f ?_
      refine And.intro (fun q21 => ?_) (fun q21 => ?_)
      · refine f ?_
        refine f ?_
        refine f ?_
        refine mo (q20.1 q21) (fun y22 G23 q24 => ?_)
        refine f ?_
        refine f ?_
        refine f ?_
        refine f ?_
        refine And.intro (show vp_in (jI 9) 195 from jI_in (by omega) (by omega) (by omega)) ?_
        refine f ?_
        refine f ?_
        refine f ?_
        refine And.intro (show vp_in (jI 9) 195 from jI_in (by omega) (by omega) (by omega)) ?_
        refine f ?_
        refine f ?_
        refine f ?_
        refine f ?_
        refine mo (q24 _ rfl) (fun y26 G27 q28 => ?_)
        refine f ?_
        refine f ?_
        exact And.intro (Or.inr rfl) q28
      · refine f ?_
        refine f ?_
        exact And.intro (Or.inl rfl) (q20.2 q21)
  · refine f ?_
    refine f ?_
    refine f ?_
    refine f ?_
    refine f ?_
    refine mo (q6.2 q7) (fun y29 G30 q31 => ?_)
    refine f ?_
    refine f ?_
    refine f ?_
    refine f ?_
    refine f ?_
    refine f ?_
    refine f ?_
    refine f ?_
    refine f ?_
    refine f ?_
    refine f ?_
    refine mo q31 (fun y32 G33 q34 => ?_)
    refine f ?_
    refine And.intro q34.1 ?_
    refine f ?_
    refine f ?_
    exact And.intro (Or.inr rfl) (q34.2 _ rfl)
set_option maxHeartbeats 20000000 in
theorem vcX8_shares {a0 : Nat} {G : Mm} {Q : dp_Ps} (h : Sp 87 4 [vR 16 a0, vI (jI (-1005))] G (fun y1 G2 => Wp 99 8 [some (vR 16 a0), some (vI y1)] [] G2 Q)) : Sp 99 2 [vR 16 a0] G Q := by
  have f := @fX8_shares
  have mo := @Wp_mono
  revert h f mo
  try unfold Sp
  generalize Wp = X
  intro h f mo
  refine f ?_
  refine f ?_
  refine f ?_
  refine mo h (fun y1 G2 q3 => ?_)
  refine f ?_
  exact q3
set_option maxHeartbeats 20000000 in
theorem vcX8_shares_8 {a0 : Nat} {x1 : Int32} {G : Mm} {Q : dp_Ps} (h : (x1 = (jI (-1005)) → Q (jI 0) G) ∧ (¬ x1 = (jI (-1005)) → Sp 98 4 [vR 16 a0, vI x1] G (fun y2 G3 => (y2 = jI 0 → Wp 99 8 [some (vR 16 a0), some (vI (jI (-1005)))] [] G3 Q) ∧ (¬ y2 = jI 0 → Sp 87 4 [vR 16 a0, vI (jI (-1005))] G3 (fun y6 G7 => Wp 99 8 [some (vR 16 a0), some (vI y6)] [] G7 Q))))) : Wp 99 8 [some (vR 16 a0), some (vI x1)] [] G Q := by
  have f := @fX8_shares
  have mo := @Wp_mono
  revert h f mo
  try unfold Sp
  generalize Wp = X
  intro h f mo
  refine f ?_
  refine f ?_
  refine f ?_
  refine And.intro (fun q1 => ?_) (fun q1 => ?_)
  · refine f ?_
    exact (h.1 q1)
  · refine f ?_
    refine f ?_
    refine f ?_
    refine mo (h.2 q1) (fun y2 G3 q4 => ?_)
    refine f ?_
    refine And.intro (fun q5 => ?_) (fun q5 => ?_)
    · refine f ?_
      refine f ?_
      refine f ?_
      exact (q4.1 q5)
    · refine f ?_
      refine f ?_
      refine f ?_
      refine mo (q4.2 q5) (fun y6 G7 q8 => ?_)
      refine f ?_
      refine f ?_
      refine f ?_
      exact q8
set_option maxHeartbeats 20000000 in
theorem vcX8_takesOff {a0 : Nat} {x1 : Int32} {G : Mm} {Q : dp_Ps} (h : Sp 83 3 [vR 16 a0, vI x1, vI (jI 4)] G (fun y1 G2 => (y1 = (jI (-1005)) → Q (jI 0) G2) ∧ (¬ y1 = (jI (-1005)) → Sp 84 4 [vR 16 a0, vI x1, vI (jI 4), vI (jI (-1005))] G2 (fun y5 G6 => Sp 87 4 [vR 16 a0, vI y1] G6 (fun y8 G9 => (y8 = (jI (-1005)) → Sp 96 3 [vR 16 a0, vI y1] G9 (fun y19 G20 => Q (jI 0) G20)) ∧ (¬ y8 = (jI (-1005)) → Sp 83 3 [vR 16 a0, vI y8, vI (jI 1)] G9 (fun y12 G13 => Sp 91 7 [vR 16 a0, vI y1, vI y12, vI (jI 1)] G13 (fun y15 G16 => vp_in ((jI 154) + ((jI 2) * y1)) 195 ∧ (∀ G18 : Mm, G18 = wI G16 a0 (((jI 154) + ((jI 2) * y1))).toNatClampNeg y15 → Q (jI 0) G18))))))))) : Sp 100 4 [vR 16 a0, vI x1] G Q := by
  have f := @fX8_takesOff
  have mo := @Wp_mono
  revert h f mo
  try unfold Sp
  generalize Wp = X
  intro h f mo
  refine f ?_
  refine f ?_
  refine f ?_
  refine f ?_
  refine mo h (fun y1 G2 q3 => ?_)
  refine f ?_
  refine f ?_
  refine f ?_
  refine f ?_
  refine And.intro (fun q4 => ?_) (fun q4 => ?_)
  · refine f ?_
    refine f ?_
    refine f ?_
    refine f ?_
    refine f ?_
    refine mo (q3.2 q4) (fun y5 G6 q7 => ?_)
    refine f ?_
    refine f ?_
    refine f ?_
    refine mo q7 (fun y8 G9 q10 => ?_)
    refine f ?_
    refine f ?_
    refine f ?_
    refine f ?_
    refine And.intro (fun q11 => ?_) (fun q11 => ?_)
    · refine f ?_
      refine f ?_
      refine f ?_
      refine f ?_
      refine f ?_
      refine f ?_
      refine f ?_
      refine f ?_
      refine f ?_
      refine f ?_
      refine f ?_
      refine f ?_
      refine mo (q10.2 q11) (fun y12 G13 q14 => ?_)
      refine f ?_
      refine f ?_
      refine mo q14 (fun y15 G16 q17 => ?_)
      refine f ?_
      refine And.intro q17.1 ?_
      refine f ?_
      exact (q17.2 _ rfl)
    · refine f ?_
      refine f ?_
      refine f ?_
      refine mo (q10.1 (Classical.not_not.mp q11)) (fun y19 G20 q21 => ?_)
      refine f ?_
      refine f ?_
      exact q21
  · refine f ?_
    exact (q3.1 (Classical.not_not.mp q4))
set_option maxHeartbeats 20000000 in
theorem vcX8_removes {a0 : Nat} {x1 : Int32} {G : Mm} {Q : dp_Ps} (h : (∀ G1 : Mm, G1 = wI G a0 2 ((G.1 a0 2) - (jI 1)) → Wp 101 12 [some (vR 16 a0), some (vI x1), some (vI ((jI 7) * x1))] [] G1 Q)) : Sp 101 3 [vR 16 a0, vI x1] G Q := by
  have f := @fX8_removes
  have mo := @Wp_mono
  revert h f mo
  try unfold Sp
  generalize Wp = X
  intro h f mo
  refine f ?_
  refine f ?_
  refine f ?_
  refine f ?_
  refine And.intro (show vp_in (jI 2) 195 from jI_in (by omega) (by omega) (by omega)) ?_
  refine f ?_
  refine f ?_
  refine f ?_
  refine And.intro (show vp_in (jI 2) 195 from jI_in (by omega) (by omega) (by omega)) ?_
  refine f ?_
  refine f ?_
  refine f ?_
  refine f ?_
  exact (h _ rfl)
set_option maxHeartbeats 20000000 in
theorem vcX8_removes_12 {a0 : Nat} {x2 : Int32} {w1 : Option Vl} {G : Mm} {Q : dp_Ps} (h : (((jI 7) * (G.1 a0 2)) ≤ x2 → Wp 101 45 [some (vR 16 a0), w1, some (vI (jI 0))] [] G Q) ∧ (¬ ((jI 7) * (G.1 a0 2)) ≤ x2 → vp_in (((jI 14) + x2) + (jI 7)) 195 ∧ (vp_in ((jI 14) + x2) 195 ∧ (∀ G2 : Mm, G2 = wI G a0 (((jI 14) + x2)).toNatClampNeg (G.1 a0 ((((jI 14) + x2) + (jI 7))).toNatClampNeg) → Wp 101 12 [some (vR 16 a0), w1, some (vI (x2 + (jI 1)))] [] G2 Q)))) : Wp 101 12 [some (vR 16 a0), w1, some (vI x2)] [] G Q := by
  have f := @fX8_removes
  have mo := @Wp_mono
  revert h f mo
  try unfold Sp
  generalize Wp = X
  intro h f mo
  refine f ?_
  refine f ?_
  refine f ?_
  refine f ?_
  refine f ?_
  refine And.intro (show vp_in (jI 2) 195 from jI_in (by omega) (by omega) (by omega)) ?_
  refine f ?_
  refine f ?_
  refine And.intro (fun q1 => ?_) (fun q1 => ?_)
  · refine f ?_
    refine f ?_
    exact (h.1 q1)
  · refine f ?_
    refine f ?_
    refine f ?_
    refine f ?_
    refine f ?_
    refine f ?_
    refine f ?_
    refine f ?_
    refine f ?_
    refine f ?_
    refine f ?_
    refine And.intro (h.2 q1).1 ?_
    refine f ?_
    refine And.intro (h.2 q1).2.1 ?_
    refine f ?_
    refine f ?_
    exact ((h.2 q1).2.2 _ rfl)
set_option maxHeartbeats 20000000 in
theorem vcX8_removes_45 {a0 : Nat} {x2 : Int32} {w1 : Option Vl} {G : Mm} {Q : dp_Ps} (h : ((jI 7) ≤ x2 → Q (jI 0) G) ∧ (¬ (jI 7) ≤ x2 → vp_in (((jI 14) + ((jI 7) * (G.1 a0 2))) + x2) 195 ∧ (∀ G2 : Mm, G2 = wI G a0 ((((jI 14) + ((jI 7) * (G.1 a0 2))) + x2)).toNatClampNeg (jI 0) → Wp 101 45 [some (vR 16 a0), w1, some (vI (x2 + (jI 1)))] [] G2 Q))) : Wp 101 45 [some (vR 16 a0), w1, some (vI x2)] [] G Q := by
  have f := @fX8_removes
  have mo := @Wp_mono
  revert h f mo
  try unfold Sp
  generalize Wp = X
  intro h f mo
  refine f ?_
  refine f ?_
  refine f ?_
  refine And.intro (fun q1 => ?_) (fun q1 => ?_)
  · refine f ?_
    exact (h.1 q1)
  · refine f ?_
    refine f ?_
    refine f ?_
    refine f ?_
    refine f ?_
    refine f ?_
    refine And.intro (show vp_in (jI 2) 195 from jI_in (by omega) (by omega) (by omega)) ?_
    refine f ?_
    refine f ?_
    refine f ?_
    refine f ?_
    refine f ?_
    refine f ?_
    refine And.intro (h.2 q1).1 ?_
    refine f ?_
    refine f ?_
    exact ((h.2 q1).2 _ rfl)
set_option maxHeartbeats 20000000 in
theorem vcX8_logs {a0 : Nat} {x1 x2 x3 : Int32} {G : Mm} {Q : dp_Ps} (h : Wp 102 4 [some (vR 16 a0), some (vI x1), some (vI x2), some (vI x3), some (vI (jI 31))] [] G Q) : Sp 102 5 [vR 16 a0, vI x1, vI x2, vI x3] G Q := by
  have f := @fX8_logs
  have mo := @Wp_mono
  revert h f mo
  try unfold Sp
  generalize Wp = X
  intro h f mo
  refine f ?_
  refine f ?_
  exact h
set_option maxHeartbeats 20000000 in
theorem vcX8_logs_4 {a0 : Nat} {x1 x2 x3 x4 : Int32} {G : Mm} {Q : dp_Ps} (h : (x4 ≤ (jI 3) → (∀ G2 : Mm, G2 = wI G a0 162 x1 → (∀ G3 : Mm, G3 = wI G2 a0 163 (G2.1 a0 0) → (∀ G4 : Mm, G4 = wI G3 a0 164 x2 → (∀ G5 : Mm, G5 = wI G4 a0 165 x3 → ((jI 8) ≤ (G5.1 a0 194) → (∀ G7 : Mm, G7 = wI G5 a0 194 ((G5.1 a0 194) + (jI 0)) → Q (jI 0) G7)) ∧ (¬ (jI 8) ≤ (G5.1 a0 194) → (∀ G8 : Mm, G8 = wI G5 a0 194 ((G5.1 a0 194) + (jI 1)) → Q (jI 0) G8))))))) ∧ (¬ x4 ≤ (jI 3) → vp_in (((jI 162) + x4) - (jI 4)) 195 ∧ (vp_in ((jI 162) + x4) 195 ∧ (∀ G9 : Mm, G9 = wI G a0 (((jI 162) + x4)).toNatClampNeg (G.1 a0 ((((jI 162) + x4) - (jI 4))).toNatClampNeg) → Wp 102 4 [some (vR 16 a0), some (vI x1), some (vI x2), some (vI x3), some (vI (x4 + (jI (-1))))] [] G9 Q)))) : Wp 102 4 [some (vR 16 a0), some (vI x1), some (vI x2), some (vI x3), some (vI x4)] [] G Q := by
  have f := @fX8_logs
  have mo := @Wp_mono
  revert h f mo
  try unfold Sp
  generalize Wp = X
  intro h f mo
  refine f ?_
  refine f ?_
  refine f ?_
  refine And.intro (fun q1 => ?_) (fun q1 => ?_)
  · refine f ?_
    refine f ?_
    refine f ?_
    refine f ?_
    refine And.intro (show vp_in (jI 162) 195 from jI_in (by omega) (by omega) (by omega)) ?_
    refine f ?_
    refine f ?_
    refine f ?_
    refine f ?_
    refine f ?_
    refine And.intro (show vp_in (jI 0) 195 from jI_in (by omega) (by omega) (by omega)) ?_
    refine f ?_
    refine And.intro (show vp_in (jI 163) 195 from jI_in (by omega) (by omega) (by omega)) ?_
    refine f ?_
    refine f ?_
    refine f ?_
    refine f ?_
    refine And.intro (show vp_in (jI 164) 195 from jI_in (by omega) (by omega) (by omega)) ?_
    refine f ?_
    refine f ?_
    refine f ?_
    refine f ?_
    refine And.intro (show vp_in (jI 165) 195 from jI_in (by omega) (by omega) (by omega)) ?_
    refine f ?_
    refine f ?_
    refine f ?_
    refine f ?_
    refine And.intro (show vp_in (jI 194) 195 from jI_in (by omega) (by omega) (by omega)) ?_
    refine f ?_
    refine f ?_
    refine f ?_
    refine And.intro (show vp_in (jI 194) 195 from jI_in (by omega) (by omega) (by omega)) ?_
    refine f ?_
    refine f ?_
    refine And.intro (fun q6 => ?_) (fun q6 => ?_)
    · refine f ?_
      refine f ?_
      refine f ?_
      refine And.intro (show vp_in (jI 194) 195 from jI_in (by omega) (by omega) (by omega)) ?_
      refine f ?_
      exact (((((((h.1 q1) _ rfl) _ rfl) _ rfl) _ rfl).1 q6) _ rfl)
    · refine f ?_
      refine f ?_
      refine f ?_
      refine f ?_
      refine And.intro (show vp_in (jI 194) 195 from jI_in (by omega) (by omega) (by omega)) ?_
      refine f ?_
      exact (((((((h.1 q1) _ rfl) _ rfl) _ rfl) _ rfl).2 q6) _ rfl)
  · refine f ?_
    refine f ?_
    refine f ?_
    refine f ?_
    refine f ?_
    refine f ?_
    refine f ?_
    refine f ?_
    refine f ?_
    refine f ?_
    refine f ?_
    refine And.intro (h.2 q1).1 ?_
    refine f ?_
    refine And.intro (h.2 q1).2.1 ?_
    refine f ?_
    refine f ?_
    exact ((h.2 q1).2.2 _ rfl)
set_option maxHeartbeats 20000000 in
theorem vcX8_rings {a0 : Nat} {x1 : Int32} {G : Mm} {Q : dp_Ps} (h : Sp 83 3 [vR 16 a0, vI x1, vI (jI 1)] G (fun y1 G2 => Sp 83 3 [vR 16 a0, vI x1, vI (jI 0)] G2 (fun y4 G5 => Sp 83 3 [vR 16 a0, vI x1, vI (jI 4)] G5 (fun y7 G8 => Sp 102 5 [vR 16 a0, vI y4, vI ((G.1 a0 0) - y1), vI y7] G8 (fun y10 G11 => (∀ G13 : Mm, G13 = wI G11 a0 4 ((G11.1 a0 4) + (jI 1)) → (∀ G14 : Mm, G14 = wI G13 a0 5 ((G13.1 a0 5) + ((G.1 a0 0) - y1)) → (((G.1 a0 0) - y1) ≤ (G14.1 a0 6) → (∀ G16 : Mm, G16 = wI G14 a0 6 (G14.1 a0 6) → Sp 83 3 [vR 16 a0, vI x1, vI (jI 2)] G16 (fun y17 G18 => (y17 = jI 0 → Sp 101 3 [vR 16 a0, vI x1] G18 (fun y64 G65 => Q (jI 0) G65)) ∧ (¬ y17 = jI 0 → Sp 83 3 [vR 16 a0, vI x1, vI (jI 5)] G18 (fun y21 G22 => Sp 84 4 [vR 16 a0, vI x1, vI (jI 5), vI (y21 + (jI 1))] G22 (fun y24 G25 => Sp 83 3 [vR 16 a0, vI x1, vI (jI 6)] G25 (fun y27 G28 => (((G.1 a0 0) - y1) ≤ y27 → Sp 83 3 [vR 16 a0, vI x1, vI (jI 6)] G28 (fun y31 G32 => Sp 84 4 [vR 16 a0, vI x1, vI (jI 6), vI y31] G32 (fun y34 G35 => Sp 84 4 [vR 16 a0, vI x1, vI (jI 4), vI (jI (-1005))] G35 (fun y37 G38 => Sp 83 3 [vR 16 a0, vI x1, vI (jI 1)] G38 (fun y40 G41 => Sp 83 3 [vR 16 a0, vI x1, vI (jI 2)] G41 (fun y43 G44 => Sp 84 4 [vR 16 a0, vI x1, vI (jI 1), vI (y40 + y43)] G44 (fun y46 G47 => Wp 103 148 [some (vR 16 a0), some (vI x1), some (vI ((G.1 a0 0) - y1))] [] G47 Q))))))) ∧ (¬ ((G.1 a0 0) - y1) ≤ y27 → Sp 84 4 [vR 16 a0, vI x1, vI (jI 6), vI ((G.1 a0 0) - y1)] G28 (fun y49 G50 => Sp 84 4 [vR 16 a0, vI x1, vI (jI 4), vI (jI (-1005))] G50 (fun y52 G53 => Sp 83 3 [vR 16 a0, vI x1, vI (jI 1)] G53 (fun y55 G56 => Sp 83 3 [vR 16 a0, vI x1, vI (jI 2)] G56 (fun y58 G59 => Sp 84 4 [vR 16 a0, vI x1, vI (jI 1), vI (y55 + y58)] G59 (fun y61 G62 => Wp 103 148 [some (vR 16 a0), some (vI x1), some (vI ((G.1 a0 0) - y1))] [] G62 Q))))))))))))) ∧ (¬ ((G.1 a0 0) - y1) ≤ (G14.1 a0 6) → (∀ G67 : Mm, G67 = wI G14 a0 6 ((G.1 a0 0) - y1) → Sp 83 3 [vR 16 a0, vI x1, vI (jI 2)] G67 (fun y68 G69 => (y68 = jI 0 → Sp 101 3 [vR 16 a0, vI x1] G69 (fun y115 G116 => Q (jI 0) G116)) ∧ (¬ y68 = jI 0 → Sp 83 3 [vR 16 a0, vI x1, vI (jI 5)] G69 (fun y72 G73 => Sp 84 4 [vR 16 a0, vI x1, vI (jI 5), vI (y72 + (jI 1))] G73 (fun y75 G76 => Sp 83 3 [vR 16 a0, vI x1, vI (jI 6)] G76 (fun y78 G79 => (((G.1 a0 0) - y1) ≤ y78 → Sp 83 3 [vR 16 a0, vI x1, vI (jI 6)] G79 (fun y82 G83 => Sp 84 4 [vR 16 a0, vI x1, vI (jI 6), vI y82] G83 (fun y85 G86 => Sp 84 4 [vR 16 a0, vI x1, vI (jI 4), vI (jI (-1005))] G86 (fun y88 G89 => Sp 83 3 [vR 16 a0, vI x1, vI (jI 1)] G89 (fun y91 G92 => Sp 83 3 [vR 16 a0, vI x1, vI (jI 2)] G92 (fun y94 G95 => Sp 84 4 [vR 16 a0, vI x1, vI (jI 1), vI (y91 + y94)] G95 (fun y97 G98 => Wp 103 148 [some (vR 16 a0), some (vI x1), some (vI ((G.1 a0 0) - y1))] [] G98 Q))))))) ∧ (¬ ((G.1 a0 0) - y1) ≤ y78 → Sp 84 4 [vR 16 a0, vI x1, vI (jI 6), vI ((G.1 a0 0) - y1)] G79 (fun y100 G101 => Sp 84 4 [vR 16 a0, vI x1, vI (jI 4), vI (jI (-1005))] G101 (fun y103 G104 => Sp 83 3 [vR 16 a0, vI x1, vI (jI 1)] G104 (fun y106 G107 => Sp 83 3 [vR 16 a0, vI x1, vI (jI 2)] G107 (fun y109 G110 => Sp 84 4 [vR 16 a0, vI x1, vI (jI 1), vI (y106 + y109)] G110 (fun y112 G113 => Wp 103 148 [some (vR 16 a0), some (vI x1), some (vI ((G.1 a0 0) - y1))] [] G113 Q)))))))))))))))))))) : Sp 103 3 [vR 16 a0, vI x1] G Q := by
  have f := @fX8_rings
  have mo := @Wp_mono
  revert h f mo
  try unfold Sp
  generalize Wp = X
  intro h f mo
  refine f ?_
  refine f ?_
  refine f ?_
  refine And.intro (show vp_in (jI 0) 195 from jI_in (by omega) (by omega) (by omega)) ?_
  refine f ?_
  refine f ?_
  refine f ?_
  refine f ?_
  refine mo h (fun y1 G2 q3 => ?_)
  refine f ?_
  refine f ?_
  refine f ?_
  refine f ?_
  refine f ?_
  refine f ?_
  refine f ?_
  refine mo q3 (fun y4 G5 q6 => ?_)
  refine f ?_
  refine f ?_
  refine f ?_
  refine f ?_
  refine f ?_
  refine mo q6 (fun y7 G8 q9 => ?_)
  refine f ?_
  refine mo q9 (fun y10 G11 q12 => ?_)
  refine f ?_
  refine f ?_
  refine f ?_
  refine f ?_
  refine And.intro (show vp_in (jI 4) 195 from jI_in (by omega) (by omega) (by omega)) ?_
  refine f ?_
  refine f ?_
  refine f ?_
  refine And.intro (show vp_in (jI 4) 195 from jI_in (by omega) (by omega) (by omega)) ?_
  refine f ?_
  refine f ?_
  refine f ?_
  refine f ?_
  refine And.intro (show vp_in (jI 5) 195 from jI_in (by omega) (by omega) (by omega)) ?_
  refine f ?_
  refine f ?_
  refine f ?_
  refine And.intro (show vp_in (jI 5) 195 from jI_in (by omega) (by omega) (by omega)) ?_
  refine f ?_
  refine f ?_
  refine f ?_
  refine f ?_
  refine f ?_
  refine f ?_
  refine And.intro (show vp_in (jI 6) 195 from jI_in (by omega) (by omega) (by omega)) ?_
  refine f ?_
  refine And.intro (fun q15 => ?_) (fun q15 => ?_)
  · refine f ?_
    refine f ?_
    refine f ?_
    refine And.intro (show vp_in (jI 6) 195 from jI_in (by omega) (by omega) (by omega)) ?_
    refine f ?_
    refine And.intro (show vp_in (jI 6) 195 from jI_in (by omega) (by omega) (by omega)) ?_
    refine f ?_
    refine f ?_
    refine f ?_
    refine f ?_
    refine mo ((((q12 _ rfl) _ rfl).1 q15) _ rfl) (fun y17 G18 q19 => ?_)
    refine f ?_
    refine And.intro (fun q20 => ?_) (fun q20 => ?_)
    · refine f ?_
      refine f ?_
      refine f ?_
      refine f ?_
      refine f ?_
      refine f ?_
      refine f ?_
      refine mo (q19.2 q20) (fun y21 G22 q23 => ?_)
      refine f ?_
      refine f ?_
      refine f ?_
      refine mo q23 (fun y24 G25 q26 => ?_)
      refine f ?_
      refine f ?_
      refine f ?_
      refine f ?_
      refine f ?_
      refine f ?_
      refine f ?_
      refine f ?_
      refine mo q26 (fun y27 G28 q29 => ?_)
      refine f ?_
      refine And.intro (fun q30 => ?_) (fun q30 => ?_)
      · refine f ?_
        refine f ?_
        refine f ?_
        refine f ?_
        refine mo (q29.1 q30) (fun y31 G32 q33 => ?_)
        refine f ?_
        refine mo q33 (fun y34 G35 q36 => ?_)
        refine f ?_
        refine f ?_
        refine f ?_
        refine f ?_
        refine f ?_
        refine mo q36 (fun y37 G38 q39 => ?_)
        refine f ?_
        refine f ?_
        refine f ?_
        refine f ?_
        refine f ?_
        refine f ?_
        refine f ?_
        refine mo q39 (fun y40 G41 q42 => ?_)
        refine f ?_
        refine f ?_
        refine f ?_
        refine f ?_
        refine mo q42 (fun y43 G44 q45 => ?_)
        refine f ?_
        refine f ?_
        refine mo q45 (fun y46 G47 q48 => ?_)
        exact q48
      · refine f ?_
        refine f ?_
        refine f ?_
        refine mo (q29.2 q30) (fun y49 G50 q51 => ?_)
        refine f ?_
        refine f ?_
        refine f ?_
        refine f ?_
        refine f ?_
        refine mo q51 (fun y52 G53 q54 => ?_)
        refine f ?_
        refine f ?_
        refine f ?_
        refine f ?_
        refine f ?_
        refine f ?_
        refine f ?_
        refine mo q54 (fun y55 G56 q57 => ?_)
        refine f ?_
        refine f ?_
        refine f ?_
        refine f ?_
        refine mo q57 (fun y58 G59 q60 => ?_)
        refine f ?_
        refine f ?_
        refine mo q60 (fun y61 G62 q63 => ?_)
        exact q63
    · refine f ?_
      refine f ?_
      refine f ?_
      refine mo (q19.1 (Classical.not_not.mp q20)) (fun y64 G65 q66 => ?_)
      refine f ?_
      exact q66
  · refine f ?_
    refine f ?_
    refine f ?_
    refine And.intro (show vp_in (jI 6) 195 from jI_in (by omega) (by omega) (by omega)) ?_
    refine f ?_
    refine f ?_
    refine f ?_
    refine f ?_
    refine mo ((((q12 _ rfl) _ rfl).2 q15) _ rfl) (fun y68 G69 q70 => ?_)
    refine f ?_
    refine And.intro (fun q71 => ?_) (fun q71 => ?_)
    · refine f ?_
      refine f ?_
      refine f ?_
      refine f ?_
      refine f ?_
      refine f ?_
      refine f ?_
      refine mo (q70.2 q71) (fun y72 G73 q74 => ?_)
      refine f ?_
      refine f ?_
      refine f ?_
      refine mo q74 (fun y75 G76 q77 => ?_)
      refine f ?_
      refine f ?_
      refine f ?_
      refine f ?_
      refine f ?_
      refine f ?_
      refine f ?_
      refine f ?_
      refine mo q77 (fun y78 G79 q80 => ?_)
      refine f ?_
      refine And.intro (fun q81 => ?_) (fun q81 => ?_)
      · refine f ?_
        refine f ?_
        refine f ?_
        refine f ?_
        refine mo (q80.1 q81) (fun y82 G83 q84 => ?_)
        refine f ?_
        refine mo q84 (fun y85 G86 q87 => ?_)
        refine f ?_
        refine f ?_
        refine f ?_
        refine f ?_
        refine f ?_
        refine mo q87 (fun y88 G89 q90 => ?_)
        refine f ?_
        refine f ?_
        refine f ?_
        refine f ?_
        refine f ?_
        refine f ?_
        refine f ?_
        refine mo q90 (fun y91 G92 q93 => ?_)
        refine f ?_
        refine f ?_
        refine f ?_
        refine f ?_
        refine mo q93 (fun y94 G95 q96 => ?_)
        refine f ?_
        refine f ?_
        refine mo q96 (fun y97 G98 q99 => ?_)
        exact q99
      · refine f ?_
        refine f ?_
        refine f ?_
        refine mo (q80.2 q81) (fun y100 G101 q102 => ?_)
        refine f ?_
        refine f ?_
        refine f ?_
        refine f ?_
        refine f ?_
        refine mo q102 (fun y103 G104 q105 => ?_)
        refine f ?_
        refine f ?_
        refine f ?_
        refine f ?_
        refine f ?_
        refine f ?_
        refine f ?_
        refine mo q105 (fun y106 G107 q108 => ?_)
        refine f ?_
        refine f ?_
        refine f ?_
        refine f ?_
        refine mo q108 (fun y109 G110 q111 => ?_)
        refine f ?_
        refine f ?_
        refine mo q111 (fun y112 G113 q114 => ?_)
        exact q114
    · refine f ?_
      refine f ?_
      refine f ?_
      refine mo (q70.1 (Classical.not_not.mp q71)) (fun y115 G116 q117 => ?_)
      refine f ?_
      exact q117
set_option maxHeartbeats 20000000 in
theorem vcX8_rings_148 {a0 : Nat} {x1 : Int32} {w2 : Option Vl} {G : Mm} {Q : dp_Ps} (h : Sp 83 3 [vR 16 a0, vI x1, vI (jI 1)] G (fun y1 G2 => ((G2.1 a0 0) < y1 → Q (jI 0) G2) ∧ (¬ (G2.1 a0 0) < y1 → (∀ G5 : Mm, G5 = wI G2 a0 7 ((G2.1 a0 7) + (jI 1)) → Sp 83 3 [vR 16 a0, vI x1, vI (jI 1)] G5 (fun y6 G7 => Sp 83 3 [vR 16 a0, vI x1, vI (jI 2)] G7 (fun y9 G10 => Sp 84 4 [vR 16 a0, vI x1, vI (jI 1), vI (y6 + y9)] G10 (fun y12 G13 => Wp 103 148 [some (vR 16 a0), some (vI x1), w2] [] G13 Q))))))) : Wp 103 148 [some (vR 16 a0), some (vI x1), w2] [] G Q := by
  have f := @fX8_rings
  have mo := @Wp_mono
  revert h f mo
  try unfold Sp
  generalize Wp = X
  intro h f mo
  refine f ?_
  refine f ?_
  refine f ?_
  refine f ?_
  refine mo h (fun y1 G2 q3 => ?_)
  refine f ?_
  refine f ?_
  refine f ?_
  refine And.intro (show vp_in (jI 0) 195 from jI_in (by omega) (by omega) (by omega)) ?_
  refine f ?_
  refine And.intro (fun q4 => ?_) (fun q4 => ?_)
  · refine f ?_
    exact (q3.1 q4)
  · refine f ?_
    refine f ?_
    refine f ?_
    refine f ?_
    refine And.intro (show vp_in (jI 7) 195 from jI_in (by omega) (by omega) (by omega)) ?_
    refine f ?_
    refine f ?_
    refine f ?_
    refine And.intro (show vp_in (jI 7) 195 from jI_in (by omega) (by omega) (by omega)) ?_
    refine f ?_
    refine f ?_
    refine f ?_
    refine f ?_
    refine f ?_
    refine f ?_
    refine f ?_
    refine mo ((q3.2 q4) _ rfl) (fun y6 G7 q8 => ?_)
    refine f ?_
    refine f ?_
    refine f ?_
    refine f ?_
    refine mo q8 (fun y9 G10 q11 => ?_)
    refine f ?_
    refine f ?_
    refine mo q11 (fun y12 G13 q14 => ?_)
    refine f ?_
    exact q14
set_option maxHeartbeats 20000000 in
theorem vcX8_ringsAll {a0 : Nat} {x1 : Int32} {G : Mm} {Q : dp_Ps} (h : Sp 87 4 [vR 16 a0, vI x1] G (fun y1 G2 => Wp 104 8 [some (vR 16 a0), some (vI x1), some (vI (jI 0)), some (vI y1)] [] G2 Q)) : Sp 104 4 [vR 16 a0, vI x1] G Q := by
  have f := @fX8_ringsAll
  have mo := @Wp_mono
  revert h f mo
  try unfold Sp
  generalize Wp = X
  intro h f mo
  refine f ?_
  refine f ?_
  refine f ?_
  refine f ?_
  refine f ?_
  refine mo h (fun y1 G2 q3 => ?_)
  refine f ?_
  exact q3
set_option maxHeartbeats 20000000 in
theorem vcX8_ringsAll_8 {a0 : Nat} {x1 x2 x3 : Int32} {G : Mm} {Q : dp_Ps} (h : (x3 = (jI (-1005)) → Sp 96 3 [vR 16 a0, vI x1] G (fun y2 G3 => Q x2 G3)) ∧ (¬ x3 = (jI (-1005)) → Sp 103 3 [vR 16 a0, vI x3] G (fun y5 G6 => Sp 87 4 [vR 16 a0, vI x1] G6 (fun y8 G9 => Wp 104 8 [some (vR 16 a0), some (vI x1), some (vI (x2 + (jI 1))), some (vI y8)] [] G9 Q)))) : Wp 104 8 [some (vR 16 a0), some (vI x1), some (vI x2), some (vI x3)] [] G Q := by
  have f := @fX8_ringsAll
  have mo := @Wp_mono
  revert h f mo
  try unfold Sp
  generalize Wp = X
  intro h f mo
  refine f ?_
  refine f ?_
  refine f ?_
  refine And.intro (fun q1 => ?_) (fun q1 => ?_)
  · refine f ?_
    refine f ?_
    refine f ?_
    refine mo (h.1 q1) (fun y2 G3 q4 => ?_)
    refine f ?_
    refine f ?_
    exact q4
  · refine f ?_
    refine f ?_
    refine f ?_
    refine mo (h.2 q1) (fun y5 G6 q7 => ?_)
    refine f ?_
    refine f ?_
    refine f ?_
    refine f ?_
    refine mo q7 (fun y8 G9 q10 => ?_)
    refine f ?_
    refine f ?_
    exact q10
set_option maxHeartbeats 20000000 in
theorem vcX8_tick {a0 : Nat} {G : Mm} {Q : dp_Ps} (h : (∀ G1 : Mm, G1 = wI G a0 1 ((G.1 a0 1) + (jI 1)) → ((G1.1 a0 13) = jI 0 → (∀ G4 : Mm, G4 = wI G1 a0 0 ((G1.1 a0 0) + (jI 1)) → Wp 105 58 [some (vR 16 a0), some (vI (G1.1 a0 13)), some (vI (jI 0)), some (vI (jI 0)), some (vI (jI 0)), none] [] G4 Q)) ∧ (¬ (G1.1 a0 13) = jI 0 → ¬ (G1.1 a0 13) = jI 0 ∧ ((((G1.1 a0 1) - (G1.1 a0 1) / (G1.1 a0 13) * (G1.1 a0 13)) = jI 0 → ((G1.1 a0 13) ≤ jI 0 → (∀ G10 : Mm, G10 = wI G1 a0 0 ((G1.1 a0 0) + (jI 0)) → Wp 105 58 [some (vR 16 a0), some (vI (G1.1 a0 13)), some (vI (jI 1)), some (vI (jI 0)), some (vI (jI 0)), none] [] G10 Q)) ∧ (¬ (G1.1 a0 13) ≤ jI 0 → (∀ G11 : Mm, G11 = wI G1 a0 0 ((G1.1 a0 0) + (jI 2)) → Wp 105 58 [some (vR 16 a0), some (vI (G1.1 a0 13)), some (vI (jI 1)), some (vI (jI 0)), some (vI (jI 0)), none] [] G11 Q))) ∧ (¬ ((G1.1 a0 1) - (G1.1 a0 1) / (G1.1 a0 13) * (G1.1 a0 13)) = jI 0 → (∀ G7 : Mm, G7 = wI G1 a0 0 ((G1.1 a0 0) + (jI 1)) → Wp 105 58 [some (vR 16 a0), some (vI (G1.1 a0 13)), some (vI (jI 0)), some (vI (jI 0)), some (vI (jI 0)), none] [] G7 Q)))))) : Sp 105 6 [vR 16 a0] G Q := by
  have f := @fX8_tick
  have mo := @Wp_mono
  revert h f mo
  try unfold Sp
  generalize Wp = X
  intro h f mo
  refine f ?_
  refine f ?_
  refine f ?_
  refine f ?_
  refine And.intro (show vp_in (jI 1) 195 from jI_in (by omega) (by omega) (by omega)) ?_
  refine f ?_
  refine f ?_
  refine f ?_
  refine And.intro (show vp_in (jI 1) 195 from jI_in (by omega) (by omega) (by omega)) ?_
  refine f ?_
  refine f ?_
  refine f ?_
  refine And.intro (show vp_in (jI 13) 195 from jI_in (by omega) (by omega) (by omega)) ?_
  refine f ?_
  refine f ?_
  refine f ?_
  refine And.intro (fun q2 => ?_) (fun q2 => ?_)
  · refine f ?_
    refine f ?_
    refine f ?_
    refine f ?_
    refine f ?_
    refine f ?_
    refine And.intro (show vp_in (jI 0) 195 from jI_in (by omega) (by omega) (by omega)) ?_
    refine f ?_
    refine f ?_
    refine And.intro (fun q3 => absurd q3 (show ¬ ((¬ (jI 0) = jI 0)) by decide)) (fun _ => ?_)
    refine f ?_
    refine f ?_
    refine f ?_
    refine f ?_
    refine And.intro (show vp_in (jI 0) 195 from jI_in (by omega) (by omega) (by omega)) ?_
    refine f ?_
    refine f ?_
    refine f ?_
    refine f ?_
    exact (((h _ rfl).1 q2) _ rfl)
  · refine f ?_
    refine f ?_
    refine f ?_
    refine And.intro (show vp_in (jI 1) 195 from jI_in (by omega) (by omega) (by omega)) ?_
    refine f ?_
    refine f ?_
    refine And.intro ((h _ rfl).2 q2).1 ?_
    refine f ?_
    refine And.intro (fun q5 => ?_) (fun q5 => ?_)
    · refine f ?_
      refine f ?_
      refine f ?_
      refine f ?_
      refine f ?_
      refine f ?_
      refine And.intro (show vp_in (jI 0) 195 from jI_in (by omega) (by omega) (by omega)) ?_
      refine f ?_
      refine f ?_
      refine And.intro (fun q6 => absurd q6 (show ¬ ((¬ (jI 0) = jI 0)) by decide)) (fun _ => ?_)
      refine f ?_
      refine f ?_
      refine f ?_
      refine f ?_
      refine And.intro (show vp_in (jI 0) 195 from jI_in (by omega) (by omega) (by omega)) ?_
      refine f ?_
      refine f ?_
      refine f ?_
      refine f ?_
      exact ((((h _ rfl).2 q2).2.2 q5) _ rfl)
    · refine f ?_
      refine f ?_
      refine f ?_
      refine f ?_
      refine f ?_
      refine f ?_
      refine f ?_
      refine And.intro (show vp_in (jI 0) 195 from jI_in (by omega) (by omega) (by omega)) ?_
      refine f ?_
      refine f ?_
      refine And.intro (fun _ => ?_) (fun q8 => absurd (show (¬ (jI 1) = jI 0) by decide) q8)
      refine f ?_
      refine f ?_
      refine And.intro (fun q9 => ?_) (fun q9 => ?_)
      · refine f ?_
        refine f ?_
        refine f ?_
        refine And.intro (show vp_in (jI 0) 195 from jI_in (by omega) (by omega) (by omega)) ?_
        refine f ?_
        refine f ?_
        refine f ?_
        refine f ?_
        exact (((((h _ rfl).2 q2).2.1 (Classical.not_not.mp q5)).1 q9) _ rfl)
      · refine f ?_
        refine f ?_
        refine f ?_
        refine f ?_
        refine And.intro (show vp_in (jI 0) 195 from jI_in (by omega) (by omega) (by omega)) ?_
        refine f ?_
        refine f ?_
        refine f ?_
        refine f ?_
        exact (((((h _ rfl).2 q2).2.1 (Classical.not_not.mp q5)).2 q9) _ rfl)
set_option maxHeartbeats 20000000 in
theorem vcX8_tick_58 {a0 : Nat} {x3 x4 : Int32} {w1 w2 w5 : Option Vl} {G : Mm} {Q : dp_Ps} (h : ((G.1 a0 10) ≤ x4 → Wp 105 111 [some (vR 16 a0), w1, w2, some (vI x3), some (vI (jI 0)), w5] [] G Q) ∧ (¬ (G.1 a0 10) ≤ x4 → vp_in (((jI 154) + ((jI 2) * x4)) + (jI 1)) 195 ∧ (vp_in (((jI 154) + ((jI 2) * x4)) + (jI 1)) 195 ∧ (((G.1 a0 ((((jI 154) + ((jI 2) * x4)) + (jI 1))).toNatClampNeg) ≤ jI 0 → vp_in (((jI 154) + ((jI 2) * x4)) + (jI 1)) 195 ∧ (∀ G3 : Mm, G3 = wI G a0 ((((jI 154) + ((jI 2) * x4)) + (jI 1))).toNatClampNeg ((G.1 a0 ((((jI 154) + ((jI 2) * x4)) + (jI 1))).toNatClampNeg) - (jI 0)) → Wp 105 58 [some (vR 16 a0), w1, w2, some (vI x3), some (vI (x4 + (jI 1))), w5] [] G3 Q)) ∧ (¬ (G.1 a0 ((((jI 154) + ((jI 2) * x4)) + (jI 1))).toNatClampNeg) ≤ jI 0 → vp_in (((jI 154) + ((jI 2) * x4)) + (jI 1)) 195 ∧ (∀ G4 : Mm, G4 = wI G a0 ((((jI 154) + ((jI 2) * x4)) + (jI 1))).toNatClampNeg ((G.1 a0 ((((jI 154) + ((jI 2) * x4)) + (jI 1))).toNatClampNeg) - (jI 1)) → Wp 105 58 [some (vR 16 a0), w1, w2, some (vI x3), some (vI (x4 + (jI 1))), w5] [] G4 Q)))))) : Wp 105 58 [some (vR 16 a0), w1, w2, some (vI x3), some (vI x4), w5] [] G Q := by
  have f := @fX8_tick
  have mo := @Wp_mono
  revert h f mo
  try unfold Sp
  generalize Wp = X
  intro h f mo
  refine f ?_
  refine f ?_
  refine f ?_
  refine f ?_
  refine And.intro (show vp_in (jI 10) 195 from jI_in (by omega) (by omega) (by omega)) ?_
  refine f ?_
  refine And.intro (fun q1 => ?_) (fun q1 => ?_)
  · refine f ?_
    refine f ?_
    exact (h.1 q1)
  · refine f ?_
    refine f ?_
    refine f ?_
    refine f ?_
    refine f ?_
    refine f ?_
    refine f ?_
    refine f ?_
    refine f ?_
    refine f ?_
    refine And.intro (h.2 q1).1 ?_
    refine f ?_
    refine f ?_
    refine f ?_
    refine f ?_
    refine f ?_
    refine f ?_
    refine f ?_
    refine f ?_
    refine f ?_
    refine And.intro (h.2 q1).2.1 ?_
    refine f ?_
    refine And.intro (fun q2 => ?_) (fun q2 => ?_)
    · refine f ?_
      refine f ?_
      refine f ?_
      refine And.intro ((h.2 q1).2.2.1 q2).1 ?_
      refine f ?_
      refine f ?_
      exact (((h.2 q1).2.2.1 q2).2 _ rfl)
    · refine f ?_
      refine f ?_
      refine f ?_
      refine f ?_
      refine And.intro ((h.2 q1).2.2.2 q2).1 ?_
      refine f ?_
      refine f ?_
      exact (((h.2 q1).2.2.2 q2).2 _ rfl)
set_option maxHeartbeats 20000000 in
theorem vcX8_tick_111 {a0 : Nat} {x3 x4 : Int32} {w1 w2 w5 : Option Vl} {G : Mm} {Q : dp_Ps} (h : ((G.1 a0 10) ≤ x4 → Sp 99 2 [vR 16 a0] G (fun y2 G3 => Q x3 G3)) ∧ (¬ (G.1 a0 10) ≤ x4 → Sp 89 2 [vR 16 a0, vI x4] G (fun y5 G6 => (y5 = (jI (-1005)) → Wp 105 111 [some (vR 16 a0), w1, w2, some (vI (x3 + (jI 0))), some (vI (x4 + (jI 1))), some (vI (jI 0))] [] G6 Q) ∧ (¬ y5 = (jI (-1005)) → vp_in (((jI 154) + ((jI 2) * x4)) + (jI 1)) 195 ∧ (((G6.1 a0 ((((jI 154) + ((jI 2) * x4)) + (jI 1))).toNatClampNeg) = jI 0 → Sp 89 2 [vR 16 a0, vI x4] G6 (fun y12 G13 => ((G13.1 a0 0) < y12 → Wp 105 111 [some (vR 16 a0), w1, w2, some (vI (x3 + (jI 0))), some (vI (x4 + (jI 1))), some (vI (jI 0))] [] G13 Q) ∧ (¬ (G13.1 a0 0) < y12 → Sp 104 4 [vR 16 a0, vI x4] G13 (fun y18 G19 => Wp 105 111 [some (vR 16 a0), w1, w2, some (vI (x3 + y18)), some (vI (x4 + (jI 1))), some (vI (jI 1))] [] G19 Q)))) ∧ (¬ (G6.1 a0 ((((jI 154) + ((jI 2) * x4)) + (jI 1))).toNatClampNeg) = jI 0 → Wp 105 111 [some (vR 16 a0), w1, w2, some (vI (x3 + (jI 0))), some (vI (x4 + (jI 1))), some (vI (jI 0))] [] G6 Q)))))) : Wp 105 111 [some (vR 16 a0), w1, w2, some (vI x3), some (vI x4), w5] [] G Q := by
  have f := @fX8_tick
  have mo := @Wp_mono
  revert h f mo
  try unfold Sp
  generalize Wp = X
  intro h f mo
  refine f ?_
  refine f ?_
  refine f ?_
  refine f ?_
  refine And.intro (show vp_in (jI 10) 195 from jI_in (by omega) (by omega) (by omega)) ?_
  refine f ?_
  refine And.intro (fun q1 => ?_) (fun q1 => ?_)
  · refine f ?_
    refine f ?_
    refine mo (h.1 q1) (fun y2 G3 q4 => ?_)
    refine f ?_
    refine f ?_
    exact q4
  · refine f ?_
    refine f ?_
    refine f ?_
    refine mo (h.2 q1) (fun y5 G6 q7 => ?_)
    refine f ?_
    refine f ?_
    refine And.intro (fun q8 => ?_) (fun q8 => ?_)
    · refine f ?_
      refine f ?_
      refine f ?_
      refine f ?_
      refine f ?_
      refine And.intro (fun _ => ?_) (fun q9 => absurd (show (jI 0) = jI 0 by decide) q9)
      refine f ?_
      refine f ?_
      refine f ?_
      refine f ?_
      refine f ?_
      exact (q7.1 q8)
    · refine f ?_
      refine f ?_
      refine f ?_
      refine f ?_
      refine f ?_
      refine f ?_
      refine f ?_
      refine f ?_
      refine f ?_
      refine And.intro (q7.2 q8).1 ?_
      refine f ?_
      refine And.intro (fun q10 => ?_) (fun q10 => ?_)
      · refine f ?_
        refine f ?_
        refine f ?_
        refine f ?_
        refine f ?_
        refine And.intro (fun _ => ?_) (fun q11 => absurd (show (jI 0) = jI 0 by decide) q11)
        refine f ?_
        refine f ?_
        refine f ?_
        refine f ?_
        refine f ?_
        exact ((q7.2 q8).2.2 q10)
      · refine f ?_
        refine f ?_
        refine f ?_
        refine mo ((q7.2 q8).2.1 (Classical.not_not.mp q10)) (fun y12 G13 q14 => ?_)
        refine f ?_
        refine f ?_
        refine f ?_
        refine And.intro (show vp_in (jI 0) 195 from jI_in (by omega) (by omega) (by omega)) ?_
        refine f ?_
        refine And.intro (fun q15 => ?_) (fun q15 => ?_)
        · refine f ?_
          refine f ?_
          refine f ?_
          refine f ?_
          refine f ?_
          refine And.intro (fun _ => ?_) (fun q16 => absurd (show (jI 0) = jI 0 by decide) q16)
          refine f ?_
          refine f ?_
          refine f ?_
          refine f ?_
          refine f ?_
          exact (q14.1 q15)
        · refine f ?_
          refine f ?_
          refine f ?_
          refine f ?_
          refine f ?_
          refine f ?_
          refine And.intro (fun q17 => absurd q17 (show ¬ ((jI 1) = jI 0) by decide)) (fun _ => ?_)
          refine f ?_
          refine f ?_
          refine f ?_
          refine mo (q14.2 q15) (fun y18 G19 q20 => ?_)
          refine f ?_
          refine f ?_
          refine f ?_
          refine f ?_
          refine f ?_
          exact q20
set_option maxHeartbeats 20000000 in
theorem vcX8_ticks {a0 : Nat} {x1 : Int32} {G : Mm} {Q : dp_Ps} (h : Wp 106 4 [some (vR 16 a0), some (vI x1), some (vI (jI 0)), some (vI (jI 0))] [] G Q) : Sp 106 4 [vR 16 a0, vI x1] G Q := by
  have f := @fX8_ticks
  have mo := @Wp_mono
  revert h f mo
  try unfold Sp
  generalize Wp = X
  intro h f mo
  refine f ?_
  refine f ?_
  refine f ?_
  refine f ?_
  exact h
set_option maxHeartbeats 20000000 in
theorem vcX8_ticks_4 {a0 : Nat} {x1 x2 x3 : Int32} {G : Mm} {Q : dp_Ps} (h : (x1 ≤ x3 → Q x2 G) ∧ (¬ x1 ≤ x3 → Sp 105 6 [vR 16 a0] G (fun y2 G3 => Wp 106 4 [some (vR 16 a0), some (vI x1), some (vI (x2 + y2)), some (vI (x3 + (jI 1)))] [] G3 Q))) : Wp 106 4 [some (vR 16 a0), some (vI x1), some (vI x2), some (vI x3)] [] G Q := by
  have f := @fX8_ticks
  have mo := @Wp_mono
  revert h f mo
  try unfold Sp
  generalize Wp = X
  intro h f mo
  refine f ?_
  refine f ?_
  refine f ?_
  refine And.intro (fun q1 => ?_) (fun q1 => ?_)
  · refine f ?_
    refine f ?_
    exact (h.1 q1)
  · refine f ?_
    refine f ?_
    refine f ?_
    refine mo (h.2 q1) (fun y2 G3 q4 => ?_)
    refine f ?_
    refine f ?_
    refine f ?_
    refine f ?_
    exact q4
set_option maxHeartbeats 20000000 in
theorem vcX8_sets {a0 : Nat} {x1 x2 x3 : Int32} {G : Mm} {Q : dp_Ps} (h : (∀ G1 : Mm, G1 = wI G a0 2 ((G.1 a0 2) + (jI 1)) → Sp 84 4 [vR 16 a0, vI (G.1 a0 2), vI (jI 0), vI (G1.1 a0 3)] G1 (fun y2 G3 => Sp 84 4 [vR 16 a0, vI (G.1 a0 2), vI (jI 1), vI x1] G3 (fun y5 G6 => Sp 84 4 [vR 16 a0, vI (G.1 a0 2), vI (jI 2), vI x2] G6 (fun y8 G9 => Sp 84 4 [vR 16 a0, vI (G.1 a0 2), vI (jI 3), vI x3] G9 (fun y11 G12 => Sp 84 4 [vR 16 a0, vI (G.1 a0 2), vI (jI 4), vI (jI (-1005))] G12 (fun y14 G15 => Sp 84 4 [vR 16 a0, vI (G.1 a0 2), vI (jI 5), vI (jI 0)] G15 (fun y17 G18 => Sp 84 4 [vR 16 a0, vI (G.1 a0 2), vI (jI 6), vI (jI (-1005))] G18 (fun y20 G21 => (∀ G23 : Mm, G23 = wI G21 a0 3 ((G21.1 a0 3) + (jI 1)) → Sp 99 2 [vR 16 a0] G23 (fun y24 G25 => Q (jI 0) G25))))))))))) : Sp 107 5 [vR 16 a0, vI x1, vI x2, vI x3] G Q := by
  have f := @fX8_sets
  have mo := @Wp_mono
  revert h f mo
  try unfold Sp
  generalize Wp = X
  intro h f mo
  refine f ?_
  refine f ?_
  refine f ?_
  refine And.intro (show vp_in (jI 2) 195 from jI_in (by omega) (by omega) (by omega)) ?_
  refine f ?_
  refine f ?_
  refine f ?_
  refine f ?_
  refine f ?_
  refine And.intro (show vp_in (jI 2) 195 from jI_in (by omega) (by omega) (by omega)) ?_
  refine f ?_
  refine f ?_
  refine f ?_
  refine And.intro (show vp_in (jI 2) 195 from jI_in (by omega) (by omega) (by omega)) ?_
  refine f ?_
  refine f ?_
  refine f ?_
  refine f ?_
  refine f ?_
  refine f ?_
  refine And.intro (show vp_in (jI 3) 195 from jI_in (by omega) (by omega) (by omega)) ?_
  refine f ?_
  refine mo (h _ rfl) (fun y2 G3 q4 => ?_)
  refine f ?_
  refine f ?_
  refine f ?_
  refine f ?_
  refine f ?_
  refine mo q4 (fun y5 G6 q7 => ?_)
  refine f ?_
  refine f ?_
  refine f ?_
  refine f ?_
  refine f ?_
  refine mo q7 (fun y8 G9 q10 => ?_)
  refine f ?_
  refine f ?_
  refine f ?_
  refine f ?_
  refine f ?_
  refine mo q10 (fun y11 G12 q13 => ?_)
  refine f ?_
  refine f ?_
  refine f ?_
  refine f ?_
  refine f ?_
  refine mo q13 (fun y14 G15 q16 => ?_)
  refine f ?_
  refine f ?_
  refine f ?_
  refine f ?_
  refine f ?_
  refine mo q16 (fun y17 G18 q19 => ?_)
  refine f ?_
  refine f ?_
  refine f ?_
  refine f ?_
  refine f ?_
  refine mo q19 (fun y20 G21 q22 => ?_)
  refine f ?_
  refine f ?_
  refine f ?_
  refine f ?_
  refine And.intro (show vp_in (jI 3) 195 from jI_in (by omega) (by omega) (by omega)) ?_
  refine f ?_
  refine f ?_
  refine f ?_
  refine And.intro (show vp_in (jI 3) 195 from jI_in (by omega) (by omega) (by omega)) ?_
  refine f ?_
  refine f ?_
  refine mo (q22 _ rfl) (fun y24 G25 q26 => ?_)
  refine f ?_
  exact q26
set_option maxHeartbeats 20000000 in
theorem vcX8_set {a0 : Nat} {x1 x2 x3 : Int32} {G : Mm} {Q : dp_Ps} (h : Sp 80 3 [vI x1, vI (jI 0), vI (jI 99999)] G (fun y1 G2 => (y1 = jI 0 → Q (jI (-1002)) G2) ∧ (¬ y1 = jI 0 → Sp 80 3 [vI x2, vI (jI 0), vI (jI 9999)] G2 (fun y5 G6 => (y5 = jI 0 → Q (jI (-1002)) G6) ∧ (¬ y5 = jI 0 → Sp 80 3 [vI x3, vI (jI 0), vI (jI 3)] G6 (fun y9 G10 => (y9 = jI 0 → Q (jI (-1002)) G10) ∧ (¬ y9 = jI 0 → ((G10.1 (G10.2 a0 0) 0) ≤ x1 → ((G10.1 (G10.2 a0 0) 2) = (jI 20) → Q (jI (-1003)) G10) ∧ (¬ (G10.1 (G10.2 a0 0) 2) = (jI 20) → ((G10.1 (G10.2 a0 0) 3) = (jI 500) → Q (jI (-1003)) G10) ∧ (¬ (G10.1 (G10.2 a0 0) 3) = (jI 500) → Sp 82 2 [vR 8 a0] G10 (fun y16 G17 => Sp 107 5 [vR 16 (G17.2 a0 0), vI x1, vI x2, vI x3] G17 (fun y19 G20 => Q ((G20.1 (G20.2 a0 0) 3) - (jI 1)) G20))))) ∧ (¬ (G10.1 (G10.2 a0 0) 0) ≤ x1 → Q (jI (-1004)) G10)))))))) : Sp 108 4 [vR 8 a0, vI x1, vI x2, vI x3] G Q := by
  have f := @fX8_set
  have mo := @Wp_mono
  revert h f mo
  try unfold Sp
  generalize Wp = X
  intro h f mo
  refine f ?_
  refine f ?_
  refine f ?_
  refine f ?_
  refine mo h (fun y1 G2 q3 => ?_)
  refine f ?_
  refine And.intro (fun q4 => ?_) (fun q4 => ?_)
  · refine f ?_
    refine f ?_
    exact (q3.1 q4)
  · refine f ?_
    refine f ?_
    refine f ?_
    refine f ?_
    refine mo (q3.2 q4) (fun y5 G6 q7 => ?_)
    refine f ?_
    refine And.intro (fun q8 => ?_) (fun q8 => ?_)
    · refine f ?_
      refine f ?_
      exact (q7.1 q8)
    · refine f ?_
      refine f ?_
      refine f ?_
      refine f ?_
      refine mo (q7.2 q8) (fun y9 G10 q11 => ?_)
      refine f ?_
      refine And.intro (fun q12 => ?_) (fun q12 => ?_)
      · refine f ?_
        refine f ?_
        refine f ?_
        refine f ?_
        refine f ?_
        refine And.intro (show vp_in (jI 0) 195 from jI_in (by omega) (by omega) (by omega)) ?_
        refine f ?_
        refine And.intro (fun q13 => ?_) (fun q13 => ?_)
        · refine f ?_
          refine f ?_
          refine f ?_
          refine f ?_
          refine And.intro (show vp_in (jI 2) 195 from jI_in (by omega) (by omega) (by omega)) ?_
          refine f ?_
          refine f ?_
          refine And.intro (fun q14 => ?_) (fun q14 => ?_)
          · refine f ?_
            refine f ?_
            exact (((q11.2 q12).1 q13).1 q14)
          · refine f ?_
            refine f ?_
            refine f ?_
            refine f ?_
            refine And.intro (show vp_in (jI 3) 195 from jI_in (by omega) (by omega) (by omega)) ?_
            refine f ?_
            refine f ?_
            refine And.intro (fun q15 => ?_) (fun q15 => ?_)
            · refine f ?_
              refine f ?_
              refine mo ((((q11.2 q12).1 q13).2 q14).2 q15) (fun y16 G17 q18 => ?_)
              refine f ?_
              refine f ?_
              refine f ?_
              refine f ?_
              refine f ?_
              refine f ?_
              refine mo q18 (fun y19 G20 q21 => ?_)
              refine f ?_
              refine f ?_
              refine f ?_
              refine f ?_
              refine And.intro (show vp_in (jI 3) 195 from jI_in (by omega) (by omega) (by omega)) ?_
              refine f ?_
              refine f ?_
              refine f ?_
              exact q21
            · refine f ?_
              refine f ?_
              exact ((((q11.2 q12).1 q13).2 q14).1 (Classical.not_not.mp q15))
        · refine f ?_
          refine f ?_
          exact ((q11.2 q12).2 q13)
      · refine f ?_
        refine f ?_
        exact (q11.1 (Classical.not_not.mp q12))
set_option maxHeartbeats 20000000 in
theorem vcX8_setAll {a0 : Nat} {G : Mm} {Q : dp_Ps} (h : Sp 126 2 [vR 8 a0] G (fun y1 G2 => (y1 = (jI (-1005)) → Wp 109 20 [some (vR 8 a0), some (vI y1), some (vI (jI 0))] [] G2 Q) ∧ (¬ y1 = (jI (-1005)) → Q ((jI (-1100)) - y1) G2))) : Sp 109 3 [vR 8 a0] G Q := by
  have f := @fX8_setAll
  have mo := @Wp_mono
  revert h f mo
  try unfold Sp
  generalize Wp = X
  intro h f mo
  refine f ?_
  refine f ?_
  refine mo h (fun y1 G2 q3 => ?_)
  refine f ?_
  refine f ?_
  refine f ?_
  refine f ?_
  refine And.intro (fun q4 => ?_) (fun q4 => ?_)
  · refine f ?_
    refine f ?_
    exact (q3.1 q4)
  · refine f ?_
    refine f ?_
    refine f ?_
    refine f ?_
    exact (q3.2 q4)
set_option maxHeartbeats 20000000 in
theorem vcX8_setAll_20 {a0 : Nat} {x2 : Int32} {w1 : Option Vl} {G : Mm} {Q : dp_Ps} (h : ((G.1 a0 10) ≤ x2 → ((jI 20) < ((G.1 (G.2 a0 0) 2) + (G.1 a0 10)) → Q (jI (-1003)) G) ∧ (¬ (jI 20) < ((G.1 (G.2 a0 0) 2) + (G.1 a0 10)) → (((G.1 (G.2 a0 0) 3) + (G.1 a0 10)) ≤ (jI 500) → Sp 82 2 [vR 8 a0] G (fun y4 G5 => Wp 109 98 [some (vR 8 a0), w1, some (vI (jI 0))] [] G5 Q)) ∧ (¬ ((G.1 (G.2 a0 0) 3) + (G.1 a0 10)) ≤ (jI 500) → Q (jI (-1003)) G))) ∧ (¬ (G.1 a0 10) ≤ x2 → vp_in ((jI 3) * x2) 96 ∧ (((G.1 (G.2 a0 0) 0) ≤ (G.1 (G.2 a0 9) (((jI 3) * x2)).toNatClampNeg) → Wp 109 20 [some (vR 8 a0), w1, some (vI (x2 + (jI 1)))] [] G Q) ∧ (¬ (G.1 (G.2 a0 0) 0) ≤ (G.1 (G.2 a0 9) (((jI 3) * x2)).toNatClampNeg) → Q (jI (-1004)) G)))) : Wp 109 20 [some (vR 8 a0), w1, some (vI x2)] [] G Q := by
  have f := @fX8_setAll
  have mo := @Wp_mono
  revert h f mo
  try unfold Sp
  generalize Wp = X
  intro h f mo
  refine f ?_
  refine f ?_
  refine f ?_
  refine f ?_
  refine And.intro (fun q1 => ?_) (fun q1 => ?_)
  · refine f ?_
    refine f ?_
    refine f ?_
    refine f ?_
    refine And.intro (show vp_in (jI 2) 195 from jI_in (by omega) (by omega) (by omega)) ?_
    refine f ?_
    refine f ?_
    refine f ?_
    refine f ?_
    refine f ?_
    refine And.intro (fun q2 => ?_) (fun q2 => ?_)
    · refine f ?_
      refine f ?_
      exact ((h.1 q1).1 q2)
    · refine f ?_
      refine f ?_
      refine f ?_
      refine f ?_
      refine And.intro (show vp_in (jI 3) 195 from jI_in (by omega) (by omega) (by omega)) ?_
      refine f ?_
      refine f ?_
      refine f ?_
      refine f ?_
      refine f ?_
      refine And.intro (fun q3 => ?_) (fun q3 => ?_)
      · refine f ?_
        refine f ?_
        refine mo (((h.1 q1).2 q2).1 q3) (fun y4 G5 q6 => ?_)
        refine f ?_
        refine f ?_
        exact q6
      · refine f ?_
        refine f ?_
        exact (((h.1 q1).2 q2).2 q3)
  · refine f ?_
    refine f ?_
    refine f ?_
    refine f ?_
    refine f ?_
    refine f ?_
    refine And.intro (h.2 q1).1 ?_
    refine f ?_
    refine f ?_
    refine f ?_
    refine f ?_
    refine And.intro (show vp_in (jI 0) 195 from jI_in (by omega) (by omega) (by omega)) ?_
    refine f ?_
    refine And.intro (fun q7 => ?_) (fun q7 => ?_)
    · refine f ?_
      refine f ?_
      exact ((h.2 q1).2.1 q7)
    · refine f ?_
      refine f ?_
      exact ((h.2 q1).2.2 q7)
set_option maxHeartbeats 20000000 in
theorem vcX8_setAll_98 {a0 : Nat} {x2 : Int32} {w1 : Option Vl} {G : Mm} {Q : dp_Ps} (h : ((G.1 a0 10) ≤ x2 → Q (G.1 (G.2 a0 0) 2) G) ∧ (¬ (G.1 a0 10) ≤ x2 → vp_in ((jI 3) * x2) 96 ∧ (vp_in (((jI 3) * x2) + (jI 1)) 96 ∧ (vp_in (((jI 3) * x2) + (jI 2)) 96 ∧ (Sp 107 5 [vR 16 (G.2 a0 0), vI (G.1 (G.2 a0 9) (((jI 3) * x2)).toNatClampNeg), vI (G.1 (G.2 a0 9) ((((jI 3) * x2) + (jI 1))).toNatClampNeg), vI (G.1 (G.2 a0 9) ((((jI 3) * x2) + (jI 2))).toNatClampNeg)] G (fun y2 G3 => Wp 109 98 [some (vR 8 a0), w1, some (vI (x2 + (jI 1)))] [] G3 Q)))))) : Wp 109 98 [some (vR 8 a0), w1, some (vI x2)] [] G Q := by
  have f := @fX8_setAll
  have mo := @Wp_mono
  revert h f mo
  try unfold Sp
  generalize Wp = X
  intro h f mo
  refine f ?_
  refine f ?_
  refine f ?_
  refine f ?_
  refine And.intro (fun q1 => ?_) (fun q1 => ?_)
  · refine f ?_
    refine f ?_
    refine f ?_
    refine f ?_
    refine And.intro (show vp_in (jI 2) 195 from jI_in (by omega) (by omega) (by omega)) ?_
    refine f ?_
    exact (h.1 q1)
  · refine f ?_
    refine f ?_
    refine f ?_
    refine f ?_
    refine f ?_
    refine f ?_
    refine f ?_
    refine f ?_
    refine And.intro (h.2 q1).1 ?_
    refine f ?_
    refine f ?_
    refine f ?_
    refine f ?_
    refine f ?_
    refine f ?_
    refine f ?_
    refine f ?_
    refine And.intro (h.2 q1).2.1 ?_
    refine f ?_
    refine f ?_
    refine f ?_
    refine f ?_
    refine f ?_
    refine f ?_
    refine f ?_
    refine f ?_
    refine And.intro (h.2 q1).2.2.1 ?_
    refine f ?_
    refine mo (h.2 q1).2.2.2 (fun y2 G3 q4 => ?_)
    refine f ?_
    refine f ?_
    exact q4
set_option maxHeartbeats 20000000 in
theorem vcX8_cancel {a0 : Nat} {x1 : Int32} {G : Mm} {Q : dp_Ps} (h : Sp 85 3 [vR 16 (G.2 a0 0), vI x1] G (fun y1 G2 => (y1 = (jI (-1005)) → Q (jI (-1001)) G2) ∧ (¬ y1 = (jI (-1005)) → Sp 82 2 [vR 8 a0] G2 (fun y5 G6 => Sp 100 4 [vR 16 (G6.2 a0 0), vI y1] G6 (fun y8 G9 => Sp 101 3 [vR 16 (G9.2 a0 0), vI y1] G9 (fun y11 G12 => Sp 99 2 [vR 16 (G12.2 a0 0)] G12 (fun y14 G15 => Q (G15.1 (G15.2 a0 0) 2) G15))))))) : Sp 110 3 [vR 8 a0, vI x1] G Q := by
  have f := @fX8_cancel
  have mo := @Wp_mono
  revert h f mo
  try unfold Sp
  generalize Wp = X
  intro h f mo
  refine f ?_
  refine f ?_
  refine f ?_
  refine f ?_
  refine mo h (fun y1 G2 q3 => ?_)
  refine f ?_
  refine f ?_
  refine f ?_
  refine f ?_
  refine And.intro (fun q4 => ?_) (fun q4 => ?_)
  · refine f ?_
    refine f ?_
    refine mo (q3.2 q4) (fun y5 G6 q7 => ?_)
    refine f ?_
    refine f ?_
    refine f ?_
    refine f ?_
    refine mo q7 (fun y8 G9 q10 => ?_)
    refine f ?_
    refine f ?_
    refine f ?_
    refine f ?_
    refine mo q10 (fun y11 G12 q13 => ?_)
    refine f ?_
    refine f ?_
    refine f ?_
    refine mo q13 (fun y14 G15 q16 => ?_)
    refine f ?_
    refine f ?_
    refine f ?_
    refine f ?_
    refine And.intro (show vp_in (jI 2) 195 from jI_in (by omega) (by omega) (by omega)) ?_
    refine f ?_
    exact q16
  · refine f ?_
    refine f ?_
    exact (q3.1 (Classical.not_not.mp q4))
set_option maxHeartbeats 20000000 in
theorem vcX8_move {a0 : Nat} {x1 x2 : Int32} {G : Mm} {Q : dp_Ps} (h : Sp 85 3 [vR 16 (G.2 a0 0), vI x1] G (fun y1 G2 => (y1 = (jI (-1005)) → Q (jI (-1001)) G2) ∧ (¬ y1 = (jI (-1005)) → Sp 80 3 [vI x2, vI (jI 0), vI (jI 99999)] G2 (fun y5 G6 => (y5 = jI 0 → Q (jI (-1002)) G6) ∧ (¬ y5 = jI 0 → ((G6.1 (G6.2 a0 0) 0) ≤ x2 → Sp 83 3 [vR 16 (G6.2 a0 0), vI y1, vI (jI 1)] G6 (fun y10 G11 => (y10 = x2 → Q (jI (-1005)) G11) ∧ (¬ y10 = x2 → Sp 82 2 [vR 8 a0] G11 (fun y14 G15 => Sp 100 4 [vR 16 (G15.2 a0 0), vI y1] G15 (fun y17 G18 => Sp 84 4 [vR 16 (G18.2 a0 0), vI y1, vI (jI 1), vI x2] G18 (fun y20 G21 => Sp 99 2 [vR 16 (G21.2 a0 0)] G21 (fun y23 G24 => Q y10 G24))))))) ∧ (¬ (G6.1 (G6.2 a0 0) 0) ≤ x2 → Q (jI (-1004)) G6)))))) : Sp 111 5 [vR 8 a0, vI x1, vI x2] G Q := by
  have f := @fX8_move
  have mo := @Wp_mono
  revert h f mo
  try unfold Sp
  generalize Wp = X
  intro h f mo
  refine f ?_
  refine f ?_
  refine f ?_
  refine f ?_
  refine mo h (fun y1 G2 q3 => ?_)
  refine f ?_
  refine f ?_
  refine f ?_
  refine f ?_
  refine And.intro (fun q4 => ?_) (fun q4 => ?_)
  · refine f ?_
    refine f ?_
    refine f ?_
    refine f ?_
    refine mo (q3.2 q4) (fun y5 G6 q7 => ?_)
    refine f ?_
    refine And.intro (fun q8 => ?_) (fun q8 => ?_)
    · refine f ?_
      refine f ?_
      refine f ?_
      refine f ?_
      refine f ?_
      refine And.intro (show vp_in (jI 0) 195 from jI_in (by omega) (by omega) (by omega)) ?_
      refine f ?_
      refine And.intro (fun q9 => ?_) (fun q9 => ?_)
      · refine f ?_
        refine f ?_
        refine f ?_
        refine f ?_
        refine f ?_
        refine mo ((q7.2 q8).1 q9) (fun y10 G11 q12 => ?_)
        refine f ?_
        refine f ?_
        refine f ?_
        refine f ?_
        refine And.intro (fun q13 => ?_) (fun q13 => ?_)
        · refine f ?_
          refine f ?_
          refine mo (q12.2 q13) (fun y14 G15 q16 => ?_)
          refine f ?_
          refine f ?_
          refine f ?_
          refine f ?_
          refine mo q16 (fun y17 G18 q19 => ?_)
          refine f ?_
          refine f ?_
          refine f ?_
          refine f ?_
          refine f ?_
          refine f ?_
          refine mo q19 (fun y20 G21 q22 => ?_)
          refine f ?_
          refine f ?_
          refine f ?_
          refine mo q22 (fun y23 G24 q25 => ?_)
          refine f ?_
          refine f ?_
          exact q25
        · refine f ?_
          refine f ?_
          exact (q12.1 (Classical.not_not.mp q13))
      · refine f ?_
        refine f ?_
        exact ((q7.2 q8).2 q9)
    · refine f ?_
      refine f ?_
      exact (q7.1 (Classical.not_not.mp q8))
  · refine f ?_
    refine f ?_
    exact (q3.1 (Classical.not_not.mp q4))
set_option maxHeartbeats 20000000 in
theorem vcX8_setsComparers {a0 : Nat} {x1 : Int32} {G : Mm} {Q : dp_Ps} (h : Wp 112 2 [some (vR 16 a0), some (vI x1), some (vI x1)] [] G Q) : Sp 112 3 [vR 16 a0, vI x1] G Q := by
  have f := @fX8_setsComparers
  have mo := @Wp_mono
  revert h f mo
  try unfold Sp
  generalize Wp = X
  intro h f mo
  refine f ?_
  refine f ?_
  exact h
set_option maxHeartbeats 20000000 in
theorem vcX8_setsComparers_2 {a0 : Nat} {x1 x2 : Int32} {G : Mm} {Q : dp_Ps} (h : ((G.1 a0 10) ≤ x2 → (∀ G2 : Mm, G2 = wI G a0 10 x1 → Sp 99 2 [vR 16 a0] G2 (fun y3 G4 => Q (jI 0) G4))) ∧ (¬ (G.1 a0 10) ≤ x2 → Sp 96 3 [vR 16 a0, vI x2] G (fun y6 G7 => Wp 112 2 [some (vR 16 a0), some (vI x1), some (vI (x2 + (jI 1)))] [] G7 Q))) : Wp 112 2 [some (vR 16 a0), some (vI x1), some (vI x2)] [] G Q := by
  have f := @fX8_setsComparers
  have mo := @Wp_mono
  revert h f mo
  try unfold Sp
  generalize Wp = X
  intro h f mo
  refine f ?_
  refine f ?_
  refine f ?_
  refine f ?_
  refine And.intro (show vp_in (jI 10) 195 from jI_in (by omega) (by omega) (by omega)) ?_
  refine f ?_
  refine And.intro (fun q1 => ?_) (fun q1 => ?_)
  · refine f ?_
    refine f ?_
    refine f ?_
    refine f ?_
    refine And.intro (show vp_in (jI 10) 195 from jI_in (by omega) (by omega) (by omega)) ?_
    refine f ?_
    refine f ?_
    refine mo ((h.1 q1) _ rfl) (fun y3 G4 q5 => ?_)
    refine f ?_
    exact q5
  · refine f ?_
    refine f ?_
    refine f ?_
    refine mo (h.2 q1) (fun y6 G7 q8 => ?_)
    refine f ?_
    refine f ?_
    exact q8
set_option maxHeartbeats 20000000 in
theorem vcX8_setComparers {a0 : Nat} {x1 : Int32} {G : Mm} {Q : dp_Ps} (h : Sp 80 3 [vI x1, vI (jI 1), vI (jI 4)] G (fun y1 G2 => (y1 = jI 0 → Q (jI (-1002)) G2) ∧ (¬ y1 = jI 0 → ((G2.1 (G2.2 a0 0) 10) = x1 → Q (jI (-1005)) G2) ∧ (¬ (G2.1 (G2.2 a0 0) 10) = x1 → Sp 82 2 [vR 8 a0] G2 (fun y6 G7 => Sp 112 3 [vR 16 (G7.2 a0 0), vI x1] G7 (fun y9 G10 => Q (G2.1 (G2.2 a0 0) 10) G10)))))) : Sp 113 3 [vR 8 a0, vI x1] G Q := by
  have f := @fX8_setComparers
  have mo := @Wp_mono
  revert h f mo
  try unfold Sp
  generalize Wp = X
  intro h f mo
  refine f ?_
  refine f ?_
  refine f ?_
  refine f ?_
  refine mo h (fun y1 G2 q3 => ?_)
  refine f ?_
  refine And.intro (fun q4 => ?_) (fun q4 => ?_)
  · refine f ?_
    refine f ?_
    refine f ?_
    refine f ?_
    refine And.intro (show vp_in (jI 10) 195 from jI_in (by omega) (by omega) (by omega)) ?_
    refine f ?_
    refine f ?_
    refine f ?_
    refine f ?_
    refine And.intro (fun q5 => ?_) (fun q5 => ?_)
    · refine f ?_
      refine f ?_
      refine mo ((q3.2 q4).2 q5) (fun y6 G7 q8 => ?_)
      refine f ?_
      refine f ?_
      refine f ?_
      refine f ?_
      refine mo q8 (fun y9 G10 q11 => ?_)
      refine f ?_
      refine f ?_
      exact q11
    · refine f ?_
      refine f ?_
      exact ((q3.2 q4).1 (Classical.not_not.mp q5))
  · refine f ?_
    refine f ?_
    exact (q3.1 (Classical.not_not.mp q4))
set_option maxHeartbeats 20000000 in
theorem vcX8_becomes {a0 : Nat} {x1 x2 : Int32} {G : Mm} {Q : dp_Ps} (h : vp_in x1 195 ∧ (((G.1 (G.2 a0 0) (x1).toNatClampNeg) = x2 → Q (jI (-1005)) G) ∧ (¬ (G.1 (G.2 a0 0) (x1).toNatClampNeg) = x2 → Sp 82 2 [vR 8 a0] G (fun y2 G3 => vp_in x1 195 ∧ (∀ G5 : Mm, G5 = wI G3 (G3.2 a0 0) (x1).toNatClampNeg x2 → Q (G.1 (G.2 a0 0) (x1).toNatClampNeg) G5))))) : Sp 114 4 [vR 8 a0, vI x1, vI x2] G Q := by
  have f := @fX8_becomes
  have mo := @Wp_mono
  revert h f mo
  try unfold Sp
  generalize Wp = X
  intro h f mo
  refine f ?_
  refine f ?_
  refine f ?_
  refine f ?_
  refine And.intro h.1 ?_
  refine f ?_
  refine f ?_
  refine f ?_
  refine f ?_
  refine And.intro (fun q1 => ?_) (fun q1 => ?_)
  · refine f ?_
    refine f ?_
    refine mo (h.2.2 q1) (fun y2 G3 q4 => ?_)
    refine f ?_
    refine f ?_
    refine f ?_
    refine f ?_
    refine f ?_
    refine And.intro q4.1 ?_
    refine f ?_
    refine f ?_
    exact (q4.2 _ rfl)
  · refine f ?_
    refine f ?_
    exact (h.2.1 (Classical.not_not.mp q1))
set_option maxHeartbeats 20000000 in
theorem vcX8_setWindow {a0 : Nat} {x1 : Int32} {G : Mm} {Q : dp_Ps} (h : Sp 80 3 [vI x1, vI (jI 0), vI (jI 20)] G (fun y1 G2 => (y1 = jI 0 → Q (jI (-1002)) G2) ∧ (¬ y1 = jI 0 → Sp 114 4 [vR 8 a0, vI (jI 11), vI x1] G2 (fun y5 G6 => (y5 = (jI (-1005)) → Q y5 G6) ∧ (¬ y5 = (jI (-1005)) → Sp 99 2 [vR 16 (G6.2 a0 0)] G6 (fun y9 G10 => Q y5 G10)))))) : Sp 115 3 [vR 8 a0, vI x1] G Q := by
  have f := @fX8_setWindow
  have mo := @Wp_mono
  revert h f mo
  try unfold Sp
  generalize Wp = X
  intro h f mo
  refine f ?_
  refine f ?_
  refine f ?_
  refine f ?_
  refine mo h (fun y1 G2 q3 => ?_)
  refine f ?_
  refine And.intro (fun q4 => ?_) (fun q4 => ?_)
  · refine f ?_
    refine f ?_
    refine f ?_
    refine f ?_
    refine mo (q3.2 q4) (fun y5 G6 q7 => ?_)
    refine f ?_
    refine f ?_
    refine f ?_
    refine f ?_
    refine And.intro (fun q8 => ?_) (fun q8 => ?_)
    · refine f ?_
      refine f ?_
      exact (q7.1 q8)
    · refine f ?_
      refine f ?_
      refine f ?_
      refine mo (q7.2 q8) (fun y9 G10 q11 => ?_)
      refine f ?_
      refine f ?_
      exact q11
  · refine f ?_
    refine f ?_
    exact (q3.1 (Classical.not_not.mp q4))
set_option maxHeartbeats 20000000 in
theorem vcX8_setLoading {a0 : Nat} {x1 : Int32} {G : Mm} {Q : dp_Ps} (h : Sp 80 3 [vI x1, vI (jI 0), vI (jI 9)] G (fun y1 G2 => (y1 = jI 0 → Q (jI (-1002)) G2) ∧ (¬ y1 = jI 0 → Sp 114 4 [vR 8 a0, vI (jI 12), vI x1] G2 (fun y5 G6 => Q y5 G6)))) : Sp 116 2 [vR 8 a0, vI x1] G Q := by
  have f := @fX8_setLoading
  have mo := @Wp_mono
  revert h f mo
  try unfold Sp
  generalize Wp = X
  intro h f mo
  refine f ?_
  refine f ?_
  refine f ?_
  refine f ?_
  refine mo h (fun y1 G2 q3 => ?_)
  refine f ?_
  refine And.intro (fun q4 => ?_) (fun q4 => ?_)
  · refine f ?_
    refine f ?_
    exact (q3.1 q4)
  · refine f ?_
    refine f ?_
    refine f ?_
    refine f ?_
    refine mo (q3.2 q4) (fun y5 G6 q7 => ?_)
    refine f ?_
    refine f ?_
    exact q7
set_option maxHeartbeats 20000000 in
theorem vcX8_setDrift {a0 : Nat} {x1 : Int32} {G : Mm} {Q : dp_Ps} (h : (x1 = jI 0 → Sp 114 4 [vR 8 a0, vI (jI 13), vI x1] G (fun y3 G4 => Q y3 G4)) ∧ (¬ x1 = jI 0 → Sp 80 3 [vI x1, vI (jI 2), vI (jI 999)] G (fun y6 G7 => (y6 = jI 0 → Sp 80 3 [vI x1, vI (jI (-999)), vI (jI (-2))] G7 (fun y14 G15 => (y14 = jI 0 → Q (jI (-1002)) G15) ∧ (¬ y14 = jI 0 → Sp 114 4 [vR 8 a0, vI (jI 13), vI x1] G15 (fun y20 G21 => Q y20 G21)))) ∧ (¬ y6 = jI 0 → Sp 114 4 [vR 8 a0, vI (jI 13), vI x1] G7 (fun y11 G12 => Q y11 G12))))) : Sp 117 3 [vR 8 a0, vI x1] G Q := by
  have f := @fX8_setDrift
  have mo := @Wp_mono
  revert h f mo
  try unfold Sp
  generalize Wp = X
  intro h f mo
  refine f ?_
  refine f ?_
  refine And.intro (fun q1 => ?_) (fun q1 => ?_)
  · refine f ?_
    refine f ?_
    refine f ?_
    refine f ?_
    refine f ?_
    refine And.intro (fun q2 => absurd q2 (show ¬ ((jI 1) = jI 0) by decide)) (fun _ => ?_)
    refine f ?_
    refine f ?_
    refine f ?_
    refine f ?_
    refine mo (h.1 q1) (fun y3 G4 q5 => ?_)
    refine f ?_
    refine f ?_
    exact q5
  · refine f ?_
    refine f ?_
    refine f ?_
    refine f ?_
    refine mo (h.2 q1) (fun y6 G7 q8 => ?_)
    refine f ?_
    refine And.intro (fun q9 => ?_) (fun q9 => ?_)
    · refine f ?_
      refine f ?_
      refine f ?_
      refine f ?_
      refine f ?_
      refine And.intro (fun q10 => absurd q10 (show ¬ ((jI 1) = jI 0) by decide)) (fun _ => ?_)
      refine f ?_
      refine f ?_
      refine f ?_
      refine f ?_
      refine mo (q8.2 q9) (fun y11 G12 q13 => ?_)
      refine f ?_
      refine f ?_
      exact q13
    · refine f ?_
      refine f ?_
      refine f ?_
      refine f ?_
      refine mo (q8.1 (Classical.not_not.mp q9)) (fun y14 G15 q16 => ?_)
      refine f ?_
      refine And.intro (fun q17 => ?_) (fun q17 => ?_)
      · refine f ?_
        refine f ?_
        refine f ?_
        refine f ?_
        refine And.intro (fun _ => ?_) (fun q18 => absurd (show (jI 0) = jI 0 by decide) q18)
        refine f ?_
        refine f ?_
        exact (q16.1 q17)
      · refine f ?_
        refine f ?_
        refine f ?_
        refine f ?_
        refine f ?_
        refine And.intro (fun q19 => absurd q19 (show ¬ ((jI 1) = jI 0) by decide)) (fun _ => ?_)
        refine f ?_
        refine f ?_
        refine f ?_
        refine f ?_
        refine mo (q16.2 q17) (fun y20 G21 q22 => ?_)
        refine f ?_
        refine f ?_
        exact q22
set_option maxHeartbeats 20000000 in
theorem vcX8_correct {a0 : Nat} {x1 : Int32} {G : Mm} {Q : dp_Ps} (h : Sp 80 3 [vI x1, vI (jI (-999)), vI (jI 999)] G (fun y1 G2 => (y1 = jI 0 → Q (jI (-1002)) G2) ∧ (¬ y1 = jI 0 → Sp 80 3 [vI ((G2.1 (G2.2 a0 0) 0) + x1), vI (jI 0), vI (jI 99999)] G2 (fun y5 G6 => (y5 = jI 0 → Q (jI (-1004)) G6) ∧ (¬ y5 = jI 0 → (x1 = jI 0 → Q (jI (-1005)) G6) ∧ (¬ x1 = jI 0 → Sp 82 2 [vR 8 a0] G6 (fun y10 G11 => (∀ G13 : Mm, G13 = wI G11 (G11.2 a0 0) 0 ((G11.1 (G11.2 a0 0) 0) + x1) → Sp 99 2 [vR 16 (G13.2 a0 0)] G13 (fun y14 G15 => Q (G15.1 (G15.2 a0 0) 0) G15))))))))) : Sp 118 2 [vR 8 a0, vI x1] G Q := by
  have f := @fX8_correct
  have mo := @Wp_mono
  revert h f mo
  try unfold Sp
  generalize Wp = X
  intro h f mo
  refine f ?_
  refine f ?_
  refine f ?_
  refine f ?_
  refine mo h (fun y1 G2 q3 => ?_)
  refine f ?_
  refine And.intro (fun q4 => ?_) (fun q4 => ?_)
  · refine f ?_
    refine f ?_
    refine f ?_
    refine f ?_
    refine And.intro (show vp_in (jI 0) 195 from jI_in (by omega) (by omega) (by omega)) ?_
    refine f ?_
    refine f ?_
    refine f ?_
    refine f ?_
    refine f ?_
    refine mo (q3.2 q4) (fun y5 G6 q7 => ?_)
    refine f ?_
    refine And.intro (fun q8 => ?_) (fun q8 => ?_)
    · refine f ?_
      refine f ?_
      refine And.intro (fun q9 => ?_) (fun q9 => ?_)
      · refine f ?_
        refine f ?_
        refine mo ((q7.2 q8).2 q9) (fun y10 G11 q12 => ?_)
        refine f ?_
        refine f ?_
        refine f ?_
        refine f ?_
        refine f ?_
        refine And.intro (show vp_in (jI 0) 195 from jI_in (by omega) (by omega) (by omega)) ?_
        refine f ?_
        refine f ?_
        refine f ?_
        refine And.intro (show vp_in (jI 0) 195 from jI_in (by omega) (by omega) (by omega)) ?_
        refine f ?_
        refine f ?_
        refine f ?_
        refine mo (q12 _ rfl) (fun y14 G15 q16 => ?_)
        refine f ?_
        refine f ?_
        refine f ?_
        refine f ?_
        refine And.intro (show vp_in (jI 0) 195 from jI_in (by omega) (by omega) (by omega)) ?_
        refine f ?_
        exact q16
      · refine f ?_
        refine f ?_
        exact ((q7.2 q8).1 (Classical.not_not.mp q9))
    · refine f ?_
      refine f ?_
      exact (q7.1 (Classical.not_not.mp q8))
  · refine f ?_
    refine f ?_
    exact (q3.1 (Classical.not_not.mp q4))
set_option maxHeartbeats 20000000 in
theorem vcX8_run {a0 : Nat} {x1 : Int32} {G : Mm} {Q : dp_Ps} (h : Sp 80 3 [vI x1, vI (jI 1), vI (jI 1000)] G (fun y1 G2 => (y1 = jI 0 → Q (jI (-1002)) G2) ∧ (¬ y1 = jI 0 → (((G2.1 (G2.2 a0 0) 0) + ((jI 2) * x1)) ≤ (jI 99999) → Sp 82 2 [vR 8 a0] G2 (fun y6 G7 => Sp 106 4 [vR 16 (G7.2 a0 0), vI x1] G7 (fun y9 G10 => Q y9 G10))) ∧ (¬ ((G2.1 (G2.2 a0 0) 0) + ((jI 2) * x1)) ≤ (jI 99999) → Q (jI (-1003)) G2)))) : Sp 119 2 [vR 8 a0, vI x1] G Q := by
  have f := @fX8_run
  have mo := @Wp_mono
  revert h f mo
  try unfold Sp
  generalize Wp = X
  intro h f mo
  refine f ?_
  refine f ?_
  refine f ?_
  refine f ?_
  refine mo h (fun y1 G2 q3 => ?_)
  refine f ?_
  refine And.intro (fun q4 => ?_) (fun q4 => ?_)
  · refine f ?_
    refine f ?_
    refine f ?_
    refine f ?_
    refine And.intro (show vp_in (jI 0) 195 from jI_in (by omega) (by omega) (by omega)) ?_
    refine f ?_
    refine f ?_
    refine f ?_
    refine f ?_
    refine f ?_
    refine f ?_
    refine And.intro (fun q5 => ?_) (fun q5 => ?_)
    · refine f ?_
      refine f ?_
      refine mo ((q3.2 q4).1 q5) (fun y6 G7 q8 => ?_)
      refine f ?_
      refine f ?_
      refine f ?_
      refine f ?_
      refine mo q8 (fun y9 G10 q11 => ?_)
      refine f ?_
      exact q11
    · refine f ?_
      refine f ?_
      exact ((q3.2 q4).2 q5)
  · refine f ?_
    refine f ?_
    exact (q3.1 (Classical.not_not.mp q4))
set_option maxHeartbeats 20000000 in
theorem vcX8_type {a0 : Nat} {x1 : Int32} {G : Mm} {Q : dp_Ps} (h : ((G.1 a0 7) = (jI 60) → Q (jI (-1003)) G) ∧ (¬ (G.1 a0 7) = (jI 60) → vp_in (G.1 a0 7) 60 ∧ vp_nar .char x1 = x1 ∧ (∀ G2 : Mm, G2 = wI G (G.2 a0 6) ((G.1 a0 7)).toNatClampNeg x1 → (∀ G3 : Mm, G3 = wI G2 a0 7 ((G2.1 a0 7) + (jI 1)) → Q (G3.1 a0 7) G3)))) : Sp 120 2 [vR 8 a0, vI x1] G Q := by
  have f := @fX8_type
  have mo := @Wp_mono
  revert h f mo
  try unfold Sp
  generalize Wp = X
  intro h f mo
  refine f ?_
  refine f ?_
  refine f ?_
  refine f ?_
  refine And.intro (fun q1 => ?_) (fun q1 => ?_)
  · refine f ?_
    refine f ?_
    refine f ?_
    refine f ?_
    refine f ?_
    refine f ?_
    refine And.intro (h.2 q1).1 ?_
    refine And.intro (h.2 q1).2.1 ?_
    refine f ?_
    refine f ?_
    refine f ?_
    refine f ?_
    refine f ?_
    refine f ?_
    refine f ?_
    refine f ?_
    refine f ?_
    exact (((h.2 q1).2.2 _ rfl) _ rfl)
  · refine f ?_
    refine f ?_
    exact (h.1 (Classical.not_not.mp q1))
set_option maxHeartbeats 20000000 in
theorem vcX8_clearText {a0 : Nat} {G : Mm} {Q : dp_Ps} (h : (∀ G1 : Mm, G1 = wI G a0 7 (jI 0) → Q (G.1 a0 7) G1)) : Sp 121 2 [vR 8 a0] G Q := by
  have f := @fX8_clearText
  have mo := @Wp_mono
  revert h f mo
  try unfold Sp
  generalize Wp = X
  intro h f mo
  refine f ?_
  refine f ?_
  refine f ?_
  refine f ?_
  refine f ?_
  refine f ?_
  refine f ?_
  refine f ?_
  exact (h _ rfl)
set_option maxHeartbeats 20000000 in
theorem vcX8_sees {a0 : Nat} {x1 x2 : Int32} {G : Mm} {Q : dp_Ps} (h : ((G.1 a0 7) ≤ (G.1 a0 8) → Q (jI 0) G) ∧ (¬ (G.1 a0 7) ≤ (G.1 a0 8) → vp_in (G.1 a0 8) 60 ∧ (Sp 80 3 [vI (G.1 (G.2 a0 6) ((G.1 a0 8)).toNatClampNeg), vI x1, vI x2] G (fun y2 G3 => (y2 = jI 0 → Q (jI 0) G3) ∧ (¬ y2 = jI 0 → Q (jI 1) G3))))) : Sp 122 3 [vR 8 a0, vI x1, vI x2] G Q := by
  have f := @fX8_sees
  have mo := @Wp_mono
  revert h f mo
  try unfold Sp
  generalize Wp = X
  intro h f mo
  refine f ?_
  refine f ?_
  refine f ?_
  refine f ?_
  refine f ?_
  refine And.intro (fun q1 => ?_) (fun q1 => ?_)
  · refine f ?_
    refine f ?_
    exact And.intro (Or.inl rfl) (h.1 q1)
  · refine f ?_
    refine f ?_
    refine f ?_
    refine f ?_
    refine f ?_
    refine And.intro (h.2 q1).1 ?_
    refine f ?_
    refine f ?_
    refine f ?_
    refine mo (h.2 q1).2 (fun y2 G3 q4 => ?_)
    refine f ?_
    refine And.intro (fun q5 => ?_) (fun q5 => ?_)
    · refine f ?_
      refine f ?_
      exact And.intro (Or.inl rfl) (q4.1 q5)
    · refine f ?_
      refine f ?_
      refine f ?_
      exact And.intro (Or.inr rfl) (q4.2 q5)
set_option maxHeartbeats 20000000 in
theorem vcX8_takes {a0 : Nat} {x1 : Int32} {G : Mm} {Q : dp_Ps} (h : Sp 122 3 [vR 8 a0, vI x1, vI x1] G (fun y1 G2 => (y1 = jI 0 → (∀ G5 : Mm, G5 = wI G2 a0 8 ((G2.1 a0 8) + (jI 0)) → (y1 = jI 0 ∨ y1 = jI 1) ∧ Q y1 G5)) ∧ (¬ y1 = jI 0 → (∀ G6 : Mm, G6 = wI G2 a0 8 ((G2.1 a0 8) + (jI 1)) → (y1 = jI 0 ∨ y1 = jI 1) ∧ Q y1 G6)))) : Sp 123 3 [vR 8 a0, vI x1] G Q := by
  have f := @fX8_takes
  have mo := @Wp_mono
  revert h f mo
  try unfold Sp
  generalize Wp = X
  intro h f mo
  refine f ?_
  refine f ?_
  refine f ?_
  refine f ?_
  refine mo h (fun y1 G2 q3 => ?_)
  refine f ?_
  refine f ?_
  refine f ?_
  refine f ?_
  refine f ?_
  refine f ?_
  refine And.intro (fun q4 => ?_) (fun q4 => ?_)
  · refine f ?_
    refine f ?_
    refine f ?_
    refine f ?_
    refine f ?_
    exact ((q3.1 q4) _ rfl)
  · refine f ?_
    refine f ?_
    refine f ?_
    refine f ?_
    refine f ?_
    refine f ?_
    exact ((q3.2 q4) _ rfl)
set_option maxHeartbeats 20000000 in
theorem vcX8_isNumber {a0 : Nat} {x1 x2 x3 : Int32} {G : Mm} {Q : dp_Ps} (h : ((jI 9) ≤ x3 → Sp 122 3 [vR 8 a0, vI ((jI 48) + x2), vI ((jI 48) + (jI 9))] G (fun y2 G3 => (y2 = jI 0 → Q (jI 0) G3) ∧ (¬ y2 = jI 0 → vp_in (G3.1 a0 8) 60 ∧ ((∀ G6 : Mm, G6 = wI G3 a0 8 ((G3.1 a0 8) + (jI 1)) → Wp 124 52 [some (vR 8 a0), some (vI x1), some (vI x2), some (vI x3), some (vI ((G3.1 (G3.2 a0 6) ((G3.1 a0 8)).toNatClampNeg) - (jI 48)))] [] G6 Q))))) ∧ (¬ (jI 9) ≤ x3 → Sp 122 3 [vR 8 a0, vI ((jI 48) + x2), vI ((jI 48) + x3)] G (fun y7 G8 => (y7 = jI 0 → Q (jI 0) G8) ∧ (¬ y7 = jI 0 → vp_in (G8.1 a0 8) 60 ∧ ((∀ G11 : Mm, G11 = wI G8 a0 8 ((G8.1 a0 8) + (jI 1)) → Wp 124 52 [some (vR 8 a0), some (vI x1), some (vI x2), some (vI x3), some (vI ((G8.1 (G8.2 a0 6) ((G8.1 a0 8)).toNatClampNeg) - (jI 48)))] [] G11 Q)))))) : Sp 124 5 [vR 8 a0, vI x1, vI x2, vI x3] G Q := by
  have f := @fX8_isNumber
  have mo := @Wp_mono
  revert h f mo
  try unfold Sp
  generalize Wp = X
  intro h f mo
  refine f ?_
  refine f ?_
  refine f ?_
  refine f ?_
  refine f ?_
  refine f ?_
  refine f ?_
  refine f ?_
  refine And.intro (fun q1 => ?_) (fun q1 => ?_)
  · refine f ?_
    refine f ?_
    refine f ?_
    refine mo (h.1 q1) (fun y2 G3 q4 => ?_)
    refine f ?_
    refine And.intro (fun q5 => ?_) (fun q5 => ?_)
    · refine f ?_
      refine f ?_
      refine f ?_
      refine f ?_
      refine f ?_
      refine And.intro (q4.2 q5).1 ?_
      refine f ?_
      refine f ?_
      refine f ?_
      refine f ?_
      refine f ?_
      refine f ?_
      refine f ?_
      refine f ?_
      refine f ?_
      exact ((q4.2 q5).2 _ rfl)
    · refine f ?_
      refine f ?_
      exact And.intro (Or.inl rfl) (q4.1 (Classical.not_not.mp q5))
  · refine f ?_
    refine f ?_
    refine f ?_
    refine f ?_
    refine mo (h.2 q1) (fun y7 G8 q9 => ?_)
    refine f ?_
    refine And.intro (fun q10 => ?_) (fun q10 => ?_)
    · refine f ?_
      refine f ?_
      refine f ?_
      refine f ?_
      refine f ?_
      refine And.intro (q9.2 q10).1 ?_
      refine f ?_
      refine f ?_
      refine f ?_
      refine f ?_
      refine f ?_
      refine f ?_
      refine f ?_
      refine f ?_
      refine f ?_
      exact ((q9.2 q10).2 _ rfl)
    · refine f ?_
      refine f ?_
      exact And.intro (Or.inl rfl) (q9.1 (Classical.not_not.mp q10))
set_option maxHeartbeats 20000000 in
theorem vcX8_isNumber_52 {a0 : Nat} {x1 x3 x4 : Int32} {w2 : Option Vl} {G : Mm} {Q : dp_Ps} (h : (x4 ≤ jI 0 → vp_in (((jI 3) * (G.1 a0 10)) + x1) 96 ∧ (∀ G2 : Mm, G2 = wI G (G.2 a0 9) ((((jI 3) * (G.1 a0 10)) + x1)).toNatClampNeg x4 → Q (jI 1) G2)) ∧ (¬ x4 ≤ jI 0 → Sp 122 3 [vR 8 a0, vI (jI 48), vI (jI 57)] G (fun y3 G4 => (y3 = jI 0 → vp_in (((jI 3) * (G4.1 a0 10)) + x1) 96 ∧ (∀ G7 : Mm, G7 = wI G4 (G4.2 a0 9) ((((jI 3) * (G4.1 a0 10)) + x1)).toNatClampNeg x4 → Q (jI 1) G7)) ∧ (¬ y3 = jI 0 → vp_in (G4.1 a0 8) 60 ∧ ((x3 < ((((jI 10) * x4) + (G4.1 (G4.2 a0 6) ((G4.1 a0 8)).toNatClampNeg)) - (jI 48)) → vp_in (((jI 3) * (G4.1 a0 10)) + x1) 96 ∧ (∀ G9 : Mm, G9 = wI G4 (G4.2 a0 9) ((((jI 3) * (G4.1 a0 10)) + x1)).toNatClampNeg x4 → Q (jI 1) G9)) ∧ (¬ x3 < ((((jI 10) * x4) + (G4.1 (G4.2 a0 6) ((G4.1 a0 8)).toNatClampNeg)) - (jI 48)) → vp_in (G4.1 a0 8) 60 ∧ ((∀ G10 : Mm, G10 = wI G4 a0 8 ((G4.1 a0 8) + (jI 1)) → Wp 124 52 [some (vR 8 a0), some (vI x1), w2, some (vI x3), some (vI ((((jI 10) * x4) + (G4.1 (G4.2 a0 6) ((G4.1 a0 8)).toNatClampNeg)) - (jI 48)))] [] G10 Q)))))))) : Wp 124 52 [some (vR 8 a0), some (vI x1), w2, some (vI x3), some (vI x4)] [] G Q := by
  have f := @fX8_isNumber
  have mo := @Wp_mono
  revert h f mo
  try unfold Sp
  generalize Wp = X
  intro h f mo
  refine f ?_
  refine f ?_
  refine And.intro (fun q1 => ?_) (fun q1 => ?_)
  · refine f ?_
    refine f ?_
    refine f ?_
    refine f ?_
    refine f ?_
    refine f ?_
    refine f ?_
    refine f ?_
    refine f ?_
    refine f ?_
    refine And.intro (h.1 q1).1 ?_
    refine f ?_
    refine f ?_
    exact And.intro (Or.inr rfl) ((h.1 q1).2 _ rfl)
  · refine f ?_
    refine f ?_
    refine f ?_
    refine f ?_
    refine mo (h.2 q1) (fun y3 G4 q5 => ?_)
    refine f ?_
    refine And.intro (fun q6 => ?_) (fun q6 => ?_)
    · refine f ?_
      refine f ?_
      refine f ?_
      refine f ?_
      refine f ?_
      refine f ?_
      refine f ?_
      refine f ?_
      refine f ?_
      refine f ?_
      refine And.intro (q5.1 q6).1 ?_
      refine f ?_
      refine f ?_
      exact And.intro (Or.inr rfl) ((q5.1 q6).2 _ rfl)
    · refine f ?_
      refine f ?_
      refine f ?_
      refine f ?_
      refine f ?_
      refine f ?_
      refine f ?_
      refine f ?_
      refine And.intro (q5.2 q6).1 ?_
      refine f ?_
      refine f ?_
      refine f ?_
      refine f ?_
      refine f ?_
      refine And.intro (fun q8 => ?_) (fun q8 => ?_)
      · refine f ?_
        refine f ?_
        refine f ?_
        refine f ?_
        refine f ?_
        refine f ?_
        refine f ?_
        refine f ?_
        refine f ?_
        refine f ?_
        refine And.intro ((q5.2 q6).2.1 q8).1 ?_
        refine f ?_
        refine f ?_
        exact And.intro (Or.inr rfl) (((q5.2 q6).2.1 q8).2 _ rfl)
      · refine f ?_
        refine f ?_
        refine f ?_
        refine f ?_
        refine f ?_
        refine f ?_
        refine f ?_
        refine f ?_
        refine And.intro ((q5.2 q6).2.2 q8).1 ?_
        refine f ?_
        refine f ?_
        refine f ?_
        refine f ?_
        refine f ?_
        refine f ?_
        refine f ?_
        refine f ?_
        refine f ?_
        refine f ?_
        refine f ?_
        exact (((q5.2 q6).2.2 q8).2 _ rfl)
set_option maxHeartbeats 20000000 in
theorem vcX8_isAlarmTold {a0 : Nat} {G : Mm} {Q : dp_Ps} (h : vp_in (((jI 3) * (G.1 a0 10)) + (jI 1)) 96 ∧ (∀ G1 : Mm, G1 = wI G (G.2 a0 9) ((((jI 3) * (G.1 a0 10)) + (jI 1))).toNatClampNeg (jI 0) → vp_in (((jI 3) * (G1.1 a0 10)) + (jI 2)) 96 ∧ (∀ G2 : Mm, G2 = wI G1 (G1.2 a0 9) ((((jI 3) * (G1.1 a0 10)) + (jI 2))).toNatClampNeg (jI 0) → Sp 124 5 [vR 8 a0, vI (jI 0), vI (jI 0), vI (jI 99999)] G2 (fun y3 G4 => (y3 = jI 0 → Q (jI 0) G4) ∧ (¬ y3 = jI 0 → Sp 123 3 [vR 8 a0, vI (jI 47)] G4 (fun y7 G8 => (y7 = jI 0 → Sp 123 3 [vR 8 a0, vI (jI 33)] G8 (fun y11 G12 => (y11 = jI 0 → Q (jI 1) G12) ∧ (¬ y11 = jI 0 → Sp 124 5 [vR 8 a0, vI (jI 2), vI (jI 1), vI (jI 3)] G12 (fun y15 G16 => (y15 = jI 0 → Q (jI 0) G16) ∧ (¬ y15 = jI 0 → Q (jI 1) G16))))) ∧ (¬ y7 = jI 0 → Sp 124 5 [vR 8 a0, vI (jI 1), vI (jI 1), vI (jI 9999)] G8 (fun y19 G20 => (y19 = jI 0 → Q (jI 0) G20) ∧ (¬ y19 = jI 0 → Sp 123 3 [vR 8 a0, vI (jI 33)] G20 (fun y23 G24 => (y23 = jI 0 → Q (jI 1) G24) ∧ (¬ y23 = jI 0 → Sp 124 5 [vR 8 a0, vI (jI 2), vI (jI 1), vI (jI 3)] G24 (fun y27 G28 => (y27 = jI 0 → Q (jI 0) G28) ∧ (¬ y27 = jI 0 → Q (jI 1) G28))))))))))))) : Sp 125 1 [vR 8 a0] G Q := by
  have f := @fX8_isAlarmTold
  have mo := @Wp_mono
  revert h f mo
  try unfold Sp
  generalize Wp = X
  intro h f mo
  refine f ?_
  refine f ?_
  refine f ?_
  refine f ?_
  refine f ?_
  refine f ?_
  refine f ?_
  refine f ?_
  refine f ?_
  refine f ?_
  refine And.intro h.1 ?_
  refine f ?_
  refine f ?_
  refine f ?_
  refine f ?_
  refine f ?_
  refine f ?_
  refine f ?_
  refine f ?_
  refine f ?_
  refine f ?_
  refine And.intro (h.2 _ rfl).1 ?_
  refine f ?_
  refine f ?_
  refine f ?_
  refine f ?_
  refine f ?_
  refine mo ((h.2 _ rfl).2 _ rfl) (fun y3 G4 q5 => ?_)
  refine f ?_
  refine And.intro (fun q6 => ?_) (fun q6 => ?_)
  · refine f ?_
    refine f ?_
    exact And.intro (Or.inl rfl) (q5.1 q6)
  · refine f ?_
    refine f ?_
    refine f ?_
    refine mo (q5.2 q6) (fun y7 G8 q9 => ?_)
    refine f ?_
    refine And.intro (fun q10 => ?_) (fun q10 => ?_)
    · refine f ?_
      refine f ?_
      refine f ?_
      refine mo (q9.1 q10) (fun y11 G12 q13 => ?_)
      refine f ?_
      refine And.intro (fun q14 => ?_) (fun q14 => ?_)
      · refine f ?_
        refine f ?_
        refine f ?_
        exact And.intro (Or.inr rfl) (q13.1 q14)
      · refine f ?_
        refine f ?_
        refine f ?_
        refine f ?_
        refine f ?_
        refine mo (q13.2 q14) (fun y15 G16 q17 => ?_)
        refine f ?_
        refine And.intro (fun q18 => ?_) (fun q18 => ?_)
        · refine f ?_
          refine f ?_
          exact And.intro (Or.inl rfl) (q17.1 q18)
        · refine f ?_
          refine f ?_
          refine f ?_
          exact And.intro (Or.inr rfl) (q17.2 q18)
    · refine f ?_
      refine f ?_
      refine f ?_
      refine f ?_
      refine f ?_
      refine mo (q9.2 q10) (fun y19 G20 q21 => ?_)
      refine f ?_
      refine And.intro (fun q22 => ?_) (fun q22 => ?_)
      · refine f ?_
        refine f ?_
        refine f ?_
        refine mo (q21.2 q22) (fun y23 G24 q25 => ?_)
        refine f ?_
        refine And.intro (fun q26 => ?_) (fun q26 => ?_)
        · refine f ?_
          refine f ?_
          refine f ?_
          exact And.intro (Or.inr rfl) (q25.1 q26)
        · refine f ?_
          refine f ?_
          refine f ?_
          refine f ?_
          refine f ?_
          refine mo (q25.2 q26) (fun y27 G28 q29 => ?_)
          refine f ?_
          refine And.intro (fun q30 => ?_) (fun q30 => ?_)
          · refine f ?_
            refine f ?_
            exact And.intro (Or.inl rfl) (q29.1 q30)
          · refine f ?_
            refine f ?_
            refine f ?_
            exact And.intro (Or.inr rfl) (q29.2 q30)
      · refine f ?_
        refine f ?_
        exact And.intro (Or.inl rfl) (q21.1 (Classical.not_not.mp q22))
set_option maxHeartbeats 20000000 in
theorem vcX8_fault {a0 : Nat} {G : Mm} {Q : dp_Ps} (h : (∀ G1 : Mm, G1 = wI G a0 8 (jI 0) → (∀ G2 : Mm, G2 = wI G1 a0 10 (jI 0) → Wp 126 12 [some (vR 8 a0), some (vI (jI 1))] [] G2 Q))) : Sp 126 2 [vR 8 a0] G Q := by
  have f := @fX8_fault
  have mo := @Wp_mono
  revert h f mo
  try unfold Sp
  generalize Wp = X
  intro h f mo
  refine f ?_
  refine f ?_
  refine f ?_
  refine f ?_
  refine f ?_
  refine f ?_
  refine f ?_
  refine f ?_
  exact ((h _ rfl) _ rfl)
set_option maxHeartbeats 20000000 in
theorem vcX8_fault_12 {a0 : Nat} {x1 : Int32} {G : Mm} {Q : dp_Ps} (h : (x1 = jI 0 → ((G.1 a0 8) = (G.1 a0 7) → Q (jI (-1005)) G) ∧ (¬ (G.1 a0 8) = (G.1 a0 7) → Q (G.1 a0 8) G)) ∧ (¬ x1 = jI 0 → Sp 125 1 [vR 8 a0] G (fun y3 G4 => (y3 = jI 0 → Q (G4.1 a0 8) G4) ∧ (¬ y3 = jI 0 → (∀ G7 : Mm, G7 = wI G4 a0 10 ((G4.1 a0 10) + (jI 1)) → Sp 123 3 [vR 8 a0, vI (jI 59)] G7 (fun y8 G9 => Wp 126 12 [some (vR 8 a0), some (vI y8)] [] G9 Q)))))) : Wp 126 12 [some (vR 8 a0), some (vI x1)] [] G Q := by
  have f := @fX8_fault
  have mo := @Wp_mono
  revert h f mo
  try unfold Sp
  generalize Wp = X
  intro h f mo
  refine f ?_
  refine f ?_
  refine And.intro (fun q1 => ?_) (fun q1 => ?_)
  · refine f ?_
    refine f ?_
    refine f ?_
    refine f ?_
    refine f ?_
    refine And.intro (fun q2 => ?_) (fun q2 => ?_)
    · refine f ?_
      refine f ?_
      refine f ?_
      exact ((h.1 q1).2 q2)
    · refine f ?_
      refine f ?_
      refine f ?_
      exact ((h.1 q1).1 (Classical.not_not.mp q2))
  · refine f ?_
    refine f ?_
    refine mo (h.2 q1) (fun y3 G4 q5 => ?_)
    refine f ?_
    refine And.intro (fun q6 => ?_) (fun q6 => ?_)
    · refine f ?_
      refine f ?_
      refine f ?_
      refine f ?_
      refine f ?_
      refine f ?_
      refine f ?_
      refine f ?_
      refine f ?_
      refine mo ((q5.2 q6) _ rfl) (fun y8 G9 q10 => ?_)
      refine f ?_
      refine f ?_
      exact q10
    · refine f ?_
      refine f ?_
      refine f ?_
      exact (q5.1 (Classical.not_not.mp q6))
set_option maxHeartbeats 20000000 in
theorem vcX8_undo {a0 : Nat} {G : Mm} {Q : dp_Ps} (h : ((G.1 a0 3) = jI 0 → Q (jI (-1005)) G) ∧ (¬ (G.1 a0 3) = jI 0 → (∀ G2 : Mm, G2 = wI G a0 3 ((G.1 a0 3) - (jI 1)) → Sp 81 5 [vR 17 (G2.2 a0 2), vI ((jI 195) * (G2.1 a0 3)), vR 16 (G2.2 a0 0), vI (jI 0)] G2 (fun y3 G4 => Q (G4.1 a0 3) G4)))) : Sp 127 1 [vR 8 a0] G Q := by
  have f := @fX8_undo
  have mo := @Wp_mono
  revert h f mo
  try unfold Sp
  generalize Wp = X
  intro h f mo
  refine f ?_
  refine f ?_
  refine f ?_
  refine And.intro (fun q1 => ?_) (fun q1 => ?_)
  · refine f ?_
    refine f ?_
    refine f ?_
    refine f ?_
    refine f ?_
    refine f ?_
    refine f ?_
    refine f ?_
    refine f ?_
    refine f ?_
    refine f ?_
    refine f ?_
    refine f ?_
    refine f ?_
    refine f ?_
    refine f ?_
    refine mo ((h.2 q1) _ rfl) (fun y3 G4 q5 => ?_)
    refine f ?_
    refine f ?_
    refine f ?_
    exact q5
  · refine f ?_
    refine f ?_
    exact (h.1 (Classical.not_not.mp q1))
set_option maxHeartbeats 20000000 in
theorem vcX8_keep {a0 : Nat} {G : Mm} {Q : dp_Ps} (h : Sp 81 5 [vR 16 (G.2 a0 0), vI (jI 0), vR 16 (G.2 a0 4), vI (jI 0)] G (fun y1 G2 => (∀ G4 : Mm, G4 = wI G2 a0 5 (jI 1) → Q (G4.1 (G4.2 a0 0) 0) G4))) : Sp 128 1 [vR 8 a0] G Q := by
  have f := @fX8_keep
  have mo := @Wp_mono
  revert h f mo
  try unfold Sp
  generalize Wp = X
  intro h f mo
  refine f ?_
  refine f ?_
  refine f ?_
  refine f ?_
  refine f ?_
  refine f ?_
  refine f ?_
  refine mo h (fun y1 G2 q3 => ?_)
  refine f ?_
  refine f ?_
  refine f ?_
  refine And.intro (Or.inr rfl) ?_
  refine f ?_
  refine f ?_
  refine f ?_
  refine f ?_
  refine And.intro (show vp_in (jI 0) 195 from jI_in (by omega) (by omega) (by omega)) ?_
  refine f ?_
  exact (q3 _ rfl)
set_option maxHeartbeats 20000000 in
theorem vcX8_restore {a0 : Nat} {G : Mm} {Q : dp_Ps} (h : ((G.1 a0 5) = jI 0 → Q (jI (-1005)) G) ∧ (¬ (G.1 a0 5) = jI 0 → Sp 82 2 [vR 8 a0] G (fun y2 G3 => Sp 81 5 [vR 16 (G3.2 a0 4), vI (jI 0), vR 16 (G3.2 a0 0), vI (jI 0)] G3 (fun y5 G6 => Q (G6.1 (G6.2 a0 0) 0) G6)))) : Sp 129 1 [vR 8 a0] G Q := by
  have f := @fX8_restore
  have mo := @Wp_mono
  revert h f mo
  try unfold Sp
  generalize Wp = X
  intro h f mo
  refine f ?_
  refine f ?_
  refine f ?_
  refine And.intro (fun q1 => ?_) (fun q1 => ?_)
  · refine f ?_
    refine f ?_
    refine mo (h.2 q1) (fun y2 G3 q4 => ?_)
    refine f ?_
    refine f ?_
    refine f ?_
    refine f ?_
    refine f ?_
    refine f ?_
    refine f ?_
    refine mo q4 (fun y5 G6 q7 => ?_)
    refine f ?_
    refine f ?_
    refine f ?_
    refine f ?_
    refine And.intro (show vp_in (jI 0) 195 from jI_in (by omega) (by omega) (by omega)) ?_
    refine f ?_
    exact q7
  · refine f ?_
    refine f ?_
    exact (h.1 (Classical.not_not.mp q1))
set_option maxHeartbeats 20000000 in
theorem vcX8_alarm {a0 : Nat} {x1 x2 : Int32} {G : Mm} {Q : dp_Ps} (h : Sp 85 3 [vR 16 (G.2 a0 0), vI x1] G (fun y1 G2 => (y1 = (jI (-1005)) → Q (jI (-1001)) G2) ∧ (¬ y1 = (jI (-1005)) → ((x2).toInt = 0 → Sp 83 3 [vR 16 (G2.2 a0 0), vI y1, vI ((jI 1) + x2)] G2 (fun y6 G7 => Q y6 G7)) ∧ (¬ (x2).toInt = 0 → ((x2).toInt = 1 → Sp 83 3 [vR 16 (G2.2 a0 0), vI y1, vI ((jI 1) + x2)] G2 (fun y10 G11 => Q y10 G11)) ∧ (¬ (x2).toInt = 1 → ((x2).toInt = 2 → Sp 83 3 [vR 16 (G2.2 a0 0), vI y1, vI ((jI 1) + x2)] G2 (fun y14 G15 => Q y14 G15)) ∧ (¬ (x2).toInt = 2 → ((x2).toInt = 3 → Sp 83 3 [vR 16 (G2.2 a0 0), vI y1, vI ((jI 1) + x2)] G2 (fun y18 G19 => Q y18 G19)) ∧ (¬ (x2).toInt = 3 → ((x2).toInt = 4 → Sp 88 4 [vR 16 (G2.2 a0 0), vI y1] G2 (fun y22 G23 => Q y22 G23)) ∧ (¬ (x2).toInt = 4 → ((x2).toInt = 5 → Sp 83 3 [vR 16 (G2.2 a0 0), vI y1, vI (jI 5)] G2 (fun y26 G27 => Q y26 G27)) ∧ (¬ (x2).toInt = 5 → ((x2).toInt = 6 → Sp 83 3 [vR 16 (G2.2 a0 0), vI y1, vI (jI 6)] G2 (fun y30 G31 => Q y30 G31)) ∧ (¬ (x2).toInt = 6 → Q (jI (-1002)) G2)))))))))) : Sp 130 4 [vR 8 a0, vI x1, vI x2] G Q := by
  have f := @fX8_alarm
  have mo := @Wp_mono
  revert h f mo
  try unfold Sp
  generalize Wp = X
  intro h f mo
  refine f ?_
  refine f ?_
  refine f ?_
  refine f ?_
  refine mo h (fun y1 G2 q3 => ?_)
  refine f ?_
  refine f ?_
  refine f ?_
  refine f ?_
  refine And.intro (fun q4 => ?_) (fun q4 => ?_)
  · refine f ?_
    refine f ?_
    refine And.intro (fun q5 => ?_) (fun q5 => ?_)
    · refine f ?_
      refine f ?_
      refine f ?_
      refine f ?_
      refine f ?_
      refine f ?_
      refine f ?_
      refine mo ((q3.2 q4).1 q5) (fun y6 G7 q8 => ?_)
      refine f ?_
      exact q8
    · refine And.intro (fun q9 => ?_) (fun q9 => ?_)
      · refine f ?_
        refine f ?_
        refine f ?_
        refine f ?_
        refine f ?_
        refine f ?_
        refine f ?_
        refine mo (((q3.2 q4).2 q5).1 q9) (fun y10 G11 q12 => ?_)
        refine f ?_
        exact q12
      · refine And.intro (fun q13 => ?_) (fun q13 => ?_)
        · refine f ?_
          refine f ?_
          refine f ?_
          refine f ?_
          refine f ?_
          refine f ?_
          refine f ?_
          refine mo ((((q3.2 q4).2 q5).2 q9).1 q13) (fun y14 G15 q16 => ?_)
          refine f ?_
          exact q16
        · refine And.intro (fun q17 => ?_) (fun q17 => ?_)
          · refine f ?_
            refine f ?_
            refine f ?_
            refine f ?_
            refine f ?_
            refine f ?_
            refine f ?_
            refine mo (((((q3.2 q4).2 q5).2 q9).2 q13).1 q17) (fun y18 G19 q20 => ?_)
            refine f ?_
            exact q20
          · refine And.intro (fun q21 => ?_) (fun q21 => ?_)
            · refine f ?_
              refine f ?_
              refine f ?_
              refine f ?_
              refine mo ((((((q3.2 q4).2 q5).2 q9).2 q13).2 q17).1 q21) (fun y22 G23 q24 => ?_)
              refine f ?_
              exact q24
            · refine And.intro (fun q25 => ?_) (fun q25 => ?_)
              · refine f ?_
                refine f ?_
                refine f ?_
                refine f ?_
                refine f ?_
                refine mo (((((((q3.2 q4).2 q5).2 q9).2 q13).2 q17).2 q21).1 q25) (fun y26 G27 q28 => ?_)
                refine f ?_
                exact q28
              · refine And.intro (fun q29 => ?_) (fun q29 => ?_)
                · refine f ?_
                  refine f ?_
                  refine f ?_
                  refine f ?_
                  refine f ?_
                  refine mo ((((((((q3.2 q4).2 q5).2 q9).2 q13).2 q17).2 q21).2 q25).1 q29) (fun y30 G31 q32 => ?_)
                  refine f ?_
                  exact q32
                · refine f ?_
                  refine f ?_
                  exact ((((((((q3.2 q4).2 q5).2 q9).2 q13).2 q17).2 q21).2 q25).2 q29)
  · refine f ?_
    refine f ?_
    exact (q3.1 (Classical.not_not.mp q4))
set_option maxHeartbeats 20000000 in
theorem vcX8_comparer {a0 : Nat} {x1 x2 : Int32} {G : Mm} {Q : dp_Ps} (h : Sp 80 3 [vI x1, vI (jI 0), vI ((G.1 (G.2 a0 0) 10) - (jI 1))] G (fun y1 G2 => (y1 = jI 0 → Q (jI (-1001)) G2) ∧ (¬ y1 = jI 0 → Sp 87 4 [vR 16 (G2.2 a0 0), vI x1] G2 (fun y5 G6 => ((x2).toInt = 0 → Sp 89 2 [vR 16 (G6.2 a0 0), vI x1] G6 (fun y9 G10 => Q y9 G10)) ∧ (¬ (x2).toInt = 0 → ((x2).toInt = 1 → Sp 90 4 [vR 16 (G6.2 a0 0), vI x1] G6 (fun y13 G14 => Q y13 G14)) ∧ (¬ (x2).toInt = 1 → ((x2).toInt = 2 → vp_in (((jI 154) + ((jI 2) * x1)) + (jI 1)) 195 ∧ (Q (G6.1 (G6.2 a0 0) ((((jI 154) + ((jI 2) * x1)) + (jI 1))).toNatClampNeg) G6)) ∧ (¬ (x2).toInt = 2 → ((x2).toInt = 3 → (y5 = (jI (-1005)) → Q (jI (-1005)) G6) ∧ (¬ y5 = (jI (-1005)) → Sp 83 3 [vR 16 (G6.2 a0 0), vI y5, vI (jI 0)] G6 (fun y19 G20 => Q y19 G20))) ∧ (¬ (x2).toInt = 3 → Q (jI (-1002)) G6)))))))) : Sp 131 4 [vR 8 a0, vI x1, vI x2] G Q := by
  have f := @fX8_comparer
  have mo := @Wp_mono
  revert h f mo
  try unfold Sp
  generalize Wp = X
  intro h f mo
  refine f ?_
  refine f ?_
  refine f ?_
  refine f ?_
  refine f ?_
  refine f ?_
  refine And.intro (show vp_in (jI 10) 195 from jI_in (by omega) (by omega) (by omega)) ?_
  refine f ?_
  refine f ?_
  refine f ?_
  refine mo h (fun y1 G2 q3 => ?_)
  refine f ?_
  refine And.intro (fun q4 => ?_) (fun q4 => ?_)
  · refine f ?_
    refine f ?_
    refine f ?_
    refine f ?_
    refine mo (q3.2 q4) (fun y5 G6 q7 => ?_)
    refine f ?_
    refine f ?_
    refine f ?_
    refine And.intro (fun q8 => ?_) (fun q8 => ?_)
    · refine f ?_
      refine f ?_
      refine f ?_
      refine f ?_
      refine mo (q7.1 q8) (fun y9 G10 q11 => ?_)
      refine f ?_
      exact q11
    · refine And.intro (fun q12 => ?_) (fun q12 => ?_)
      · refine f ?_
        refine f ?_
        refine f ?_
        refine f ?_
        refine mo ((q7.2 q8).1 q12) (fun y13 G14 q15 => ?_)
        refine f ?_
        exact q15
      · refine And.intro (fun q16 => ?_) (fun q16 => ?_)
        · refine f ?_
          refine f ?_
          refine f ?_
          refine f ?_
          refine f ?_
          refine f ?_
          refine f ?_
          refine f ?_
          refine f ?_
          refine f ?_
          refine And.intro (((q7.2 q8).2 q12).1 q16).1 ?_
          refine f ?_
          exact (((q7.2 q8).2 q12).1 q16).2
        · refine And.intro (fun q17 => ?_) (fun q17 => ?_)
          · refine f ?_
            refine f ?_
            refine f ?_
            refine And.intro (fun q18 => ?_) (fun q18 => ?_)
            · refine f ?_
              refine f ?_
              refine f ?_
              refine f ?_
              refine f ?_
              refine mo (((((q7.2 q8).2 q12).2 q16).1 q17).2 q18) (fun y19 G20 q21 => ?_)
              refine f ?_
              exact q21
            · refine f ?_
              refine f ?_
              refine f ?_
              exact (((((q7.2 q8).2 q12).2 q16).1 q17).1 (Classical.not_not.mp q18))
          · refine f ?_
            refine f ?_
            exact ((((q7.2 q8).2 q12).2 q16).2 q17)
  · refine f ?_
    refine f ?_
    exact (q3.1 (Classical.not_not.mp q4))
set_option maxHeartbeats 20000000 in
theorem vcX8_at {a0 : Nat} {x1 : Int32} {G : Mm} {Q : dp_Ps} (h : (jI 0 ≤ x1 → Wp 132 10 [some (vR 8 a0), some (vI x1), some (vI (jI 0))] [] G Q) ∧ (¬ jI 0 ≤ x1 → Q (jI (-1002)) G)) : Sp 132 3 [vR 8 a0, vI x1] G Q := by
  have f := @fX8_at
  have mo := @Wp_mono
  revert h f mo
  try unfold Sp
  generalize Wp = X
  intro h f mo
  refine f ?_
  refine f ?_
  refine And.intro (fun q1 => ?_) (fun q1 => ?_)
  · refine f ?_
    refine f ?_
    exact (h.1 q1)
  · refine f ?_
    refine f ?_
    exact (h.2 q1)
set_option maxHeartbeats 20000000 in
theorem vcX8_at_10 {a0 : Nat} {x1 x2 : Int32} {G : Mm} {Q : dp_Ps} (h : ((G.1 (G.2 a0 0) 2) ≤ x2 → Q (jI (-1005)) G) ∧ (¬ (G.1 (G.2 a0 0) 2) ≤ x2 → Sp 88 4 [vR 16 (G.2 a0 0), vI x2] G (fun y2 G3 => (y2 = x1 → Sp 83 3 [vR 16 (G3.2 a0 0), vI x2, vI (jI 0)] G3 (fun y6 G7 => Q y6 G7)) ∧ (¬ y2 = x1 → Wp 132 10 [some (vR 8 a0), some (vI x1), some (vI (x2 + (jI 1)))] [] G3 Q)))) : Wp 132 10 [some (vR 8 a0), some (vI x1), some (vI x2)] [] G Q := by
  have f := @fX8_at
  have mo := @Wp_mono
  revert h f mo
  try unfold Sp
  generalize Wp = X
  intro h f mo
  refine f ?_
  refine f ?_
  refine f ?_
  refine f ?_
  refine f ?_
  refine And.intro (show vp_in (jI 2) 195 from jI_in (by omega) (by omega) (by omega)) ?_
  refine f ?_
  refine And.intro (fun q1 => ?_) (fun q1 => ?_)
  · refine f ?_
    refine f ?_
    exact (h.1 q1)
  · refine f ?_
    refine f ?_
    refine f ?_
    refine f ?_
    refine mo (h.2 q1) (fun y2 G3 q4 => ?_)
    refine f ?_
    refine f ?_
    refine And.intro (fun q5 => ?_) (fun q5 => ?_)
    · refine f ?_
      refine f ?_
      exact (q4.2 q5)
    · refine f ?_
      refine f ?_
      refine f ?_
      refine f ?_
      refine f ?_
      refine mo (q4.1 (Classical.not_not.mp q5)) (fun y6 G7 q8 => ?_)
      refine f ?_
      exact q8
set_option maxHeartbeats 20000000 in
theorem vcX8_ringsIn {a0 : Nat} {x1 : Int32} {G : Mm} {Q : dp_Ps} (h : Sp 85 3 [vR 16 (G.2 a0 0), vI x1] G (fun y1 G2 => (y1 = (jI (-1005)) → Q (jI (-1001)) G2) ∧ (¬ y1 = (jI (-1005)) → Sp 83 3 [vR 16 (G2.2 a0 0), vI y1, vI (jI 5)] G2 (fun y5 G6 => Sp 81 5 [vR 16 (G6.2 a0 0), vI (jI 0), vR 16 (G6.2 a0 1), vI (jI 0)] G6 (fun y8 G9 => Wp 133 49 [some (vR 8 a0), some (vI x1), some (vI y1), some (vI y5), some (vI (jI 0)), some (vI (jI 1)), none] [] G9 Q))))) : Sp 133 7 [vR 8 a0, vI x1] G Q := by
  have f := @fX8_ringsIn
  have mo := @Wp_mono
  revert h f mo
  try unfold Sp
  generalize Wp = X
  intro h f mo
  refine f ?_
  refine f ?_
  refine f ?_
  refine f ?_
  refine mo h (fun y1 G2 q3 => ?_)
  refine f ?_
  refine f ?_
  refine f ?_
  refine f ?_
  refine And.intro (fun q4 => ?_) (fun q4 => ?_)
  · refine f ?_
    refine f ?_
    refine f ?_
    refine f ?_
    refine f ?_
    refine mo (q3.2 q4) (fun y5 G6 q7 => ?_)
    refine f ?_
    refine f ?_
    refine f ?_
    refine f ?_
    refine f ?_
    refine f ?_
    refine f ?_
    refine f ?_
    refine mo q7 (fun y8 G9 q10 => ?_)
    refine f ?_
    refine f ?_
    refine f ?_
    refine f ?_
    exact q10
  · refine f ?_
    refine f ?_
    exact (q3.1 (Classical.not_not.mp q4))
set_option maxHeartbeats 20000000 in
theorem vcX8_ringsIn_49 {a0 : Nat} {x1 x3 x4 x5 : Int32} {w2 w6 : Option Vl} {G : Mm} {Q : dp_Ps} (h : ((jI 1000) < x5 → Q (jI (-1005)) G) ∧ (¬ (jI 1000) < x5 → Sp 105 6 [vR 16 (G.2 a0 1)] G (fun y2 G3 => Sp 85 3 [vR 16 (G3.2 a0 1), vI x1] G3 (fun y5 G6 => ((x4 + y2) ≤ jI 0 → Wp 133 49 [some (vR 8 a0), some (vI x1), w2, some (vI x3), some (vI (x4 + y2)), some (vI (x5 + (jI 1))), some (vI y5)] [] G6 Q) ∧ (¬ (x4 + y2) ≤ jI 0 → (y5 = (jI (-1005)) → Q x5 G6) ∧ (¬ y5 = (jI (-1005)) → Sp 83 3 [vR 16 (G6.2 a0 1), vI y5, vI (jI 5)] G6 (fun y10 G11 => (y10 = x3 → Wp 133 49 [some (vR 8 a0), some (vI x1), w2, some (vI x3), some (vI (x4 + y2)), some (vI (x5 + (jI 1))), some (vI y5)] [] G11 Q) ∧ (¬ y10 = x3 → Q x5 G11)))))))) : Wp 133 49 [some (vR 8 a0), some (vI x1), w2, some (vI x3), some (vI x4), some (vI x5), w6] [] G Q := by
  have f := @fX8_ringsIn
  have mo := @Wp_mono
  revert h f mo
  try unfold Sp
  generalize Wp = X
  intro h f mo
  refine f ?_
  refine f ?_
  refine f ?_
  refine And.intro (fun q1 => ?_) (fun q1 => ?_)
  · refine f ?_
    refine f ?_
    exact (h.1 q1)
  · refine f ?_
    refine f ?_
    refine f ?_
    refine f ?_
    refine mo (h.2 q1) (fun y2 G3 q4 => ?_)
    refine f ?_
    refine f ?_
    refine f ?_
    refine f ?_
    refine f ?_
    refine f ?_
    refine mo q4 (fun y5 G6 q7 => ?_)
    refine f ?_
    refine f ?_
    refine f ?_
    refine And.intro (fun q8 => ?_) (fun q8 => ?_)
    · refine f ?_
      refine f ?_
      exact (q7.1 q8)
    · refine f ?_
      refine f ?_
      refine f ?_
      refine And.intro (fun q9 => ?_) (fun q9 => ?_)
      · refine f ?_
        refine f ?_
        exact ((q7.2 q8).1 q9)
      · refine f ?_
        refine f ?_
        refine f ?_
        refine f ?_
        refine f ?_
        refine mo ((q7.2 q8).2 q9) (fun y10 G11 q12 => ?_)
        refine f ?_
        refine f ?_
        refine And.intro (fun q13 => ?_) (fun q13 => ?_)
        · refine f ?_
          refine f ?_
          exact (q12.1 q13)
        · refine f ?_
          refine f ?_
          exact (q12.2 q13)
set_option maxHeartbeats 20000000 in
theorem vcX8_would {a0 : Nat} {x1 x2 : Int32} {G : Mm} {Q : dp_Ps} (h : Sp 81 5 [vR 16 (G.2 a0 0), vI (jI 0), vR 16 (G.2 a0 1), vI (jI 0)] G (fun y1 G2 => (x1 = (G2.1 (G2.2 a0 1) 10) → (∀ G5 : Mm, G5 = wI G2 (G2.2 a0 1) 5 (jI 0) → (∀ G6 : Mm, G6 = wI G5 (G5.2 a0 1) 6 (jI 0) → (∀ G7 : Mm, G7 = wI G6 (G6.2 a0 1) 7 (jI 0) → Sp 106 4 [vR 16 (G7.2 a0 1), vI x2] G7 (fun y8 G9 => Q y8 G9))))) ∧ (¬ x1 = (G2.1 (G2.2 a0 1) 10) → Sp 112 3 [vR 16 (G2.2 a0 1), vI x1] G2 (fun y11 G12 => (∀ G14 : Mm, G14 = wI G12 (G12.2 a0 1) 5 (jI 0) → (∀ G15 : Mm, G15 = wI G14 (G14.2 a0 1) 6 (jI 0) → (∀ G16 : Mm, G16 = wI G15 (G15.2 a0 1) 7 (jI 0) → Sp 106 4 [vR 16 (G16.2 a0 1), vI x2] G16 (fun y17 G18 => Q y17 G18)))))))) : Sp 134 3 [vR 8 a0, vI x1, vI x2] G Q := by
  have f := @fX8_would
  have mo := @Wp_mono
  revert h f mo
  try unfold Sp
  generalize Wp = X
  intro h f mo
  refine f ?_
  refine f ?_
  refine f ?_
  refine f ?_
  refine f ?_
  refine f ?_
  refine f ?_
  refine mo h (fun y1 G2 q3 => ?_)
  refine f ?_
  refine f ?_
  refine f ?_
  refine f ?_
  refine f ?_
  refine And.intro (show vp_in (jI 10) 195 from jI_in (by omega) (by omega) (by omega)) ?_
  refine f ?_
  refine And.intro (fun q4 => ?_) (fun q4 => ?_)
  · refine f ?_
    refine f ?_
    refine f ?_
    refine f ?_
    refine f ?_
    refine And.intro (show vp_in (jI 5) 195 from jI_in (by omega) (by omega) (by omega)) ?_
    refine f ?_
    refine f ?_
    refine f ?_
    refine f ?_
    refine f ?_
    refine And.intro (show vp_in (jI 6) 195 from jI_in (by omega) (by omega) (by omega)) ?_
    refine f ?_
    refine f ?_
    refine f ?_
    refine f ?_
    refine f ?_
    refine And.intro (show vp_in (jI 7) 195 from jI_in (by omega) (by omega) (by omega)) ?_
    refine f ?_
    refine f ?_
    refine f ?_
    refine f ?_
    refine mo ((((q3.1 q4) _ rfl) _ rfl) _ rfl) (fun y8 G9 q10 => ?_)
    refine f ?_
    exact q10
  · refine f ?_
    refine f ?_
    refine f ?_
    refine f ?_
    refine mo (q3.2 q4) (fun y11 G12 q13 => ?_)
    refine f ?_
    refine f ?_
    refine f ?_
    refine f ?_
    refine f ?_
    refine And.intro (show vp_in (jI 5) 195 from jI_in (by omega) (by omega) (by omega)) ?_
    refine f ?_
    refine f ?_
    refine f ?_
    refine f ?_
    refine f ?_
    refine And.intro (show vp_in (jI 6) 195 from jI_in (by omega) (by omega) (by omega)) ?_
    refine f ?_
    refine f ?_
    refine f ?_
    refine f ?_
    refine f ?_
    refine And.intro (show vp_in (jI 7) 195 from jI_in (by omega) (by omega) (by omega)) ?_
    refine f ?_
    refine f ?_
    refine f ?_
    refine f ?_
    refine mo (((q13 _ rfl) _ rfl) _ rfl) (fun y17 G18 q19 => ?_)
    refine f ?_
    exact q19
set_option maxHeartbeats 20000000 in
theorem vcX8_ifComparers {a0 : Nat} {x1 x2 x3 : Int32} {G : Mm} {Q : dp_Ps} (h : Sp 80 3 [vI x1, vI (jI 1), vI (jI 4)] G (fun y1 G2 => (y1 = jI 0 → Q (jI (-1002)) G2) ∧ (¬ y1 = jI 0 → Sp 80 3 [vI x2, vI (jI 1), vI (jI 500)] G2 (fun y5 G6 => (y5 = jI 0 → Q (jI (-1002)) G6) ∧ (¬ y5 = jI 0 → Sp 80 3 [vI x3, vI (jI 0), vI (jI 3)] G6 (fun y9 G10 => (y9 = jI 0 → Q (jI (-1002)) G10) ∧ (¬ y9 = jI 0 → Sp 134 3 [vR 8 a0, vI x1, vI x2] G10 (fun y13 G14 => (x3 = jI 0 → Q y13 G14) ∧ (¬ x3 = jI 0 → (x3 = (jI 1) → Q (G14.1 (G14.2 a0 1) 5) G14) ∧ (¬ x3 = (jI 1) → (x3 = (jI 2) → Q (G14.1 (G14.2 a0 1) 6) G14) ∧ (¬ x3 = (jI 2) → Q (G14.1 (G14.2 a0 1) 7) G14))))))))))) : Sp 135 5 [vR 8 a0, vI x1, vI x2, vI x3] G Q := by
  have f := @fX8_ifComparers
  have mo := @Wp_mono
  revert h f mo
  try unfold Sp
  generalize Wp = X
  intro h f mo
  refine f ?_
  refine f ?_
  refine f ?_
  refine f ?_
  refine mo h (fun y1 G2 q3 => ?_)
  refine f ?_
  refine And.intro (fun q4 => ?_) (fun q4 => ?_)
  · refine f ?_
    refine f ?_
    exact (q3.1 q4)
  · refine f ?_
    refine f ?_
    refine f ?_
    refine f ?_
    refine mo (q3.2 q4) (fun y5 G6 q7 => ?_)
    refine f ?_
    refine And.intro (fun q8 => ?_) (fun q8 => ?_)
    · refine f ?_
      refine f ?_
      exact (q7.1 q8)
    · refine f ?_
      refine f ?_
      refine f ?_
      refine f ?_
      refine mo (q7.2 q8) (fun y9 G10 q11 => ?_)
      refine f ?_
      refine And.intro (fun q12 => ?_) (fun q12 => ?_)
      · refine f ?_
        refine f ?_
        refine f ?_
        refine f ?_
        refine mo (q11.2 q12) (fun y13 G14 q15 => ?_)
        refine f ?_
        refine f ?_
        refine f ?_
        refine And.intro (fun q16 => ?_) (fun q16 => ?_)
        · refine f ?_
          refine f ?_
          refine f ?_
          refine And.intro (fun q17 => ?_) (fun q17 => ?_)
          · refine f ?_
            refine f ?_
            refine f ?_
            refine And.intro (fun q18 => ?_) (fun q18 => ?_)
            · refine f ?_
              refine f ?_
              refine f ?_
              refine f ?_
              refine And.intro (show vp_in (jI 7) 195 from jI_in (by omega) (by omega) (by omega)) ?_
              refine f ?_
              exact (((q15.2 q16).2 q17).2 q18)
            · refine f ?_
              refine f ?_
              refine f ?_
              refine f ?_
              refine And.intro (show vp_in (jI 6) 195 from jI_in (by omega) (by omega) (by omega)) ?_
              refine f ?_
              refine f ?_
              exact (((q15.2 q16).2 q17).1 (Classical.not_not.mp q18))
          · refine f ?_
            refine f ?_
            refine f ?_
            refine f ?_
            refine And.intro (show vp_in (jI 5) 195 from jI_in (by omega) (by omega) (by omega)) ?_
            refine f ?_
            refine f ?_
            exact ((q15.2 q16).1 (Classical.not_not.mp q17))
        · refine f ?_
          refine f ?_
          refine f ?_
          exact (q15.1 (Classical.not_not.mp q16))
      · refine f ?_
        refine f ?_
        exact (q11.1 (Classical.not_not.mp q12))
set_option maxHeartbeats 20000000 in
theorem vcX8_fewest {a0 : Nat} {x1 : Int32} {G : Mm} {Q : dp_Ps} (h : Sp 80 3 [vI x1, vI (jI 1), vI (jI 500)] G (fun y1 G2 => (y1 = jI 0 → Q (jI (-1002)) G2) ∧ (¬ y1 = jI 0 → Wp 136 22 [some (vR 8 a0), some (vI x1), some (vI (jI 0)), some (vI (jI 0)), some (vI (jI 1)), none, none] [] G2 Q))) : Sp 136 7 [vR 8 a0, vI x1] G Q := by
  have f := @fX8_fewest
  have mo := @Wp_mono
  revert h f mo
  try unfold Sp
  generalize Wp = X
  intro h f mo
  refine f ?_
  refine f ?_
  refine f ?_
  refine f ?_
  refine mo h (fun y1 G2 q3 => ?_)
  refine f ?_
  refine And.intro (fun q4 => ?_) (fun q4 => ?_)
  · refine f ?_
    refine f ?_
    refine f ?_
    refine f ?_
    refine f ?_
    refine f ?_
    exact (q3.2 q4)
  · refine f ?_
    refine f ?_
    exact (q3.1 (Classical.not_not.mp q4))
set_option maxHeartbeats 20000000 in
theorem vcX8_fewest_22 {a0 : Nat} {x1 x2 x3 x4 : Int32} {w5 w6 : Option Vl} {G : Mm} {Q : dp_Ps} (h : ((jI 5) ≤ x4 → Q x2 G) ∧ (¬ (jI 5) ≤ x4 → Sp 134 3 [vR 8 a0, vI x4, vI x1] G (fun y2 G3 => (x2 = jI 0 → (y2 < jI 0 → Wp 136 22 [some (vR 8 a0), some (vI x1), some (vI x2), some (vI (G3.1 (G3.2 a0 1) 5)), some (vI (x4 + (jI 1))), some (vI y2), some (vI (jI 1))] [] G3 Q) ∧ (¬ y2 < jI 0 → Wp 136 22 [some (vR 8 a0), some (vI x1), some (vI x4), some (vI (G3.1 (G3.2 a0 1) 5)), some (vI (x4 + (jI 1))), some (vI y2), some (vI (jI 1))] [] G3 Q)) ∧ (¬ x2 = jI 0 → (x3 ≤ (G3.1 (G3.2 a0 1) 5) → Wp 136 22 [some (vR 8 a0), some (vI x1), some (vI x2), some (vI x3), some (vI (x4 + (jI 1))), some (vI y2), some (vI (jI 0))] [] G3 Q) ∧ (¬ x3 ≤ (G3.1 (G3.2 a0 1) 5) → (y2 < jI 0 → Wp 136 22 [some (vR 8 a0), some (vI x1), some (vI x2), some (vI (G3.1 (G3.2 a0 1) 5)), some (vI (x4 + (jI 1))), some (vI y2), some (vI (jI 1))] [] G3 Q) ∧ (¬ y2 < jI 0 → Wp 136 22 [some (vR 8 a0), some (vI x1), some (vI x4), some (vI (G3.1 (G3.2 a0 1) 5)), some (vI (x4 + (jI 1))), some (vI y2), some (vI (jI 1))] [] G3 Q)))))) : Wp 136 22 [some (vR 8 a0), some (vI x1), some (vI x2), some (vI x3), some (vI x4), w5, w6] [] G Q := by
  have f := @fX8_fewest
  have mo := @Wp_mono
  revert h f mo
  try unfold Sp
  generalize Wp = X
  intro h f mo
  refine f ?_
  refine f ?_
  refine f ?_
  refine And.intro (fun q1 => ?_) (fun q1 => ?_)
  · refine f ?_
    refine f ?_
    exact (h.1 q1)
  · refine f ?_
    refine f ?_
    refine f ?_
    refine f ?_
    refine mo (h.2 q1) (fun y2 G3 q4 => ?_)
    refine f ?_
    refine f ?_
    refine f ?_
    refine And.intro (fun q5 => ?_) (fun q5 => ?_)
    · refine f ?_
      refine f ?_
      refine f ?_
      refine f ?_
      refine f ?_
      refine And.intro (fun q6 => absurd q6 (show ¬ ((jI 1) = jI 0) by decide)) (fun _ => ?_)
      refine f ?_
      refine f ?_
      refine And.intro (fun q7 => ?_) (fun q7 => ?_)
      · refine f ?_
        refine f ?_
        refine f ?_
        refine f ?_
        refine And.intro (fun q8 => absurd q8 (show ¬ ((jI 1) = jI 0) by decide)) (fun _ => ?_)
        refine f ?_
        refine f ?_
        refine f ?_
        refine f ?_
        refine And.intro (show vp_in (jI 5) 195 from jI_in (by omega) (by omega) (by omega)) ?_
        refine f ?_
        refine f ?_
        refine f ?_
        refine f ?_
        exact ((q4.1 q5).1 q7)
      · refine f ?_
        refine f ?_
        refine f ?_
        refine f ?_
        refine f ?_
        refine And.intro (fun q9 => absurd q9 (show ¬ ((jI 1) = jI 0) by decide)) (fun _ => ?_)
        refine f ?_
        refine f ?_
        refine f ?_
        refine f ?_
        refine And.intro (show vp_in (jI 5) 195 from jI_in (by omega) (by omega) (by omega)) ?_
        refine f ?_
        refine f ?_
        refine f ?_
        refine f ?_
        exact ((q4.1 q5).2 q7)
    · refine f ?_
      refine f ?_
      refine f ?_
      refine f ?_
      refine And.intro (show vp_in (jI 5) 195 from jI_in (by omega) (by omega) (by omega)) ?_
      refine f ?_
      refine f ?_
      refine And.intro (fun q10 => ?_) (fun q10 => ?_)
      · refine f ?_
        refine f ?_
        refine f ?_
        refine f ?_
        refine And.intro (fun _ => ?_) (fun q11 => absurd (show (jI 0) = jI 0 by decide) q11)
        refine f ?_
        refine f ?_
        refine f ?_
        refine f ?_
        refine And.intro (fun _ => ?_) (fun q12 => absurd (show (jI 0) = jI 0 by decide) q12)
        refine f ?_
        refine f ?_
        refine f ?_
        refine f ?_
        exact ((q4.2 q5).1 q10)
      · refine f ?_
        refine f ?_
        refine f ?_
        refine f ?_
        refine f ?_
        refine And.intro (fun q13 => absurd q13 (show ¬ ((jI 1) = jI 0) by decide)) (fun _ => ?_)
        refine f ?_
        refine f ?_
        refine And.intro (fun q14 => ?_) (fun q14 => ?_)
        · refine f ?_
          refine f ?_
          refine f ?_
          refine f ?_
          refine And.intro (fun q15 => absurd q15 (show ¬ ((jI 1) = jI 0) by decide)) (fun _ => ?_)
          refine f ?_
          refine f ?_
          refine f ?_
          refine f ?_
          refine And.intro (show vp_in (jI 5) 195 from jI_in (by omega) (by omega) (by omega)) ?_
          refine f ?_
          refine f ?_
          refine f ?_
          refine f ?_
          exact (((q4.2 q5).2 q10).1 q14)
        · refine f ?_
          refine f ?_
          refine f ?_
          refine f ?_
          refine f ?_
          refine And.intro (fun q16 => absurd q16 (show ¬ ((jI 1) = jI 0) by decide)) (fun _ => ?_)
          refine f ?_
          refine f ?_
          refine f ?_
          refine f ?_
          refine And.intro (show vp_in (jI 5) 195 from jI_in (by omega) (by omega) (by omega)) ?_
          refine f ?_
          refine f ?_
          refine f ?_
          refine f ?_
          exact (((q4.2 q5).2 q10).2 q14)
set_option maxHeartbeats 20000000 in
theorem vcX8_ring {a0 : Nat} {x1 x2 : Int32} {G : Mm} {Q : dp_Ps} (h : (x1 < jI 0 → Q (jI (-1002)) G) ∧ (¬ x1 < jI 0 → Sp 80 3 [vI x2, vI (jI 0), vI (jI 3)] G (fun y2 G3 => (y2 = jI 0 → Q (jI (-1002)) G3) ∧ (¬ y2 = jI 0 → ((G3.1 (G3.2 a0 0) 194) ≤ x1 → Q (jI (-1005)) G3) ∧ (¬ (G3.1 (G3.2 a0 0) 194) ≤ x1 → vp_in (((jI 162) + ((jI 4) * x1)) + x2) 195 ∧ (Q (G3.1 (G3.2 a0 0) ((((jI 162) + ((jI 4) * x1)) + x2)).toNatClampNeg) G3)))))) : Sp 137 3 [vR 8 a0, vI x1, vI x2] G Q := by
  have f := @fX8_ring
  have mo := @Wp_mono
  revert h f mo
  try unfold Sp
  generalize Wp = X
  intro h f mo
  refine f ?_
  refine f ?_
  refine And.intro (fun q1 => ?_) (fun q1 => ?_)
  · refine f ?_
    refine f ?_
    exact (h.1 q1)
  · refine f ?_
    refine f ?_
    refine f ?_
    refine f ?_
    refine mo (h.2 q1) (fun y2 G3 q4 => ?_)
    refine f ?_
    refine And.intro (fun q5 => ?_) (fun q5 => ?_)
    · refine f ?_
      refine f ?_
      refine f ?_
      refine f ?_
      refine f ?_
      refine And.intro (show vp_in (jI 194) 195 from jI_in (by omega) (by omega) (by omega)) ?_
      refine f ?_
      refine And.intro (fun q6 => ?_) (fun q6 => ?_)
      · refine f ?_
        refine f ?_
        exact ((q4.2 q5).1 q6)
      · refine f ?_
        refine f ?_
        refine f ?_
        refine f ?_
        refine f ?_
        refine f ?_
        refine f ?_
        refine f ?_
        refine f ?_
        refine f ?_
        refine And.intro ((q4.2 q5).2 q6).1 ?_
        refine f ?_
        refine f ?_
        exact ((q4.2 q5).2 q6).2
    · refine f ?_
      refine f ?_
      exact (q4.1 (Classical.not_not.mp q5))
set_option maxHeartbeats 20000000 in
theorem vcX8_free {a0 : Nat} {G : Mm} {Q : dp_Ps} (h : Wp 138 4 [some (vR 8 a0), some (vI (jI 0)), some (vI (jI 0))] [] G Q) : Sp 138 3 [vR 8 a0] G Q := by
  have f := @fX8_free
  have mo := @Wp_mono
  revert h f mo
  try unfold Sp
  generalize Wp = X
  intro h f mo
  refine f ?_
  refine f ?_
  refine f ?_
  refine f ?_
  exact h
set_option maxHeartbeats 20000000 in
theorem vcX8_free_4 {a0 : Nat} {x1 x2 : Int32} {G : Mm} {Q : dp_Ps} (h : ((G.1 (G.2 a0 0) 10) ≤ x2 → Q x1 G) ∧ (¬ (G.1 (G.2 a0 0) 10) ≤ x2 → Sp 89 2 [vR 16 (G.2 a0 0), vI x2] G (fun y2 G3 => (y2 = (jI (-1005)) → Wp 138 4 [some (vR 8 a0), some (vI (x1 + (jI 1))), some (vI (x2 + (jI 1)))] [] G3 Q) ∧ (¬ y2 = (jI (-1005)) → Wp 138 4 [some (vR 8 a0), some (vI (x1 + (jI 0))), some (vI (x2 + (jI 1)))] [] G3 Q)))) : Wp 138 4 [some (vR 8 a0), some (vI x1), some (vI x2)] [] G Q := by
  have f := @fX8_free
  have mo := @Wp_mono
  revert h f mo
  try unfold Sp
  generalize Wp = X
  intro h f mo
  refine f ?_
  refine f ?_
  refine f ?_
  refine f ?_
  refine f ?_
  refine And.intro (show vp_in (jI 10) 195 from jI_in (by omega) (by omega) (by omega)) ?_
  refine f ?_
  refine And.intro (fun q1 => ?_) (fun q1 => ?_)
  · refine f ?_
    refine f ?_
    exact (h.1 q1)
  · refine f ?_
    refine f ?_
    refine f ?_
    refine f ?_
    refine f ?_
    refine mo (h.2 q1) (fun y2 G3 q4 => ?_)
    refine f ?_
    refine f ?_
    refine And.intro (fun q5 => ?_) (fun q5 => ?_)
    · refine f ?_
      refine f ?_
      refine f ?_
      refine f ?_
      refine f ?_
      exact (q4.2 q5)
    · refine f ?_
      refine f ?_
      refine f ?_
      refine f ?_
      refine f ?_
      refine f ?_
      exact (q4.1 (Classical.not_not.mp q5))
set_option maxHeartbeats 20000000 in
theorem vcX8_count {a0 : Nat} {x1 : Int32} {G : Mm} {Q : dp_Ps} (h : ((x1).toInt = 0 → vp_in x1 195 ∧ (Q (G.1 (G.2 a0 0) (x1).toNatClampNeg) G)) ∧ (¬ (x1).toInt = 0 → ((x1).toInt = 1 → vp_in x1 195 ∧ (Q (G.1 (G.2 a0 0) (x1).toNatClampNeg) G)) ∧ (¬ (x1).toInt = 1 → ((x1).toInt = 2 → vp_in x1 195 ∧ (Q (G.1 (G.2 a0 0) (x1).toNatClampNeg) G)) ∧ (¬ (x1).toInt = 2 → ((x1).toInt = 3 → vp_in x1 195 ∧ (Q (G.1 (G.2 a0 0) (x1).toNatClampNeg) G)) ∧ (¬ (x1).toInt = 3 → ((x1).toInt = 4 → Sp 90 4 [vR 16 (G.2 a0 0), vI (jI (-1005))] G (fun y6 G7 => Q y6 G7)) ∧ (¬ (x1).toInt = 4 → ((x1).toInt = 5 → Sp 138 3 [vR 8 a0] G (fun y10 G11 => Q y10 G11)) ∧ (¬ (x1).toInt = 5 → ((x1).toInt = 6 → vp_in (((jI 4) + x1) - (jI 6)) 195 ∧ (Q (G.1 (G.2 a0 0) ((((jI 4) + x1) - (jI 6))).toNatClampNeg) G)) ∧ (¬ (x1).toInt = 6 → ((x1).toInt = 7 → vp_in (((jI 4) + x1) - (jI 6)) 195 ∧ (Q (G.1 (G.2 a0 0) ((((jI 4) + x1) - (jI 6))).toNatClampNeg) G)) ∧ (¬ (x1).toInt = 7 → ((x1).toInt = 8 → vp_in (((jI 4) + x1) - (jI 6)) 195 ∧ (Q (G.1 (G.2 a0 0) ((((jI 4) + x1) - (jI 6))).toNatClampNeg) G)) ∧ (¬ (x1).toInt = 8 → ((x1).toInt = 9 → vp_in (((jI 4) + x1) - (jI 6)) 195 ∧ (Q (G.1 (G.2 a0 0) ((((jI 4) + x1) - (jI 6))).toNatClampNeg) G)) ∧ (¬ (x1).toInt = 9 → ((x1).toInt = 10 → vp_in (((jI 4) + x1) - (jI 6)) 195 ∧ (Q (G.1 (G.2 a0 0) ((((jI 4) + x1) - (jI 6))).toNatClampNeg) G)) ∧ (¬ (x1).toInt = 10 → ((x1).toInt = 11 → vp_in (((jI 4) + x1) - (jI 6)) 195 ∧ (Q (G.1 (G.2 a0 0) ((((jI 4) + x1) - (jI 6))).toNatClampNeg) G)) ∧ (¬ (x1).toInt = 11 → ((x1).toInt = 12 → vp_in (((jI 4) + x1) - (jI 6)) 195 ∧ (Q (G.1 (G.2 a0 0) ((((jI 4) + x1) - (jI 6))).toNatClampNeg) G)) ∧ (¬ (x1).toInt = 12 → ((x1).toInt = 13 → vp_in (((jI 4) + x1) - (jI 6)) 195 ∧ (Q (G.1 (G.2 a0 0) ((((jI 4) + x1) - (jI 6))).toNatClampNeg) G)) ∧ (¬ (x1).toInt = 13 → ((x1).toInt = 14 → vp_in (((jI 4) + x1) - (jI 6)) 195 ∧ (Q (G.1 (G.2 a0 0) ((((jI 4) + x1) - (jI 6))).toNatClampNeg) G)) ∧ (¬ (x1).toInt = 14 → ((x1).toInt = 15 → vp_in (((jI 4) + x1) - (jI 6)) 195 ∧ (Q (G.1 (G.2 a0 0) ((((jI 4) + x1) - (jI 6))).toNatClampNeg) G)) ∧ (¬ (x1).toInt = 15 → ((x1).toInt = 16 → Q (G.1 a0 3) G) ∧ (¬ (x1).toInt = 16 → ((x1).toInt = 17 → Q (G.1 a0 7) G) ∧ (¬ (x1).toInt = 17 → Q (jI (-1002)) G))))))))))))))))))) : Sp 139 2 [vR 8 a0, vI x1] G Q := by
  have f := @fX8_count
  have mo := @Wp_mono
  revert h f mo
  try unfold Sp
  generalize Wp = X
  intro h f mo
  refine f ?_
  refine f ?_
  refine And.intro (fun q1 => ?_) (fun q1 => ?_)
  · refine f ?_
    refine f ?_
    refine f ?_
    refine f ?_
    refine And.intro (h.1 q1).1 ?_
    refine f ?_
    exact (h.1 q1).2
  · refine And.intro (fun q2 => ?_) (fun q2 => ?_)
    · refine f ?_
      refine f ?_
      refine f ?_
      refine f ?_
      refine And.intro ((h.2 q1).1 q2).1 ?_
      refine f ?_
      exact ((h.2 q1).1 q2).2
    · refine And.intro (fun q3 => ?_) (fun q3 => ?_)
      · refine f ?_
        refine f ?_
        refine f ?_
        refine f ?_
        refine And.intro (((h.2 q1).2 q2).1 q3).1 ?_
        refine f ?_
        exact (((h.2 q1).2 q2).1 q3).2
      · refine And.intro (fun q4 => ?_) (fun q4 => ?_)
        · refine f ?_
          refine f ?_
          refine f ?_
          refine f ?_
          refine And.intro ((((h.2 q1).2 q2).2 q3).1 q4).1 ?_
          refine f ?_
          exact ((((h.2 q1).2 q2).2 q3).1 q4).2
        · refine And.intro (fun q5 => ?_) (fun q5 => ?_)
          · refine f ?_
            refine f ?_
            refine f ?_
            refine f ?_
            refine mo (((((h.2 q1).2 q2).2 q3).2 q4).1 q5) (fun y6 G7 q8 => ?_)
            refine f ?_
            exact q8
          · refine And.intro (fun q9 => ?_) (fun q9 => ?_)
            · refine f ?_
              refine f ?_
              refine mo ((((((h.2 q1).2 q2).2 q3).2 q4).2 q5).1 q9) (fun y10 G11 q12 => ?_)
              refine f ?_
              exact q12
            · refine And.intro (fun q13 => ?_) (fun q13 => ?_)
              · refine f ?_
                refine f ?_
                refine f ?_
                refine f ?_
                refine f ?_
                refine f ?_
                refine f ?_
                refine f ?_
                refine And.intro (((((((h.2 q1).2 q2).2 q3).2 q4).2 q5).2 q9).1 q13).1 ?_
                refine f ?_
                exact (((((((h.2 q1).2 q2).2 q3).2 q4).2 q5).2 q9).1 q13).2
              · refine And.intro (fun q14 => ?_) (fun q14 => ?_)
                · refine f ?_
                  refine f ?_
                  refine f ?_
                  refine f ?_
                  refine f ?_
                  refine f ?_
                  refine f ?_
                  refine f ?_
                  refine And.intro ((((((((h.2 q1).2 q2).2 q3).2 q4).2 q5).2 q9).2 q13).1 q14).1 ?_
                  refine f ?_
                  exact ((((((((h.2 q1).2 q2).2 q3).2 q4).2 q5).2 q9).2 q13).1 q14).2
                · refine And.intro (fun q15 => ?_) (fun q15 => ?_)
                  · refine f ?_
                    refine f ?_
                    refine f ?_
                    refine f ?_
                    refine f ?_
                    refine f ?_
                    refine f ?_
                    refine f ?_
                    refine And.intro (((((((((h.2 q1).2 q2).2 q3).2 q4).2 q5).2 q9).2 q13).2 q14).1 q15).1 ?_
                    refine f ?_
                    exact (((((((((h.2 q1).2 q2).2 q3).2 q4).2 q5).2 q9).2 q13).2 q14).1 q15).2
                  · refine And.intro (fun q16 => ?_) (fun q16 => ?_)
                    · refine f ?_
                      refine f ?_
                      refine f ?_
                      refine f ?_
                      refine f ?_
                      refine f ?_
                      refine f ?_
                      refine f ?_
                      refine And.intro ((((((((((h.2 q1).2 q2).2 q3).2 q4).2 q5).2 q9).2 q13).2 q14).2 q15).1 q16).1 ?_
                      refine f ?_
                      exact ((((((((((h.2 q1).2 q2).2 q3).2 q4).2 q5).2 q9).2 q13).2 q14).2 q15).1 q16).2
                    · refine And.intro (fun q17 => ?_) (fun q17 => ?_)
                      · refine f ?_
                        refine f ?_
                        refine f ?_
                        refine f ?_
                        refine f ?_
                        refine f ?_
                        refine f ?_
                        refine f ?_
                        refine And.intro (((((((((((h.2 q1).2 q2).2 q3).2 q4).2 q5).2 q9).2 q13).2 q14).2 q15).2 q16).1 q17).1 ?_
                        refine f ?_
                        exact (((((((((((h.2 q1).2 q2).2 q3).2 q4).2 q5).2 q9).2 q13).2 q14).2 q15).2 q16).1 q17).2
                      · refine And.intro (fun q18 => ?_) (fun q18 => ?_)
                        · refine f ?_
                          refine f ?_
                          refine f ?_
                          refine f ?_
                          refine f ?_
                          refine f ?_
                          refine f ?_
                          refine f ?_
                          refine And.intro ((((((((((((h.2 q1).2 q2).2 q3).2 q4).2 q5).2 q9).2 q13).2 q14).2 q15).2 q16).2 q17).1 q18).1 ?_
                          refine f ?_
                          exact ((((((((((((h.2 q1).2 q2).2 q3).2 q4).2 q5).2 q9).2 q13).2 q14).2 q15).2 q16).2 q17).1 q18).2
                        · refine And.intro (fun q19 => ?_) (fun q19 => ?_)
                          · refine f ?_
                            refine f ?_
                            refine f ?_
                            refine f ?_
                            refine f ?_
                            refine f ?_
                            refine f ?_
                            refine f ?_
                            refine And.intro (((((((((((((h.2 q1).2 q2).2 q3).2 q4).2 q5).2 q9).2 q13).2 q14).2 q15).2 q16).2 q17).2 q18).1 q19).1 ?_
                            refine f ?_
                            exact (((((((((((((h.2 q1).2 q2).2 q3).2 q4).2 q5).2 q9).2 q13).2 q14).2 q15).2 q16).2 q17).2 q18).1 q19).2
                          · refine And.intro (fun q20 => ?_) (fun q20 => ?_)
                            · refine f ?_
                              refine f ?_
                              refine f ?_
                              refine f ?_
                              refine f ?_
                              refine f ?_
                              refine f ?_
                              refine f ?_
                              refine And.intro ((((((((((((((h.2 q1).2 q2).2 q3).2 q4).2 q5).2 q9).2 q13).2 q14).2 q15).2 q16).2 q17).2 q18).2 q19).1 q20).1 ?_
                              refine f ?_
                              exact ((((((((((((((h.2 q1).2 q2).2 q3).2 q4).2 q5).2 q9).2 q13).2 q14).2 q15).2 q16).2 q17).2 q18).2 q19).1 q20).2
                            · refine And.intro (fun q21 => ?_) (fun q21 => ?_)
                              · refine f ?_
                                refine f ?_
                                refine f ?_
                                refine f ?_
                                refine f ?_
                                refine f ?_
                                refine f ?_
                                refine f ?_
                                refine And.intro (((((((((((((((h.2 q1).2 q2).2 q3).2 q4).2 q5).2 q9).2 q13).2 q14).2 q15).2 q16).2 q17).2 q18).2 q19).2 q20).1 q21).1 ?_
                                refine f ?_
                                exact (((((((((((((((h.2 q1).2 q2).2 q3).2 q4).2 q5).2 q9).2 q13).2 q14).2 q15).2 q16).2 q17).2 q18).2 q19).2 q20).1 q21).2
                              · refine And.intro (fun q22 => ?_) (fun q22 => ?_)
                                · refine f ?_
                                  refine f ?_
                                  refine f ?_
                                  refine f ?_
                                  refine f ?_
                                  refine f ?_
                                  refine f ?_
                                  refine f ?_
                                  refine And.intro ((((((((((((((((h.2 q1).2 q2).2 q3).2 q4).2 q5).2 q9).2 q13).2 q14).2 q15).2 q16).2 q17).2 q18).2 q19).2 q20).2 q21).1 q22).1 ?_
                                  refine f ?_
                                  exact ((((((((((((((((h.2 q1).2 q2).2 q3).2 q4).2 q5).2 q9).2 q13).2 q14).2 q15).2 q16).2 q17).2 q18).2 q19).2 q20).2 q21).1 q22).2
                                · refine And.intro (fun q23 => ?_) (fun q23 => ?_)
                                  · refine f ?_
                                    refine f ?_
                                    refine f ?_
                                    exact (((((((((((((((((h.2 q1).2 q2).2 q3).2 q4).2 q5).2 q9).2 q13).2 q14).2 q15).2 q16).2 q17).2 q18).2 q19).2 q20).2 q21).2 q22).1 q23)
                                  · refine And.intro (fun q24 => ?_) (fun q24 => ?_)
                                    · refine f ?_
                                      refine f ?_
                                      refine f ?_
                                      exact ((((((((((((((((((h.2 q1).2 q2).2 q3).2 q4).2 q5).2 q9).2 q13).2 q14).2 q15).2 q16).2 q17).2 q18).2 q19).2 q20).2 q21).2 q22).2 q23).1 q24)
                                    · refine f ?_
                                      refine f ?_
                                      exact ((((((((((((((((((h.2 q1).2 q2).2 q3).2 q4).2 q5).2 q9).2 q13).2 q14).2 q15).2 q16).2 q17).2 q18).2 q19).2 q20).2 q21).2 q22).2 q23).2 q24)
