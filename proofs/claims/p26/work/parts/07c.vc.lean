/-! ===== what each method asks, from its entry and from each loop head on: printed by a program ===== -/
set_option maxHeartbeats 20000000 in
theorem vcX7_set {a0 : Nat} {x1 x2 x3 : Int32} {G : Mm} {Q : dp_Ps} (h : Sp 78 3 [vI x1, vI (jI 0), vI (jI 99999)] G (fun y1 G2 => (y1 = jI 0 → Q (jI (-1002)) G2) ∧ (¬ y1 = jI 0 → Sp 78 3 [vI x2, vI (jI 0), vI (jI 9999)] G2 (fun y5 G6 => (y5 = jI 0 → Q (jI (-1002)) G6) ∧ (¬ y5 = jI 0 → Sp 78 3 [vI x3, vI (jI 0), vI (jI 3)] G6 (fun y9 G10 => (y9 = jI 0 → Q (jI (-1002)) G10) ∧ (¬ y9 = jI 0 → ((G10.1 (G10.2 a0 0) 0) ≤ x1 → Sp 13 2 [vR 2 (G10.2 a0 0), vI (jI 1)] G10 (fun y14 G15 => (y14 = jI 0 → Q (jI (-1003)) G15) ∧ (¬ y14 = jI 0 → Sp 46 2 [vR 4 (G15.2 a0 3), vR 2 (G15.2 a0 0)] G15 (fun y18 G19 => Sp 16 5 [vR 2 (G19.2 a0 0), vI x1, vI x2, vI x3] G19 (fun y21 G22 => Q y21 G22))))) ∧ (¬ (G10.1 (G10.2 a0 0) 0) ≤ x1 → Q (jI (-1004)) G10)))))))) : Sp 55 4 [vR 7 a0, vI x1, vI x2, vI x3] G Q := by
  have f := @fX7_set
  have mo := @Wp_mono
  revert h f mo
  try unfold Sp
  generalize Wp = X
  intro h f mo
  refine f ?_
  refine f ?_
  refine f ?_
  refine f ?_
  refine mo h (fun y1 G2 q3 => ?_)
  refine f ?_
  refine And.intro (fun q4 => ?_) (fun q4 => ?_)
  · refine f ?_
    refine f ?_
    exact (q3.1 q4)
  · refine f ?_
    refine f ?_
    refine f ?_
    refine f ?_
    refine mo (q3.2 q4) (fun y5 G6 q7 => ?_)
    refine f ?_
    refine And.intro (fun q8 => ?_) (fun q8 => ?_)
    · refine f ?_
      refine f ?_
      exact (q7.1 q8)
    · refine f ?_
      refine f ?_
      refine f ?_
      refine f ?_
      refine mo (q7.2 q8) (fun y9 G10 q11 => ?_)
      refine f ?_
      refine And.intro (fun q12 => ?_) (fun q12 => ?_)
      · refine f ?_
        refine f ?_
        refine f ?_
        refine f ?_
        refine f ?_
        refine And.intro (fun q13 => ?_) (fun q13 => ?_)
        · refine f ?_
          refine f ?_
          refine f ?_
          refine f ?_
          refine mo ((q11.2 q12).1 q13) (fun y14 G15 q16 => ?_)
          refine f ?_
          refine And.intro (fun q17 => ?_) (fun q17 => ?_)
          · refine f ?_
            refine f ?_
            refine f ?_
            refine f ?_
            refine f ?_
            refine mo (q16.2 q17) (fun y18 G19 q20 => ?_)
            refine f ?_
            refine f ?_
            refine f ?_
            refine f ?_
            refine f ?_
            refine f ?_
            refine mo q20 (fun y21 G22 q23 => ?_)
            refine f ?_
            exact q23
          · refine f ?_
            refine f ?_
            exact (q16.1 (Classical.not_not.mp q17))
        · refine f ?_
          refine f ?_
          exact ((q11.2 q12).2 q13)
      · refine f ?_
        refine f ?_
        exact (q11.1 (Classical.not_not.mp q12))
set_option maxHeartbeats 20000000 in
theorem vcX7_setAll {a0 : Nat} {G : Mm} {Q : dp_Ps} (h : Sp 6 2 [vR 1 (G.2 a0 4)] G (fun y1 G2 => (y1 = (jI (-1)) → Sp 11 3 [vR 1 (G2.2 a0 4)] G2 (fun y5 G6 => ((G6.1 (G6.2 a0 0) 0) ≤ y5 → Sp 13 2 [vR 2 (G6.2 a0 0), vI (G6.1 (G6.2 a0 4) 5)] G6 (fun y9 G10 => (y9 = jI 0 → Q (jI (-1003)) G10) ∧ (¬ y9 = jI 0 → Sp 46 2 [vR 4 (G10.2 a0 3), vR 2 (G10.2 a0 0)] G10 (fun y13 G14 => Wp 56 74 [some (vR 7 a0), some (vI y1), some (vI (jI 0))] [] G14 Q)))) ∧ (¬ (G6.1 (G6.2 a0 0) 0) ≤ y5 → Q (jI (-1004)) G6))) ∧ (¬ y1 = (jI (-1)) → Q ((jI (-1100)) - y1) G2))) : Sp 56 3 [vR 7 a0] G Q := by
  have f := @fX7_setAll
  have mo := @Wp_mono
  revert h f mo
  try unfold Sp
  generalize Wp = X
  intro h f mo
  refine f ?_
  refine f ?_
  refine f ?_
  refine mo h (fun y1 G2 q3 => ?_)
  refine f ?_
  refine f ?_
  refine f ?_
  refine f ?_
  refine And.intro (fun q4 => ?_) (fun q4 => ?_)
  · refine f ?_
    refine f ?_
    refine f ?_
    refine mo (q3.1 q4) (fun y5 G6 q7 => ?_)
    refine f ?_
    refine f ?_
    refine f ?_
    refine f ?_
    refine And.intro (fun q8 => ?_) (fun q8 => ?_)
    · refine f ?_
      refine f ?_
      refine f ?_
      refine f ?_
      refine f ?_
      refine f ?_
      refine mo (q7.1 q8) (fun y9 G10 q11 => ?_)
      refine f ?_
      refine And.intro (fun q12 => ?_) (fun q12 => ?_)
      · refine f ?_
        refine f ?_
        refine f ?_
        refine f ?_
        refine f ?_
        refine mo (q11.2 q12) (fun y13 G14 q15 => ?_)
        refine f ?_
        refine f ?_
        exact q15
      · refine f ?_
        refine f ?_
        exact (q11.1 (Classical.not_not.mp q12))
    · refine f ?_
      refine f ?_
      exact (q7.2 q8)
  · refine f ?_
    refine f ?_
    refine f ?_
    refine f ?_
    exact (q3.2 q4)
set_option maxHeartbeats 20000000 in
theorem vcX7_setAll_74 {a0 : Nat} {x2 : Int32} {w1 : Option Vl} {G : Mm} {Q : dp_Ps} (h : ((G.1 (G.2 a0 4) 5) ≤ x2 → Q (G.1 (G.2 a0 0) 5) G) ∧ (¬ (G.1 (G.2 a0 4) 5) ≤ x2 → ((jI 30) ≤ x2 → Q (G.1 (G.2 a0 0) 5) G) ∧ (¬ (jI 30) ≤ x2 → vp_in x2 30 ∧ (vp_in x2 30 ∧ (vp_in x2 30 ∧ (Sp 16 5 [vR 2 (G.2 a0 0), vI (G.1 (G.2 (G.2 a0 4) 2) (x2).toNatClampNeg), vI (G.1 (G.2 (G.2 a0 4) 3) (x2).toNatClampNeg), vI (G.1 (G.2 (G.2 a0 4) 4) (x2).toNatClampNeg)] G (fun y3 G4 => Wp 56 74 [some (vR 7 a0), w1, some (vI (x2 + (jI 1)))] [] G4 Q))))))) : Wp 56 74 [some (vR 7 a0), w1, some (vI x2)] [] G Q := by
  have f := @fX7_setAll
  have mo := @Wp_mono
  revert h f mo
  try unfold Sp
  generalize Wp = X
  intro h f mo
  refine f ?_
  refine f ?_
  refine f ?_
  refine f ?_
  refine f ?_
  refine And.intro (fun q1 => ?_) (fun q1 => ?_)
  · refine f ?_
    refine f ?_
    refine f ?_
    refine f ?_
    exact (h.1 q1)
  · refine f ?_
    refine f ?_
    refine f ?_
    refine And.intro (fun q2 => ?_) (fun q2 => ?_)
    · refine f ?_
      refine f ?_
      refine f ?_
      refine f ?_
      exact ((h.2 q1).1 q2)
    · refine f ?_
      refine f ?_
      refine f ?_
      refine f ?_
      refine f ?_
      refine f ?_
      refine f ?_
      refine And.intro ((h.2 q1).2 q2).1 ?_
      refine f ?_
      refine f ?_
      refine f ?_
      refine f ?_
      refine f ?_
      refine And.intro ((h.2 q1).2 q2).2.1 ?_
      refine f ?_
      refine f ?_
      refine f ?_
      refine f ?_
      refine f ?_
      refine And.intro ((h.2 q1).2 q2).2.2.1 ?_
      refine f ?_
      refine mo ((h.2 q1).2 q2).2.2.2 (fun y3 G4 q5 => ?_)
      refine f ?_
      refine f ?_
      refine f ?_
      exact q5
set_option maxHeartbeats 20000000 in
theorem vcX7_cancel {a0 : Nat} {x1 : Int32} {G : Mm} {Q : dp_Ps} (h : Sp 14 3 [vR 2 (G.2 a0 0), vI x1] G (fun y1 G2 => (y1 = (jI (-1)) → Q (jI (-1001)) G2) ∧ (¬ y1 = (jI (-1)) → Sp 46 2 [vR 4 (G2.2 a0 3), vR 2 (G2.2 a0 0)] G2 (fun y5 G6 => Sp 17 2 [vR 2 (G6.2 a0 0), vI y1] G6 (fun y8 G9 => Q (G9.1 (G9.2 a0 0) 5) G9))))) : Sp 57 3 [vR 7 a0, vI x1] G Q := by
  have f := @fX7_cancel
  have mo := @Wp_mono
  revert h f mo
  try unfold Sp
  generalize Wp = X
  intro h f mo
  refine f ?_
  refine f ?_
  refine f ?_
  refine f ?_
  refine mo h (fun y1 G2 q3 => ?_)
  refine f ?_
  refine f ?_
  refine f ?_
  refine f ?_
  refine And.intro (fun q4 => ?_) (fun q4 => ?_)
  · refine f ?_
    refine f ?_
    refine f ?_
    refine f ?_
    refine f ?_
    refine mo (q3.2 q4) (fun y5 G6 q7 => ?_)
    refine f ?_
    refine f ?_
    refine f ?_
    refine f ?_
    refine mo q7 (fun y8 G9 q10 => ?_)
    refine f ?_
    refine f ?_
    refine f ?_
    refine f ?_
    exact q10
  · refine f ?_
    refine f ?_
    exact (q3.1 (Classical.not_not.mp q4))
set_option maxHeartbeats 20000000 in
theorem vcX7_move {a0 : Nat} {x1 x2 : Int32} {G : Mm} {Q : dp_Ps} (h : Sp 14 3 [vR 2 (G.2 a0 0), vI x1] G (fun y1 G2 => (y1 = (jI (-1)) → Q (jI (-1001)) G2) ∧ (¬ y1 = (jI (-1)) → Sp 78 3 [vI x2, vI (jI 0), vI (jI 99999)] G2 (fun y5 G6 => (y5 = jI 0 → Q (jI (-1002)) G6) ∧ (¬ y5 = jI 0 → ((G6.1 (G6.2 a0 0) 0) ≤ x2 → vp_in y1 20 ∧ (((G6.1 (G6.2 (G6.2 (G6.2 a0 0) 8) (y1).toNatClampNeg) 1) = x2 → Q (jI (-1005)) G6) ∧ (¬ (G6.1 (G6.2 (G6.2 (G6.2 a0 0) 8) (y1).toNatClampNeg) 1) = x2 → Sp 46 2 [vR 4 (G6.2 a0 3), vR 2 (G6.2 a0 0)] G6 (fun y11 G12 => Sp 18 4 [vR 2 (G12.2 a0 0), vI y1, vI x2] G12 (fun y14 G15 => Q (G6.1 (G6.2 (G6.2 (G6.2 a0 0) 8) (y1).toNatClampNeg) 1) G15))))) ∧ (¬ (G6.1 (G6.2 a0 0) 0) ≤ x2 → Q (jI (-1004)) G6)))))) : Sp 58 5 [vR 7 a0, vI x1, vI x2] G Q := by
  have f := @fX7_move
  have mo := @Wp_mono
  revert h f mo
  try unfold Sp
  generalize Wp = X
  intro h f mo
  refine f ?_
  refine f ?_
  refine f ?_
  refine f ?_
  refine mo h (fun y1 G2 q3 => ?_)
  refine f ?_
  refine f ?_
  refine f ?_
  refine f ?_
  refine And.intro (fun q4 => ?_) (fun q4 => ?_)
  · refine f ?_
    refine f ?_
    refine f ?_
    refine f ?_
    refine mo (q3.2 q4) (fun y5 G6 q7 => ?_)
    refine f ?_
    refine And.intro (fun q8 => ?_) (fun q8 => ?_)
    · refine f ?_
      refine f ?_
      refine f ?_
      refine f ?_
      refine f ?_
      refine And.intro (fun q9 => ?_) (fun q9 => ?_)
      · refine f ?_
        refine f ?_
        refine f ?_
        refine f ?_
        refine f ?_
        refine And.intro ((q7.2 q8).1 q9).1 ?_
        refine f ?_
        refine f ?_
        refine f ?_
        refine f ?_
        refine f ?_
        refine And.intro (fun q10 => ?_) (fun q10 => ?_)
        · refine f ?_
          refine f ?_
          refine f ?_
          refine f ?_
          refine f ?_
          refine mo (((q7.2 q8).1 q9).2.2 q10) (fun y11 G12 q13 => ?_)
          refine f ?_
          refine f ?_
          refine f ?_
          refine f ?_
          refine f ?_
          refine mo q13 (fun y14 G15 q16 => ?_)
          refine f ?_
          refine f ?_
          exact q16
        · refine f ?_
          refine f ?_
          exact (((q7.2 q8).1 q9).2.1 (Classical.not_not.mp q10))
      · refine f ?_
        refine f ?_
        exact ((q7.2 q8).2 q9)
    · refine f ?_
      refine f ?_
      exact (q7.1 (Classical.not_not.mp q8))
  · refine f ?_
    refine f ?_
    exact (q3.1 (Classical.not_not.mp q4))
set_option maxHeartbeats 20000000 in
theorem vcX7_setComparers {a0 : Nat} {x1 : Int32} {G : Mm} {Q : dp_Ps} (h : Sp 78 3 [vI x1, vI (jI 1), vI (jI 4)] G (fun y1 G2 => (y1 = jI 0 → Q (jI (-1002)) G2) ∧ (¬ y1 = jI 0 → ((G2.1 (G2.2 a0 0) 7) = x1 → Q (jI (-1005)) G2) ∧ (¬ (G2.1 (G2.2 a0 0) 7) = x1 → Sp 46 2 [vR 4 (G2.2 a0 3), vR 2 (G2.2 a0 0)] G2 (fun y6 G7 => Sp 26 3 [vR 2 (G7.2 a0 0), vI x1] G7 (fun y9 G10 => Q (G2.1 (G2.2 a0 0) 7) G10)))))) : Sp 59 3 [vR 7 a0, vI x1] G Q := by
  have f := @fX7_setComparers
  have mo := @Wp_mono
  revert h f mo
  try unfold Sp
  generalize Wp = X
  intro h f mo
  refine f ?_
  refine f ?_
  refine f ?_
  refine f ?_
  refine mo h (fun y1 G2 q3 => ?_)
  refine f ?_
  refine And.intro (fun q4 => ?_) (fun q4 => ?_)
  · refine f ?_
    refine f ?_
    refine f ?_
    refine f ?_
    refine f ?_
    refine f ?_
    refine f ?_
    refine And.intro (fun q5 => ?_) (fun q5 => ?_)
    · refine f ?_
      refine f ?_
      refine f ?_
      refine f ?_
      refine f ?_
      refine mo ((q3.2 q4).2 q5) (fun y6 G7 q8 => ?_)
      refine f ?_
      refine f ?_
      refine f ?_
      refine f ?_
      refine mo q8 (fun y9 G10 q11 => ?_)
      refine f ?_
      refine f ?_
      exact q11
    · refine f ?_
      refine f ?_
      exact ((q3.2 q4).1 (Classical.not_not.mp q5))
  · refine f ?_
    refine f ?_
    exact (q3.1 (Classical.not_not.mp q4))
set_option maxHeartbeats 20000000 in
theorem vcX7_setWindow {a0 : Nat} {x1 : Int32} {G : Mm} {Q : dp_Ps} (h : Sp 78 3 [vI x1, vI (jI 0), vI (jI 20)] G (fun y1 G2 => (y1 = jI 0 → Q (jI (-1002)) G2) ∧ (¬ y1 = jI 0 → ((G2.1 (G2.2 a0 0) 3) = x1 → Q (jI (-1005)) G2) ∧ (¬ (G2.1 (G2.2 a0 0) 3) = x1 → Sp 46 2 [vR 4 (G2.2 a0 3), vR 2 (G2.2 a0 0)] G2 (fun y6 G7 => (∀ G9 : Mm, G9 = wI G7 (G7.2 a0 0) 3 x1 → Sp 31 3 [vR 2 (G9.2 a0 0)] G9 (fun y10 G11 => Q (G2.1 (G2.2 a0 0) 3) G11))))))) : Sp 60 3 [vR 7 a0, vI x1] G Q := by
  have f := @fX7_setWindow
  have mo := @Wp_mono
  revert h f mo
  try unfold Sp
  generalize Wp = X
  intro h f mo
  refine f ?_
  refine f ?_
  refine f ?_
  refine f ?_
  refine mo h (fun y1 G2 q3 => ?_)
  refine f ?_
  refine And.intro (fun q4 => ?_) (fun q4 => ?_)
  · refine f ?_
    refine f ?_
    refine f ?_
    refine f ?_
    refine f ?_
    refine f ?_
    refine f ?_
    refine And.intro (fun q5 => ?_) (fun q5 => ?_)
    · refine f ?_
      refine f ?_
      refine f ?_
      refine f ?_
      refine f ?_
      refine mo ((q3.2 q4).2 q5) (fun y6 G7 q8 => ?_)
      refine f ?_
      refine f ?_
      refine f ?_
      refine f ?_
      refine f ?_
      refine f ?_
      refine f ?_
      refine mo (q8 _ rfl) (fun y10 G11 q12 => ?_)
      refine f ?_
      refine f ?_
      exact q12
    · refine f ?_
      refine f ?_
      exact ((q3.2 q4).1 (Classical.not_not.mp q5))
  · refine f ?_
    refine f ?_
    exact (q3.1 (Classical.not_not.mp q4))
set_option maxHeartbeats 20000000 in
theorem vcX7_setLoading {a0 : Nat} {x1 : Int32} {G : Mm} {Q : dp_Ps} (h : Sp 78 3 [vI x1, vI (jI 0), vI (jI 9)] G (fun y1 G2 => (y1 = jI 0 → Q (jI (-1002)) G2) ∧ (¬ y1 = jI 0 → ((G2.1 (G2.2 a0 0) 4) = x1 → Q (jI (-1005)) G2) ∧ (¬ (G2.1 (G2.2 a0 0) 4) = x1 → Sp 46 2 [vR 4 (G2.2 a0 3), vR 2 (G2.2 a0 0)] G2 (fun y6 G7 => (∀ G9 : Mm, G9 = wI G7 (G7.2 a0 0) 4 x1 → Q (G2.1 (G2.2 a0 0) 4) G9)))))) : Sp 61 3 [vR 7 a0, vI x1] G Q := by
  have f := @fX7_setLoading
  have mo := @Wp_mono
  revert h f mo
  try unfold Sp
  generalize Wp = X
  intro h f mo
  refine f ?_
  refine f ?_
  refine f ?_
  refine f ?_
  refine mo h (fun y1 G2 q3 => ?_)
  refine f ?_
  refine And.intro (fun q4 => ?_) (fun q4 => ?_)
  · refine f ?_
    refine f ?_
    refine f ?_
    refine f ?_
    refine f ?_
    refine f ?_
    refine f ?_
    refine And.intro (fun q5 => ?_) (fun q5 => ?_)
    · refine f ?_
      refine f ?_
      refine f ?_
      refine f ?_
      refine f ?_
      refine mo ((q3.2 q4).2 q5) (fun y6 G7 q8 => ?_)
      refine f ?_
      refine f ?_
      refine f ?_
      refine f ?_
      refine f ?_
      refine f ?_
      exact (q8 _ rfl)
    · refine f ?_
      refine f ?_
      exact ((q3.2 q4).1 (Classical.not_not.mp q5))
  · refine f ?_
    refine f ?_
    exact (q3.1 (Classical.not_not.mp q4))
set_option maxHeartbeats 20000000 in
theorem vcX7_setDrift {a0 : Nat} {x1 : Int32} {G : Mm} {Q : dp_Ps} (h : Sp 78 3 [vI x1, vI (jI (-999)), vI (jI 999)] G (fun y1 G2 => (y1 = jI 0 → Q (jI (-1002)) G2) ∧ (¬ y1 = jI 0 → (x1 = (jI 1) → Q (jI (-1002)) G2) ∧ (¬ x1 = (jI 1) → (x1 = (jI (-1)) → Q (jI (-1002)) G2) ∧ (¬ x1 = (jI (-1)) → ((G2.1 (G2.2 a0 0) 2) = x1 → Q (jI (-1005)) G2) ∧ (¬ (G2.1 (G2.2 a0 0) 2) = x1 → Sp 46 2 [vR 4 (G2.2 a0 3), vR 2 (G2.2 a0 0)] G2 (fun y8 G9 => (∀ G11 : Mm, G11 = wI G9 (G9.2 a0 0) 2 x1 → Q (G2.1 (G2.2 a0 0) 2) G11)))))))) : Sp 62 3 [vR 7 a0, vI x1] G Q := by
  have f := @fX7_setDrift
  have mo := @Wp_mono
  revert h f mo
  try unfold Sp
  generalize Wp = X
  intro h f mo
  refine f ?_
  refine f ?_
  refine f ?_
  refine f ?_
  refine mo h (fun y1 G2 q3 => ?_)
  refine f ?_
  refine And.intro (fun q4 => ?_) (fun q4 => ?_)
  · refine f ?_
    refine f ?_
    exact (q3.1 q4)
  · refine f ?_
    refine f ?_
    refine f ?_
    refine And.intro (fun q5 => ?_) (fun q5 => ?_)
    · refine f ?_
      refine f ?_
      exact ((q3.2 q4).1 q5)
    · refine f ?_
      refine f ?_
      refine f ?_
      refine And.intro (fun q6 => ?_) (fun q6 => ?_)
      · refine f ?_
        refine f ?_
        refine f ?_
        refine f ?_
        refine f ?_
        refine f ?_
        refine f ?_
        refine And.intro (fun q7 => ?_) (fun q7 => ?_)
        · refine f ?_
          refine f ?_
          refine f ?_
          refine f ?_
          refine f ?_
          refine mo ((((q3.2 q4).2 q5).2 q6).2 q7) (fun y8 G9 q10 => ?_)
          refine f ?_
          refine f ?_
          refine f ?_
          refine f ?_
          refine f ?_
          refine f ?_
          exact (q10 _ rfl)
        · refine f ?_
          refine f ?_
          exact ((((q3.2 q4).2 q5).2 q6).1 (Classical.not_not.mp q7))
      · refine f ?_
        refine f ?_
        exact (((q3.2 q4).2 q5).1 (Classical.not_not.mp q6))
set_option maxHeartbeats 20000000 in
theorem vcX7_correct {a0 : Nat} {x1 : Int32} {G : Mm} {Q : dp_Ps} (h : Sp 78 3 [vI x1, vI (jI (-999)), vI (jI 999)] G (fun y1 G2 => (y1 = jI 0 → Q (jI (-1002)) G2) ∧ (¬ y1 = jI 0 → Sp 78 3 [vI ((G2.1 (G2.2 a0 0) 0) + x1), vI (jI 0), vI (jI 99999)] G2 (fun y5 G6 => (y5 = jI 0 → Q (jI (-1004)) G6) ∧ (¬ y5 = jI 0 → (x1 = jI 0 → Q (jI (-1005)) G6) ∧ (¬ x1 = jI 0 → Sp 46 2 [vR 4 (G6.2 a0 3), vR 2 (G6.2 a0 0)] G6 (fun y10 G11 => (∀ G13 : Mm, G13 = wI G11 (G11.2 a0 0) 0 ((G2.1 (G2.2 a0 0) 0) + x1) → Sp 31 3 [vR 2 (G13.2 a0 0)] G13 (fun y14 G15 => Q ((G2.1 (G2.2 a0 0) 0) + x1) G15))))))))) : Sp 63 3 [vR 7 a0, vI x1] G Q := by
  have f := @fX7_correct
  have mo := @Wp_mono
  revert h f mo
  try unfold Sp
  generalize Wp = X
  intro h f mo
  refine f ?_
  refine f ?_
  refine f ?_
  refine f ?_
  refine mo h (fun y1 G2 q3 => ?_)
  refine f ?_
  refine And.intro (fun q4 => ?_) (fun q4 => ?_)
  · refine f ?_
    refine f ?_
    refine f ?_
    refine f ?_
    refine f ?_
    refine f ?_
    refine f ?_
    refine f ?_
    refine f ?_
    refine f ?_
    refine mo (q3.2 q4) (fun y5 G6 q7 => ?_)
    refine f ?_
    refine And.intro (fun q8 => ?_) (fun q8 => ?_)
    · refine f ?_
      refine f ?_
      refine And.intro (fun q9 => ?_) (fun q9 => ?_)
      · refine f ?_
        refine f ?_
        refine f ?_
        refine f ?_
        refine f ?_
        refine mo ((q7.2 q8).2 q9) (fun y10 G11 q12 => ?_)
        refine f ?_
        refine f ?_
        refine f ?_
        refine f ?_
        refine f ?_
        refine f ?_
        refine f ?_
        refine mo (q12 _ rfl) (fun y14 G15 q16 => ?_)
        refine f ?_
        refine f ?_
        exact q16
      · refine f ?_
        refine f ?_
        exact ((q7.2 q8).1 (Classical.not_not.mp q9))
    · refine f ?_
      refine f ?_
      exact (q7.1 (Classical.not_not.mp q8))
  · refine f ?_
    refine f ?_
    exact (q3.1 (Classical.not_not.mp q4))
set_option maxHeartbeats 20000000 in
theorem vcX7_run {a0 : Nat} {x1 : Int32} {G : Mm} {Q : dp_Ps} (h : Sp 78 3 [vI x1, vI (jI 1), vI (jI 1000)] G (fun y1 G2 => (y1 = jI 0 → Q (jI (-1002)) G2) ∧ (¬ y1 = jI 0 → (((G2.1 (G2.2 a0 0) 0) + ((jI 2) * x1)) ≤ (jI 99999) → Sp 46 2 [vR 4 (G2.2 a0 3), vR 2 (G2.2 a0 0)] G2 (fun y6 G7 => Wp 64 59 [some (vR 7 a0), some (vI x1), some (vI (G7.1 (G7.2 (G7.2 a0 0) 10) 0)), some (vI (jI 0))] [] G7 Q)) ∧ (¬ ((G2.1 (G2.2 a0 0) 0) + ((jI 2) * x1)) ≤ (jI 99999) → Q (jI (-1003)) G2)))) : Sp 64 4 [vR 7 a0, vI x1] G Q := by
  have f := @fX7_run
  have mo := @Wp_mono
  revert h f mo
  try unfold Sp
  generalize Wp = X
  intro h f mo
  refine f ?_
  refine f ?_
  refine f ?_
  refine f ?_
  refine mo h (fun y1 G2 q3 => ?_)
  refine f ?_
  refine And.intro (fun q4 => ?_) (fun q4 => ?_)
  · refine f ?_
    refine f ?_
    refine f ?_
    refine f ?_
    refine f ?_
    refine f ?_
    refine f ?_
    refine f ?_
    refine f ?_
    refine And.intro (fun q5 => ?_) (fun q5 => ?_)
    · refine f ?_
      refine f ?_
      refine f ?_
      refine f ?_
      refine f ?_
      refine mo ((q3.2 q4).1 q5) (fun y6 G7 q8 => ?_)
      refine f ?_
      refine f ?_
      refine f ?_
      refine f ?_
      refine f ?_
      refine f ?_
      refine f ?_
      exact q8
    · refine f ?_
      refine f ?_
      exact ((q3.2 q4).2 q5)
  · refine f ?_
    refine f ?_
    exact (q3.1 (Classical.not_not.mp q4))
set_option maxHeartbeats 20000000 in
theorem vcX7_run_59 {a0 : Nat} {x1 x2 x3 : Int32} {G : Mm} {Q : dp_Ps} (h : (x1 ≤ x3 → Q ((G.1 (G.2 (G.2 a0 0) 10) 0) - x2) G) ∧ (¬ x1 ≤ x3 → Sp 22 3 [vR 2 (G.2 a0 0)] G (fun y2 G3 => Wp 64 59 [some (vR 7 a0), some (vI x1), some (vI x2), some (vI (x3 + (jI 1)))] [] G3 Q))) : Wp 64 59 [some (vR 7 a0), some (vI x1), some (vI x2), some (vI x3)] [] G Q := by
  have f := @fX7_run
  have mo := @Wp_mono
  revert h f mo
  try unfold Sp
  generalize Wp = X
  intro h f mo
  refine f ?_
  refine f ?_
  refine f ?_
  refine And.intro (fun q1 => ?_) (fun q1 => ?_)
  · refine f ?_
    refine f ?_
    refine f ?_
    refine f ?_
    refine f ?_
    refine f ?_
    refine f ?_
    exact (h.1 q1)
  · refine f ?_
    refine f ?_
    refine f ?_
    refine mo (h.2 q1) (fun y2 G3 q4 => ?_)
    refine f ?_
    refine f ?_
    exact q4
set_option maxHeartbeats 20000000 in
theorem vcX7_type {a0 : Nat} {x1 : Int32} {G : Mm} {Q : dp_Ps} (h : Sp 5 2 [vR 1 (G.2 a0 4), vI x1] G (fun y1 G2 => (y1 = jI 0 → Q (jI (-1003)) G2) ∧ (¬ y1 = jI 0 → Q (G2.1 (G2.2 a0 4) 1) G2))) : Sp 65 2 [vR 7 a0, vI x1] G Q := by
  have f := @fX7_type
  have mo := @Wp_mono
  revert h f mo
  try unfold Sp
  generalize Wp = X
  intro h f mo
  refine f ?_
  refine f ?_
  refine f ?_
  refine f ?_
  refine mo h (fun y1 G2 q3 => ?_)
  refine f ?_
  refine And.intro (fun q4 => ?_) (fun q4 => ?_)
  · refine f ?_
    refine f ?_
    exact (q3.1 q4)
  · refine f ?_
    refine f ?_
    refine f ?_
    refine f ?_
    refine f ?_
    exact (q3.2 q4)
set_option maxHeartbeats 20000000 in
theorem vcX7_clearText {a0 : Nat} {G : Mm} {Q : dp_Ps} (h : (∀ G1 : Mm, G1 = wI G (G.2 a0 4) 1 (jI 0) → Q (G.1 (G.2 a0 4) 1) G1)) : Sp 66 2 [vR 7 a0] G Q := by
  have f := @fX7_clearText
  have mo := @Wp_mono
  revert h f mo
  try unfold Sp
  generalize Wp = X
  intro h f mo
  refine f ?_
  refine f ?_
  refine f ?_
  refine f ?_
  refine f ?_
  refine f ?_
  refine f ?_
  refine f ?_
  refine f ?_
  refine f ?_
  exact (h _ rfl)
set_option maxHeartbeats 20000000 in
theorem vcX7_undo {a0 : Nat} {G : Mm} {Q : dp_Ps} (h : ((G.1 (G.2 a0 3) 1) = jI 0 → Q (jI (-1005)) G) ∧ (¬ (G.1 (G.2 a0 3) 1) = jI 0 → Sp 48 2 [vR 4 (G.2 a0 3), vR 2 (G.2 a0 0)] G (fun y2 G3 => Q (G3.1 (G3.2 a0 3) 1) G3))) : Sp 67 1 [vR 7 a0] G Q := by
  have f := @fX7_undo
  have mo := @Wp_mono
  revert h f mo
  try unfold Sp
  generalize Wp = X
  intro h f mo
  refine f ?_
  refine f ?_
  refine f ?_
  refine f ?_
  refine And.intro (fun q1 => ?_) (fun q1 => ?_)
  · refine f ?_
    refine f ?_
    refine f ?_
    refine f ?_
    refine f ?_
    refine mo (h.2 q1) (fun y2 G3 q4 => ?_)
    refine f ?_
    refine f ?_
    refine f ?_
    refine f ?_
    exact q4
  · refine f ?_
    refine f ?_
    exact (h.1 (Classical.not_not.mp q1))
set_option maxHeartbeats 20000000 in
theorem vcX7_keep {a0 : Nat} {G : Mm} {Q : dp_Ps} (h : Sp 12 3 [vR 2 (G.2 a0 2), vR 2 (G.2 a0 0)] G (fun y1 G2 => (∀ G4 : Mm, G4 = wI G2 a0 5 (jI 1) → Q (G4.1 (G4.2 a0 0) 0) G4))) : Sp 68 1 [vR 7 a0] G Q := by
  have f := @fX7_keep
  have mo := @Wp_mono
  revert h f mo
  try unfold Sp
  generalize Wp = X
  intro h f mo
  refine f ?_
  refine f ?_
  refine f ?_
  refine f ?_
  refine f ?_
  refine mo h (fun y1 G2 q3 => ?_)
  refine f ?_
  refine f ?_
  refine f ?_
  refine And.intro (Or.inr rfl) ?_
  refine f ?_
  refine f ?_
  refine f ?_
  refine f ?_
  exact (q3 _ rfl)
set_option maxHeartbeats 20000000 in
theorem vcX7_restore {a0 : Nat} {G : Mm} {Q : dp_Ps} (h : ((G.1 a0 5) = jI 0 → Q (jI (-1005)) G) ∧ (¬ (G.1 a0 5) = jI 0 → Sp 46 2 [vR 4 (G.2 a0 3), vR 2 (G.2 a0 0)] G (fun y2 G3 => Sp 12 3 [vR 2 (G3.2 a0 0), vR 2 (G3.2 a0 2)] G3 (fun y5 G6 => Q (G6.1 (G6.2 a0 0) 0) G6)))) : Sp 69 1 [vR 7 a0] G Q := by
  have f := @fX7_restore
  have mo := @Wp_mono
  revert h f mo
  try unfold Sp
  generalize Wp = X
  intro h f mo
  refine f ?_
  refine f ?_
  refine f ?_
  refine And.intro (fun q1 => ?_) (fun q1 => ?_)
  · refine f ?_
    refine f ?_
    refine f ?_
    refine f ?_
    refine f ?_
    refine mo (h.2 q1) (fun y2 G3 q4 => ?_)
    refine f ?_
    refine f ?_
    refine f ?_
    refine f ?_
    refine f ?_
    refine mo q4 (fun y5 G6 q7 => ?_)
    refine f ?_
    refine f ?_
    refine f ?_
    refine f ?_
    exact q7
  · refine f ?_
    refine f ?_
    exact (h.1 (Classical.not_not.mp q1))
set_option maxHeartbeats 20000000 in
theorem vcX7_alarm {a0 : Nat} {x1 x2 : Int32} {G : Mm} {Q : dp_Ps} (h : Sp 14 3 [vR 2 (G.2 a0 0), vI x1] G (fun y1 G2 => (y1 = (jI (-1)) → Q (jI (-1001)) G2) ∧ (¬ y1 = (jI (-1)) → vp_in y1 20 ∧ (((x2).toInt = 0 → Q (G2.1 (G2.2 (G2.2 (G2.2 a0 0) 8) (y1).toNatClampNeg) 1) G2) ∧ (¬ (x2).toInt = 0 → ((x2).toInt = 1 → Q (G2.1 (G2.2 (G2.2 (G2.2 a0 0) 8) (y1).toNatClampNeg) 2) G2) ∧ (¬ (x2).toInt = 1 → ((x2).toInt = 2 → Q (G2.1 (G2.2 (G2.2 (G2.2 a0 0) 8) (y1).toNatClampNeg) 3) G2) ∧ (¬ (x2).toInt = 2 → ((x2).toInt = 3 → Q (G2.1 (G2.2 (G2.2 (G2.2 a0 0) 8) (y1).toNatClampNeg) 4) G2) ∧ (¬ (x2).toInt = 3 → ((x2).toInt = 4 → Q y1 G2) ∧ (¬ (x2).toInt = 4 → ((x2).toInt = 5 → Q (G2.1 (G2.2 (G2.2 (G2.2 a0 0) 8) (y1).toNatClampNeg) 5) G2) ∧ (¬ (x2).toInt = 5 → ((x2).toInt = 6 → Q (G2.1 (G2.2 (G2.2 (G2.2 a0 0) 8) (y1).toNatClampNeg) 6) G2) ∧ (¬ (x2).toInt = 6 → Q (jI (-1002)) G2))))))))))) : Sp 70 5 [vR 7 a0, vI x1, vI x2] G Q := by
  have f := @fX7_alarm
  have mo := @Wp_mono
  revert h f mo
  try unfold Sp
  generalize Wp = X
  intro h f mo
  refine f ?_
  refine f ?_
  refine f ?_
  refine f ?_
  refine mo h (fun y1 G2 q3 => ?_)
  refine f ?_
  refine f ?_
  refine f ?_
  refine f ?_
  refine And.intro (fun q4 => ?_) (fun q4 => ?_)
  · refine f ?_
    refine f ?_
    refine f ?_
    refine f ?_
    refine f ?_
    refine And.intro (q3.2 q4).1 ?_
    refine f ?_
    refine f ?_
    refine f ?_
    refine And.intro (fun q5 => ?_) (fun q5 => ?_)
    · refine f ?_
      refine f ?_
      refine f ?_
      exact ((q3.2 q4).2.1 q5)
    · refine And.intro (fun q6 => ?_) (fun q6 => ?_)
      · refine f ?_
        refine f ?_
        refine f ?_
        exact (((q3.2 q4).2.2 q5).1 q6)
      · refine And.intro (fun q7 => ?_) (fun q7 => ?_)
        · refine f ?_
          refine f ?_
          refine f ?_
          exact ((((q3.2 q4).2.2 q5).2 q6).1 q7)
        · refine And.intro (fun q8 => ?_) (fun q8 => ?_)
          · refine f ?_
            refine f ?_
            refine f ?_
            exact (((((q3.2 q4).2.2 q5).2 q6).2 q7).1 q8)
          · refine And.intro (fun q9 => ?_) (fun q9 => ?_)
            · refine f ?_
              refine f ?_
              exact ((((((q3.2 q4).2.2 q5).2 q6).2 q7).2 q8).1 q9)
            · refine And.intro (fun q10 => ?_) (fun q10 => ?_)
              · refine f ?_
                refine f ?_
                refine f ?_
                exact (((((((q3.2 q4).2.2 q5).2 q6).2 q7).2 q8).2 q9).1 q10)
              · refine And.intro (fun q11 => ?_) (fun q11 => ?_)
                · refine f ?_
                  refine f ?_
                  refine f ?_
                  exact ((((((((q3.2 q4).2.2 q5).2 q6).2 q7).2 q8).2 q9).2 q10).1 q11)
                · refine f ?_
                  refine f ?_
                  exact ((((((((q3.2 q4).2.2 q5).2 q6).2 q7).2 q8).2 q9).2 q10).2 q11)
  · refine f ?_
    refine f ?_
    exact (q3.1 (Classical.not_not.mp q4))
set_option maxHeartbeats 20000000 in
theorem vcX7_comparer {a0 : Nat} {x1 x2 : Int32} {G : Mm} {Q : dp_Ps} (h : Sp 78 3 [vI x1, vI (jI 0), vI ((G.1 (G.2 a0 0) 7) - (jI 1))] G (fun y1 G2 => (y1 = jI 0 → Q (jI (-1001)) G2) ∧ (¬ y1 = jI 0 → vp_in x1 4 ∧ (((x2).toInt = 0 → Sp 39 1 [vR 3 (G2.2 (G2.2 (G2.2 a0 0) 9) (x1).toNatClampNeg)] G2 (fun y6 G7 => (y6 = jI 0 → Q (G7.1 (G2.2 (G2.2 (G2.2 a0 0) 9) (x1).toNatClampNeg) 2) G7) ∧ (¬ y6 = jI 0 → Q (jI (-1005)) G7))) ∧ (¬ (x2).toInt = 0 → ((x2).toInt = 1 → Q (G2.1 (G2.2 (G2.2 (G2.2 a0 0) 9) (x1).toNatClampNeg) 0) G2) ∧ (¬ (x2).toInt = 1 → ((x2).toInt = 2 → Q (G2.1 (G2.2 (G2.2 (G2.2 a0 0) 9) (x1).toNatClampNeg) 3) G2) ∧ (¬ (x2).toInt = 2 → ((x2).toInt = 3 → Sp 30 3 [vR 2 (G2.2 a0 0), vI x1] G2 (fun y13 G14 => Q y13 G14)) ∧ (¬ (x2).toInt = 3 → Q (jI (-1002)) G2)))))))) : Sp 71 4 [vR 7 a0, vI x1, vI x2] G Q := by
  have f := @fX7_comparer
  have mo := @Wp_mono
  revert h f mo
  try unfold Sp
  generalize Wp = X
  intro h f mo
  refine f ?_
  refine f ?_
  refine f ?_
  refine f ?_
  refine f ?_
  refine f ?_
  refine f ?_
  refine f ?_
  refine mo h (fun y1 G2 q3 => ?_)
  refine f ?_
  refine And.intro (fun q4 => ?_) (fun q4 => ?_)
  · refine f ?_
    refine f ?_
    refine f ?_
    refine f ?_
    refine f ?_
    refine And.intro (q3.2 q4).1 ?_
    refine f ?_
    refine f ?_
    refine f ?_
    refine And.intro (fun q5 => ?_) (fun q5 => ?_)
    · refine f ?_
      refine f ?_
      refine mo ((q3.2 q4).2.1 q5) (fun y6 G7 q8 => ?_)
      refine f ?_
      refine And.intro (fun q9 => ?_) (fun q9 => ?_)
      · refine f ?_
        refine f ?_
        refine f ?_
        exact (q8.1 q9)
      · refine f ?_
        refine f ?_
        refine f ?_
        exact (q8.2 q9)
    · refine And.intro (fun q10 => ?_) (fun q10 => ?_)
      · refine f ?_
        refine f ?_
        refine f ?_
        exact (((q3.2 q4).2.2 q5).1 q10)
      · refine And.intro (fun q11 => ?_) (fun q11 => ?_)
        · refine f ?_
          refine f ?_
          refine f ?_
          exact ((((q3.2 q4).2.2 q5).2 q10).1 q11)
        · refine And.intro (fun q12 => ?_) (fun q12 => ?_)
          · refine f ?_
            refine f ?_
            refine f ?_
            refine f ?_
            refine mo (((((q3.2 q4).2.2 q5).2 q10).2 q11).1 q12) (fun y13 G14 q15 => ?_)
            refine f ?_
            exact q15
          · refine f ?_
            refine f ?_
            exact (((((q3.2 q4).2.2 q5).2 q10).2 q11).2 q12)
  · refine f ?_
    refine f ?_
    exact (q3.1 (Classical.not_not.mp q4))
set_option maxHeartbeats 20000000 in
theorem vcX7_at {a0 : Nat} {x1 : Int32} {G : Mm} {Q : dp_Ps} (h : (jI 0 ≤ x1 → ((G.1 (G.2 a0 0) 5) ≤ x1 → Q (jI (-1005)) G) ∧ (¬ (G.1 (G.2 a0 0) 5) ≤ x1 → vp_in x1 20 ∧ (Q (G.1 (G.2 (G.2 (G.2 a0 0) 8) (x1).toNatClampNeg) 0) G))) ∧ (¬ jI 0 ≤ x1 → Q (jI (-1002)) G)) : Sp 72 2 [vR 7 a0, vI x1] G Q := by
  have f := @fX7_at
  have mo := @Wp_mono
  revert h f mo
  try unfold Sp
  generalize Wp = X
  intro h f mo
  refine f ?_
  refine f ?_
  refine And.intro (fun q1 => ?_) (fun q1 => ?_)
  · refine f ?_
    refine f ?_
    refine f ?_
    refine f ?_
    refine f ?_
    refine And.intro (fun q2 => ?_) (fun q2 => ?_)
    · refine f ?_
      refine f ?_
      exact ((h.1 q1).1 q2)
    · refine f ?_
      refine f ?_
      refine f ?_
      refine f ?_
      refine f ?_
      refine And.intro ((h.1 q1).2 q2).1 ?_
      refine f ?_
      refine f ?_
      refine f ?_
      exact ((h.1 q1).2 q2).2
  · refine f ?_
    refine f ?_
    exact (h.2 q1)
set_option maxHeartbeats 20000000 in
theorem vcX7_ringsIn {a0 : Nat} {x1 : Int32} {G : Mm} {Q : dp_Ps} (h : Sp 14 3 [vR 2 (G.2 a0 0), vI x1] G (fun y1 G2 => (y1 = (jI (-1)) → Q (jI (-1001)) G2) ∧ (¬ y1 = (jI (-1)) → vp_in y1 20 ∧ (Sp 12 3 [vR 2 (G2.2 a0 1), vR 2 (G2.2 a0 0)] G2 (fun y5 G6 => Wp 73 45 [some (vR 7 a0), some (vI x1), some (vI y1), some (vI (G2.1 (G2.2 (G2.2 (G2.2 a0 0) 8) (y1).toNatClampNeg) 5)), some (vI (jI 1))] [] G6 Q))))) : Sp 73 5 [vR 7 a0, vI x1] G Q := by
  have f := @fX7_ringsIn
  have mo := @Wp_mono
  revert h f mo
  try unfold Sp
  generalize Wp = X
  intro h f mo
  refine f ?_
  refine f ?_
  refine f ?_
  refine f ?_
  refine mo h (fun y1 G2 q3 => ?_)
  refine f ?_
  refine f ?_
  refine f ?_
  refine f ?_
  refine And.intro (fun q4 => ?_) (fun q4 => ?_)
  · refine f ?_
    refine f ?_
    refine f ?_
    refine f ?_
    refine f ?_
    refine And.intro (q3.2 q4).1 ?_
    refine f ?_
    refine f ?_
    refine f ?_
    refine f ?_
    refine f ?_
    refine f ?_
    refine f ?_
    refine mo (q3.2 q4).2 (fun y5 G6 q7 => ?_)
    refine f ?_
    refine f ?_
    exact q7
  · refine f ?_
    refine f ?_
    exact (q3.1 (Classical.not_not.mp q4))
set_option maxHeartbeats 20000000 in
theorem vcX7_ringsIn_45 {a0 : Nat} {x1 x3 x4 : Int32} {w2 : Option Vl} {G : Mm} {Q : dp_Ps} (h : ((jI 1000) < x4 → Q (jI (-1005)) G) ∧ (¬ (jI 1000) < x4 → Sp 22 3 [vR 2 (G.2 a0 1)] G (fun y2 G3 => Sp 15 4 [vR 2 (G3.2 a0 1), vI x1, vI x3] G3 (fun y5 G6 => (y5 = jI 0 → Wp 73 45 [some (vR 7 a0), some (vI x1), w2, some (vI x3), some (vI (x4 + (jI 1)))] [] G6 Q) ∧ (¬ y5 = jI 0 → Q x4 G6))))) : Wp 73 45 [some (vR 7 a0), some (vI x1), w2, some (vI x3), some (vI x4)] [] G Q := by
  have f := @fX7_ringsIn
  have mo := @Wp_mono
  revert h f mo
  try unfold Sp
  generalize Wp = X
  intro h f mo
  refine f ?_
  refine f ?_
  refine f ?_
  refine And.intro (fun q1 => ?_) (fun q1 => ?_)
  · refine f ?_
    refine f ?_
    exact (h.1 q1)
  · refine f ?_
    refine f ?_
    refine f ?_
    refine mo (h.2 q1) (fun y2 G3 q4 => ?_)
    refine f ?_
    refine f ?_
    refine f ?_
    refine f ?_
    refine f ?_
    refine mo q4 (fun y5 G6 q7 => ?_)
    refine f ?_
    refine And.intro (fun q8 => ?_) (fun q8 => ?_)
    · refine f ?_
      refine f ?_
      exact (q7.1 q8)
    · refine f ?_
      refine f ?_
      exact (q7.2 q8)
set_option maxHeartbeats 20000000 in
theorem vcX7_ifComparers {a0 : Nat} {x1 x2 x3 : Int32} {G : Mm} {Q : dp_Ps} (h : Sp 78 3 [vI x1, vI (jI 1), vI (jI 4)] G (fun y1 G2 => (y1 = jI 0 → Q (jI (-1002)) G2) ∧ (¬ y1 = jI 0 → Sp 78 3 [vI x2, vI (jI 1), vI (jI 500)] G2 (fun y5 G6 => (y5 = jI 0 → Q (jI (-1002)) G6) ∧ (¬ y5 = jI 0 → Sp 78 3 [vI x3, vI (jI 0), vI (jI 3)] G6 (fun y9 G10 => (y9 = jI 0 → Q (jI (-1002)) G10) ∧ (¬ y9 = jI 0 → Sp 79 4 [vR 7 a0, vI x1, vI x2] G10 (fun y13 G14 => ((x3).toInt = 0 → Q (G14.1 (G14.2 (G14.2 a0 1) 10) 0) G14) ∧ (¬ (x3).toInt = 0 → ((x3).toInt = 1 → Q (G14.1 (G14.2 (G14.2 a0 1) 10) 1) G14) ∧ (¬ (x3).toInt = 1 → ((x3).toInt = 2 → Q (G14.1 (G14.2 (G14.2 a0 1) 10) 2) G14) ∧ (¬ (x3).toInt = 2 → Q (G14.1 (G14.2 (G14.2 a0 1) 10) 3) G14))))))))))) : Sp 74 4 [vR 7 a0, vI x1, vI x2, vI x3] G Q := by
  have f := @fX7_ifComparers
  have mo := @Wp_mono
  revert h f mo
  try unfold Sp
  generalize Wp = X
  intro h f mo
  refine f ?_
  refine f ?_
  refine f ?_
  refine f ?_
  refine mo h (fun y1 G2 q3 => ?_)
  refine f ?_
  refine And.intro (fun q4 => ?_) (fun q4 => ?_)
  · refine f ?_
    refine f ?_
    exact (q3.1 q4)
  · refine f ?_
    refine f ?_
    refine f ?_
    refine f ?_
    refine mo (q3.2 q4) (fun y5 G6 q7 => ?_)
    refine f ?_
    refine And.intro (fun q8 => ?_) (fun q8 => ?_)
    · refine f ?_
      refine f ?_
      exact (q7.1 q8)
    · refine f ?_
      refine f ?_
      refine f ?_
      refine f ?_
      refine mo (q7.2 q8) (fun y9 G10 q11 => ?_)
      refine f ?_
      refine And.intro (fun q12 => ?_) (fun q12 => ?_)
      · refine f ?_
        refine f ?_
        refine f ?_
        refine f ?_
        refine mo (q11.2 q12) (fun y13 G14 q15 => ?_)
        refine f ?_
        refine f ?_
        refine And.intro (fun q16 => ?_) (fun q16 => ?_)
        · refine f ?_
          refine f ?_
          refine f ?_
          refine f ?_
          refine f ?_
          exact (q15.1 q16)
        · refine And.intro (fun q17 => ?_) (fun q17 => ?_)
          · refine f ?_
            refine f ?_
            refine f ?_
            refine f ?_
            refine f ?_
            exact ((q15.2 q16).1 q17)
          · refine And.intro (fun q18 => ?_) (fun q18 => ?_)
            · refine f ?_
              refine f ?_
              refine f ?_
              refine f ?_
              refine f ?_
              exact (((q15.2 q16).2 q17).1 q18)
            · refine f ?_
              refine f ?_
              refine f ?_
              refine f ?_
              refine f ?_
              exact (((q15.2 q16).2 q17).2 q18)
      · refine f ?_
        refine f ?_
        exact (q11.1 (Classical.not_not.mp q12))
set_option maxHeartbeats 20000000 in
theorem vcX7_fewest {a0 : Nat} {x1 : Int32} {G : Mm} {Q : dp_Ps} (h : Sp 78 3 [vI x1, vI (jI 1), vI (jI 500)] G (fun y1 G2 => (y1 = jI 0 → Q (jI (-1002)) G2) ∧ (¬ y1 = jI 0 → Wp 75 22 [some (vR 7 a0), some (vI x1), some (vI (jI 0)), some (vI (jI 0)), some (vI (jI 1))] [] G2 Q))) : Sp 75 5 [vR 7 a0, vI x1] G Q := by
  have f := @fX7_fewest
  have mo := @Wp_mono
  revert h f mo
  try unfold Sp
  generalize Wp = X
  intro h f mo
  refine f ?_
  refine f ?_
  refine f ?_
  refine f ?_
  refine mo h (fun y1 G2 q3 => ?_)
  refine f ?_
  refine And.intro (fun q4 => ?_) (fun q4 => ?_)
  · refine f ?_
    refine f ?_
    refine f ?_
    refine f ?_
    refine f ?_
    refine f ?_
    exact (q3.2 q4)
  · refine f ?_
    refine f ?_
    exact (q3.1 (Classical.not_not.mp q4))
set_option maxHeartbeats 20000000 in
theorem vcX7_fewest_22 {a0 : Nat} {x1 x2 x3 x4 : Int32} {G : Mm} {Q : dp_Ps} (h : ((jI 4) < x4 → Q x2 G) ∧ (¬ (jI 4) < x4 → Sp 79 4 [vR 7 a0, vI x4, vI x1] G (fun y2 G3 => (x2 = jI 0 → Wp 75 22 [some (vR 7 a0), some (vI x1), some (vI x4), some (vI (G3.1 (G3.2 (G3.2 a0 1) 10) 1)), some (vI (x4 + (jI 1)))] [] G3 Q) ∧ (¬ x2 = jI 0 → (x3 ≤ (G3.1 (G3.2 (G3.2 a0 1) 10) 1) → Wp 75 22 [some (vR 7 a0), some (vI x1), some (vI x2), some (vI x3), some (vI (x4 + (jI 1)))] [] G3 Q) ∧ (¬ x3 ≤ (G3.1 (G3.2 (G3.2 a0 1) 10) 1) → Wp 75 22 [some (vR 7 a0), some (vI x1), some (vI x4), some (vI (G3.1 (G3.2 (G3.2 a0 1) 10) 1)), some (vI (x4 + (jI 1)))] [] G3 Q))))) : Wp 75 22 [some (vR 7 a0), some (vI x1), some (vI x2), some (vI x3), some (vI x4)] [] G Q := by
  have f := @fX7_fewest
  have mo := @Wp_mono
  revert h f mo
  try unfold Sp
  generalize Wp = X
  intro h f mo
  refine f ?_
  refine f ?_
  refine f ?_
  refine And.intro (fun q1 => ?_) (fun q1 => ?_)
  · refine f ?_
    refine f ?_
    exact (h.1 q1)
  · refine f ?_
    refine f ?_
    refine f ?_
    refine f ?_
    refine mo (h.2 q1) (fun y2 G3 q4 => ?_)
    refine f ?_
    refine f ?_
    refine And.intro (fun q5 => ?_) (fun q5 => ?_)
    · refine f ?_
      refine f ?_
      refine f ?_
      refine f ?_
      refine f ?_
      refine f ?_
      refine f ?_
      refine f ?_
      refine f ?_
      exact (q4.1 q5)
    · refine f ?_
      refine f ?_
      refine f ?_
      refine f ?_
      refine f ?_
      refine f ?_
      refine And.intro (fun q6 => ?_) (fun q6 => ?_)
      · refine f ?_
        refine f ?_
        exact ((q4.2 q5).1 q6)
      · refine f ?_
        refine f ?_
        refine f ?_
        refine f ?_
        refine f ?_
        refine f ?_
        refine f ?_
        refine f ?_
        refine f ?_
        exact ((q4.2 q5).2 q6)
set_option maxHeartbeats 20000000 in
theorem vcX7_ring {a0 : Nat} {x1 x2 : Int32} {G : Mm} {Q : dp_Ps} (h : Sp 51 3 [vR 5 (G.2 (G.2 a0 0) 11), vI x1, vI x2] G (fun y1 G2 => Q y1 G2)) : Sp 76 3 [vR 7 a0, vI x1, vI x2] G Q := by
  have f := @fX7_ring
  have mo := @Wp_mono
  revert h f mo
  try unfold Sp
  generalize Wp = X
  intro h f mo
  refine f ?_
  refine f ?_
  refine f ?_
  refine f ?_
  refine f ?_
  refine f ?_
  refine mo h (fun y1 G2 q3 => ?_)
  refine f ?_
  exact q3
set_option maxHeartbeats 20000000 in
theorem vcX7_count {a0 : Nat} {x1 : Int32} {G : Mm} {Q : dp_Ps} (h : ((x1).toInt = 0 → Q (G.1 (G.2 a0 0) 0) G) ∧ (¬ (x1).toInt = 0 → ((x1).toInt = 1 → Q (G.1 (G.2 a0 0) 1) G) ∧ (¬ (x1).toInt = 1 → ((x1).toInt = 2 → Q (G.1 (G.2 a0 0) 5) G) ∧ (¬ (x1).toInt = 2 → ((x1).toInt = 3 → Q (G.1 (G.2 a0 0) 6) G) ∧ (¬ (x1).toInt = 3 → ((x1).toInt = 4 → Sp 21 3 [vR 2 (G.2 a0 0)] G (fun y6 G7 => Q y6 G7)) ∧ (¬ (x1).toInt = 4 → ((x1).toInt = 5 → Sp 29 3 [vR 2 (G.2 a0 0)] G (fun y10 G11 => Q y10 G11)) ∧ (¬ (x1).toInt = 5 → ((x1).toInt = 6 → Q (G.1 (G.2 (G.2 a0 0) 10) 0) G) ∧ (¬ (x1).toInt = 6 → ((x1).toInt = 7 → Q (G.1 (G.2 (G.2 a0 0) 10) 1) G) ∧ (¬ (x1).toInt = 7 → ((x1).toInt = 8 → Q (G.1 (G.2 (G.2 a0 0) 10) 2) G) ∧ (¬ (x1).toInt = 8 → ((x1).toInt = 9 → Q (G.1 (G.2 (G.2 a0 0) 10) 3) G) ∧ (¬ (x1).toInt = 9 → ((x1).toInt = 10 → Q (G.1 (G.2 (G.2 a0 0) 10) 4) G) ∧ (¬ (x1).toInt = 10 → ((x1).toInt = 11 → Q (G.1 (G.2 (G.2 a0 0) 10) 5) G) ∧ (¬ (x1).toInt = 11 → ((x1).toInt = 12 → Q (G.1 (G.2 a0 0) 7) G) ∧ (¬ (x1).toInt = 12 → ((x1).toInt = 13 → Q (G.1 (G.2 a0 0) 3) G) ∧ (¬ (x1).toInt = 13 → ((x1).toInt = 14 → Q (G.1 (G.2 a0 0) 4) G) ∧ (¬ (x1).toInt = 14 → ((x1).toInt = 15 → Q (G.1 (G.2 a0 0) 2) G) ∧ (¬ (x1).toInt = 15 → ((x1).toInt = 16 → Q (G.1 (G.2 a0 3) 1) G) ∧ (¬ (x1).toInt = 16 → ((x1).toInt = 17 → Q (G.1 (G.2 a0 4) 1) G) ∧ (¬ (x1).toInt = 17 → Q (jI (-1002)) G))))))))))))))))))) : Sp 77 2 [vR 7 a0, vI x1] G Q := by
  have f := @fX7_count
  have mo := @Wp_mono
  revert h f mo
  try unfold Sp
  generalize Wp = X
  intro h f mo
  refine f ?_
  refine f ?_
  refine And.intro (fun q1 => ?_) (fun q1 => ?_)
  · refine f ?_
    refine f ?_
    refine f ?_
    refine f ?_
    exact (h.1 q1)
  · refine And.intro (fun q2 => ?_) (fun q2 => ?_)
    · refine f ?_
      refine f ?_
      refine f ?_
      refine f ?_
      exact ((h.2 q1).1 q2)
    · refine And.intro (fun q3 => ?_) (fun q3 => ?_)
      · refine f ?_
        refine f ?_
        refine f ?_
        refine f ?_
        exact (((h.2 q1).2 q2).1 q3)
      · refine And.intro (fun q4 => ?_) (fun q4 => ?_)
        · refine f ?_
          refine f ?_
          refine f ?_
          refine f ?_
          exact ((((h.2 q1).2 q2).2 q3).1 q4)
        · refine And.intro (fun q5 => ?_) (fun q5 => ?_)
          · refine f ?_
            refine f ?_
            refine f ?_
            refine mo (((((h.2 q1).2 q2).2 q3).2 q4).1 q5) (fun y6 G7 q8 => ?_)
            refine f ?_
            exact q8
          · refine And.intro (fun q9 => ?_) (fun q9 => ?_)
            · refine f ?_
              refine f ?_
              refine f ?_
              refine mo ((((((h.2 q1).2 q2).2 q3).2 q4).2 q5).1 q9) (fun y10 G11 q12 => ?_)
              refine f ?_
              exact q12
            · refine And.intro (fun q13 => ?_) (fun q13 => ?_)
              · refine f ?_
                refine f ?_
                refine f ?_
                refine f ?_
                refine f ?_
                exact (((((((h.2 q1).2 q2).2 q3).2 q4).2 q5).2 q9).1 q13)
              · refine And.intro (fun q14 => ?_) (fun q14 => ?_)
                · refine f ?_
                  refine f ?_
                  refine f ?_
                  refine f ?_
                  refine f ?_
                  exact ((((((((h.2 q1).2 q2).2 q3).2 q4).2 q5).2 q9).2 q13).1 q14)
                · refine And.intro (fun q15 => ?_) (fun q15 => ?_)
                  · refine f ?_
                    refine f ?_
                    refine f ?_
                    refine f ?_
                    refine f ?_
                    exact (((((((((h.2 q1).2 q2).2 q3).2 q4).2 q5).2 q9).2 q13).2 q14).1 q15)
                  · refine And.intro (fun q16 => ?_) (fun q16 => ?_)
                    · refine f ?_
                      refine f ?_
                      refine f ?_
                      refine f ?_
                      refine f ?_
                      exact ((((((((((h.2 q1).2 q2).2 q3).2 q4).2 q5).2 q9).2 q13).2 q14).2 q15).1 q16)
                    · refine And.intro (fun q17 => ?_) (fun q17 => ?_)
                      · refine f ?_
                        refine f ?_
                        refine f ?_
                        refine f ?_
                        refine f ?_
                        exact (((((((((((h.2 q1).2 q2).2 q3).2 q4).2 q5).2 q9).2 q13).2 q14).2 q15).2 q16).1 q17)
                      · refine And.intro (fun q18 => ?_) (fun q18 => ?_)
                        · refine f ?_
                          refine f ?_
                          refine f ?_
                          refine f ?_
                          refine f ?_
                          exact ((((((((((((h.2 q1).2 q2).2 q3).2 q4).2 q5).2 q9).2 q13).2 q14).2 q15).2 q16).2 q17).1 q18)
                        · refine And.intro (fun q19 => ?_) (fun q19 => ?_)
                          · refine f ?_
                            refine f ?_
                            refine f ?_
                            refine f ?_
                            exact (((((((((((((h.2 q1).2 q2).2 q3).2 q4).2 q5).2 q9).2 q13).2 q14).2 q15).2 q16).2 q17).2 q18).1 q19)
                          · refine And.intro (fun q20 => ?_) (fun q20 => ?_)
                            · refine f ?_
                              refine f ?_
                              refine f ?_
                              refine f ?_
                              exact ((((((((((((((h.2 q1).2 q2).2 q3).2 q4).2 q5).2 q9).2 q13).2 q14).2 q15).2 q16).2 q17).2 q18).2 q19).1 q20)
                            · refine And.intro (fun q21 => ?_) (fun q21 => ?_)
                              · refine f ?_
                                refine f ?_
                                refine f ?_
                                refine f ?_
                                exact (((((((((((((((h.2 q1).2 q2).2 q3).2 q4).2 q5).2 q9).2 q13).2 q14).2 q15).2 q16).2 q17).2 q18).2 q19).2 q20).1 q21)
                              · refine And.intro (fun q22 => ?_) (fun q22 => ?_)
                                · refine f ?_
                                  refine f ?_
                                  refine f ?_
                                  refine f ?_
                                  exact ((((((((((((((((h.2 q1).2 q2).2 q3).2 q4).2 q5).2 q9).2 q13).2 q14).2 q15).2 q16).2 q17).2 q18).2 q19).2 q20).2 q21).1 q22)
                                · refine And.intro (fun q23 => ?_) (fun q23 => ?_)
                                  · refine f ?_
                                    refine f ?_
                                    refine f ?_
                                    refine f ?_
                                    exact (((((((((((((((((h.2 q1).2 q2).2 q3).2 q4).2 q5).2 q9).2 q13).2 q14).2 q15).2 q16).2 q17).2 q18).2 q19).2 q20).2 q21).2 q22).1 q23)
                                  · refine And.intro (fun q24 => ?_) (fun q24 => ?_)
                                    · refine f ?_
                                      refine f ?_
                                      refine f ?_
                                      refine f ?_
                                      exact ((((((((((((((((((h.2 q1).2 q2).2 q3).2 q4).2 q5).2 q9).2 q13).2 q14).2 q15).2 q16).2 q17).2 q18).2 q19).2 q20).2 q21).2 q22).2 q23).1 q24)
                                    · refine f ?_
                                      refine f ?_
                                      exact ((((((((((((((((((h.2 q1).2 q2).2 q3).2 q4).2 q5).2 q9).2 q13).2 q14).2 q15).2 q16).2 q17).2 q18).2 q19).2 q20).2 q21).2 q22).2 q23).2 q24)
set_option maxHeartbeats 20000000 in
theorem vcX7_isWithin {x0 x1 x2 : Int32} {G : Mm} {Q : dp_Ps} (h : (x0 < x1 → Q (jI 0) G) ∧ (¬ x0 < x1 → (x2 < x0 → Q (jI 0) G) ∧ (¬ x2 < x0 → Q (jI 1) G))) : Sp 78 3 [vI x0, vI x1, vI x2] G Q := by
  have f := @fX7_isWithin
  have mo := @Wp_mono
  revert h f mo
  try unfold Sp
  generalize Wp = X
  intro h f mo
  refine f ?_
  refine f ?_
  refine f ?_
  refine And.intro (fun q1 => ?_) (fun q1 => ?_)
  · refine f ?_
    refine f ?_
    exact And.intro (Or.inl rfl) (h.1 q1)
  · refine f ?_
    refine f ?_
    refine f ?_
    refine And.intro (fun q2 => ?_) (fun q2 => ?_)
    · refine f ?_
      refine f ?_
      exact And.intro (Or.inl rfl) ((h.2 q1).1 q2)
    · refine f ?_
      refine f ?_
      refine f ?_
      exact And.intro (Or.inr rfl) ((h.2 q1).2 q2)
set_option maxHeartbeats 20000000 in
theorem vcX7_tryComparers {a0 : Nat} {x1 x2 : Int32} {G : Mm} {Q : dp_Ps} (h : Sp 12 3 [vR 2 (G.2 a0 1), vR 2 (G.2 a0 0)] G (fun y1 G2 => Sp 26 3 [vR 2 (G2.2 a0 1), vI x1] G2 (fun y4 G5 => Sp 52 1 [vR 6 (G5.2 (G5.2 a0 1) 10)] G5 (fun y7 G8 => Wp 79 31 [some (vR 7 a0), some (vI x1), some (vI x2), some (vI (jI 0))] [] G8 Q)))) : Sp 79 4 [vR 7 a0, vI x1, vI x2] G Q := by
  have f := @fX7_tryComparers
  have mo := @Wp_mono
  revert h f mo
  try unfold Sp
  generalize Wp = X
  intro h f mo
  refine f ?_
  refine f ?_
  refine f ?_
  refine f ?_
  refine f ?_
  refine mo h (fun y1 G2 q3 => ?_)
  refine f ?_
  refine f ?_
  refine f ?_
  refine f ?_
  refine mo q3 (fun y4 G5 q6 => ?_)
  refine f ?_
  refine f ?_
  refine f ?_
  refine f ?_
  refine mo q6 (fun y7 G8 q9 => ?_)
  refine f ?_
  refine f ?_
  exact q9
set_option maxHeartbeats 20000000 in
theorem vcX7_tryComparers_31 {a0 : Nat} {x2 x3 : Int32} {w1 : Option Vl} {G : Mm} {Q : dp_Ps} (h : (x2 ≤ x3 → Q (jI 0) G) ∧ (¬ x2 ≤ x3 → Sp 22 3 [vR 2 (G.2 a0 1)] G (fun y2 G3 => Wp 79 31 [some (vR 7 a0), w1, some (vI x2), some (vI (x3 + (jI 1)))] [] G3 Q))) : Wp 79 31 [some (vR 7 a0), w1, some (vI x2), some (vI x3)] [] G Q := by
  have f := @fX7_tryComparers
  have mo := @Wp_mono
  revert h f mo
  try unfold Sp
  generalize Wp = X
  intro h f mo
  refine f ?_
  refine f ?_
  refine f ?_
  refine And.intro (fun q1 => ?_) (fun q1 => ?_)
  · refine f ?_
    exact (h.1 q1)
  · refine f ?_
    refine f ?_
    refine f ?_
    refine mo (h.2 q1) (fun y2 G3 q4 => ?_)
    refine f ?_
    refine f ?_
    exact q4
