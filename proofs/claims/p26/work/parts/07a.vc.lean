/-! ===== what each method asks, from its entry and from each loop head on: printed by a program ===== -/
set_option maxHeartbeats 20000000 in
theorem vcX0_begin {a0 : Nat} {x1 x2 x3 x4 : Int32} {G : Mm} {Q : dp_Ps} (h : (∀ G1 : Mm, G1 = wI G a0 0 x1 → (∀ G2 : Mm, G2 = wI G1 a0 1 x2 → (∀ G3 : Mm, G3 = wI G2 a0 2 x3 → (∀ G4 : Mm, G4 = wI G3 a0 3 x4 → (∀ G5 : Mm, G5 = wI G4 a0 4 (jI (-1005)) → (∀ G6 : Mm, G6 = wI G5 a0 5 (jI 0) → (∀ G7 : Mm, G7 = wI G6 a0 6 (jI (-1005)) → (∀ G8 : Mm, G8 = wI G7 a0 7 (jI 0) → Q (jI 0) G8))))))))) : Sp 0 5 [vR 0 a0, vI x1, vI x2, vI x3, vI x4] G Q := by
  have f := @fX0_begin
  have mo := @Wp_mono
  revert h f mo
  try unfold Sp
  generalize Wp = X
  intro h f mo
  refine f ?_
  refine f ?_
  refine f ?_
  refine f ?_
  refine f ?_
  refine f ?_
  refine f ?_
  refine f ?_
  refine f ?_
  refine f ?_
  refine f ?_
  refine f ?_
  refine f ?_
  refine f ?_
  refine f ?_
  refine f ?_
  refine f ?_
  refine f ?_
  refine f ?_
  refine f ?_
  refine f ?_
  refine f ?_
  refine f ?_
  refine f ?_
  refine And.intro (Or.inl rfl) ?_
  refine f ?_
  exact ((((((((h _ rfl) _ rfl) _ rfl) _ rfl) _ rfl) _ rfl) _ rfl) _ rfl)
set_option maxHeartbeats 20000000 in
theorem vcX0_copyFrom {a0 a1 : Nat} {G : Mm} {Q : dp_Ps} (h : (∀ G1 : Mm, G1 = wI G a0 0 (G.1 a1 0) → (∀ G2 : Mm, G2 = wI G1 a0 1 (G1.1 a1 1) → (∀ G3 : Mm, G3 = wI G2 a0 2 (G2.1 a1 2) → (∀ G4 : Mm, G4 = wI G3 a0 3 (G3.1 a1 3) → (∀ G5 : Mm, G5 = wI G4 a0 4 (G4.1 a1 4) → (∀ G6 : Mm, G6 = wI G5 a0 5 (G5.1 a1 5) → (∀ G7 : Mm, G7 = wI G6 a0 6 (G6.1 a1 6) → ((G7.1 a1 7) = jI 0 ∨ (G7.1 a1 7) = jI 1) ∧ (∀ G8 : Mm, G8 = wI G7 a0 7 (G7.1 a1 7) → Q (jI 0) G8))))))))) : Sp 1 2 [vR 0 a0, vR 0 a1] G Q := by
  have f := @fX0_copyFrom
  have mo := @Wp_mono
  revert h f mo
  try unfold Sp
  generalize Wp = X
  intro h f mo
  refine f ?_
  refine f ?_
  refine f ?_
  refine f ?_
  refine f ?_
  refine f ?_
  refine f ?_
  refine f ?_
  refine f ?_
  refine f ?_
  refine f ?_
  refine f ?_
  refine f ?_
  refine f ?_
  refine f ?_
  refine f ?_
  refine f ?_
  refine f ?_
  refine f ?_
  refine f ?_
  refine f ?_
  refine f ?_
  refine f ?_
  refine f ?_
  refine f ?_
  refine f ?_
  refine f ?_
  refine f ?_
  refine f ?_
  refine f ?_
  refine f ?_
  refine f ?_
  refine And.intro (((((((h _ rfl) _ rfl) _ rfl) _ rfl) _ rfl) _ rfl) _ rfl).1 ?_
  refine f ?_
  exact ((((((((h _ rfl) _ rfl) _ rfl) _ rfl) _ rfl) _ rfl) _ rfl).2 _ rfl)
set_option maxHeartbeats 20000000 in
theorem vcX0_isBefore {a0 a1 : Nat} {G : Mm} {Q : dp_Ps} (h : ((G.1 a0 1) = (G.1 a1 1) → ((G.1 a0 3) = (G.1 a1 3) → ((G.1 a1 0) ≤ (G.1 a0 0) → Q (jI 0) G) ∧ (¬ (G.1 a1 0) ≤ (G.1 a0 0) → Q (jI 1) G)) ∧ (¬ (G.1 a0 3) = (G.1 a1 3) → ((G.1 a0 3) ≤ (G.1 a1 3) → Q (jI 0) G) ∧ (¬ (G.1 a0 3) ≤ (G.1 a1 3) → Q (jI 1) G))) ∧ (¬ (G.1 a0 1) = (G.1 a1 1) → ((G.1 a1 1) ≤ (G.1 a0 1) → Q (jI 0) G) ∧ (¬ (G.1 a1 1) ≤ (G.1 a0 1) → Q (jI 1) G))) : Sp 2 2 [vR 0 a0, vR 0 a1] G Q := by
  have f := @fX0_isBefore
  have mo := @Wp_mono
  revert h f mo
  try unfold Sp
  generalize Wp = X
  intro h f mo
  refine f ?_
  refine f ?_
  refine f ?_
  refine f ?_
  refine f ?_
  refine And.intro (fun q1 => ?_) (fun q1 => ?_)
  · refine f ?_
    refine f ?_
    refine f ?_
    refine f ?_
    refine f ?_
    refine And.intro (fun q2 => ?_) (fun q2 => ?_)
    · refine f ?_
      refine f ?_
      refine f ?_
      refine f ?_
      refine f ?_
      refine And.intro (fun q3 => ?_) (fun q3 => ?_)
      · refine f ?_
        refine f ?_
        exact And.intro (Or.inl rfl) (((h.1 q1).1 q2).1 q3)
      · refine f ?_
        refine f ?_
        refine f ?_
        exact And.intro (Or.inr rfl) (((h.1 q1).1 q2).2 q3)
    · refine f ?_
      refine f ?_
      refine f ?_
      refine f ?_
      refine f ?_
      refine And.intro (fun q4 => ?_) (fun q4 => ?_)
      · refine f ?_
        refine f ?_
        exact And.intro (Or.inl rfl) (((h.1 q1).2 q2).1 q4)
      · refine f ?_
        refine f ?_
        refine f ?_
        exact And.intro (Or.inr rfl) (((h.1 q1).2 q2).2 q4)
  · refine f ?_
    refine f ?_
    refine f ?_
    refine f ?_
    refine f ?_
    refine And.intro (fun q5 => ?_) (fun q5 => ?_)
    · refine f ?_
      refine f ?_
      exact And.intro (Or.inl rfl) ((h.2 q1).1 q5)
    · refine f ?_
      refine f ?_
      refine f ?_
      exact And.intro (Or.inr rfl) ((h.2 q1).2 q5)
set_option maxHeartbeats 20000000 in
theorem vcX0_noteRing {a0 : Nat} {x1 : Int32} {G : Mm} {Q : dp_Ps} (h : (∀ G1 : Mm, G1 = wI G a0 5 ((G.1 a0 5) + (jI 1)) → (∀ G2 : Mm, G2 = wI G1 a0 6 (if (G1.1 a0 6) < x1 then x1 else (G1.1 a0 6)) → (∀ G3 : Mm, G3 = wI G2 a0 4 (jI (-1005)) → Q (jI 0) G3)))) : Sp 3 2 [vR 0 a0, vI x1] G Q := by
  have f := @fX0_noteRing
  have mo := @Wp_mono
  revert h f mo
  try unfold Sp
  generalize Wp = X
  intro h f mo
  refine f ?_
  refine f ?_
  refine f ?_
  refine f ?_
  refine f ?_
  refine f ?_
  refine f ?_
  refine f ?_
  refine f ?_
  refine f ?_
  refine f ?_
  refine f ?_
  refine f ?_
  refine f ?_
  refine f ?_
  refine f ?_
  exact (((h _ rfl) _ rfl) _ rfl)
set_option maxHeartbeats 20000000 in
theorem vcX0_goOn {a0 : Nat} {x1 : Int32} {G : Mm} {Q : dp_Ps} (h : (jI 0 < (G.1 a0 2) → ¬ (G.1 a0 2) = jI 0 ∧ ((∀ G2 : Mm, G2 = wI G a0 1 ((G.1 a0 1) + (((x1 / (G.1 a0 2)) + (jI 1)) * (G.1 a0 2))) → Q (x1 / (G.1 a0 2)) G2))) ∧ (¬ jI 0 < (G.1 a0 2) → (∀ G3 : Mm, G3 = wI G a0 7 (jI 1) → Q (jI 0) G3))) : Sp 4 3 [vR 0 a0, vI x1] G Q := by
  have f := @fX0_goOn
  have mo := @Wp_mono
  revert h f mo
  try unfold Sp
  generalize Wp = X
  intro h f mo
  refine f ?_
  refine f ?_
  refine f ?_
  refine And.intro (fun q1 => ?_) (fun q1 => ?_)
  · refine f ?_
    refine f ?_
    refine f ?_
    refine f ?_
    refine And.intro (h.1 q1).1 ?_
    refine f ?_
    refine f ?_
    refine f ?_
    refine f ?_
    refine f ?_
    refine f ?_
    refine f ?_
    refine f ?_
    refine f ?_
    refine f ?_
    refine f ?_
    refine f ?_
    refine f ?_
    refine f ?_
    exact ((h.1 q1).2 _ rfl)
  · refine f ?_
    refine f ?_
    refine f ?_
    refine And.intro (Or.inr rfl) ?_
    refine f ?_
    refine f ?_
    exact ((h.2 q1) _ rfl)
set_option maxHeartbeats 20000000 in
theorem vcX1_append {a0 : Nat} {x1 : Int32} {G : Mm} {Q : dp_Ps} (h : ((G.1 a0 1) < (jI 60) → vp_in (G.1 a0 1) 60 ∧ vp_nar .char x1 = x1 ∧ (∀ G2 : Mm, G2 = wI G (G.2 a0 0) ((G.1 a0 1)).toNatClampNeg x1 → (∀ G3 : Mm, G3 = wI G2 a0 1 ((G2.1 a0 1) + (jI 1)) → Q (jI 1) G3))) ∧ (¬ (G.1 a0 1) < (jI 60) → Q (jI 0) G)) : Sp 5 2 [vR 1 a0, vI x1] G Q := by
  have f := @fX1_append
  have mo := @Wp_mono
  revert h f mo
  try unfold Sp
  generalize Wp = X
  intro h f mo
  refine f ?_
  refine f ?_
  refine f ?_
  refine f ?_
  refine And.intro (fun q1 => ?_) (fun q1 => ?_)
  · refine f ?_
    refine f ?_
    refine f ?_
    refine f ?_
    refine f ?_
    refine f ?_
    refine And.intro (h.1 q1).1 ?_
    refine And.intro (h.1 q1).2.1 ?_
    refine f ?_
    refine f ?_
    refine f ?_
    refine f ?_
    refine f ?_
    refine f ?_
    refine f ?_
    refine f ?_
    exact And.intro (Or.inr rfl) (((h.1 q1).2.2 _ rfl) _ rfl)
  · refine f ?_
    refine f ?_
    exact And.intro (Or.inl rfl) (h.2 q1)
set_option maxHeartbeats 20000000 in
theorem vcX1_readList {a0 : Nat} {G : Mm} {Q : dp_Ps} (h : (∀ G1 : Mm, G1 = wI G a0 5 (jI 0) → (∀ G2 : Mm, G2 = wI G1 a0 6 (jI 0) → Wp 6 12 [some (vR 1 a0), some (vI (jI 0))] [] G2 Q))) : Sp 6 2 [vR 1 a0] G Q := by
  have f := @fX1_readList
  have mo := @Wp_mono
  revert h f mo
  try unfold Sp
  generalize Wp = X
  intro h f mo
  refine f ?_
  refine f ?_
  refine f ?_
  refine f ?_
  refine f ?_
  refine f ?_
  refine f ?_
  refine f ?_
  exact ((h _ rfl) _ rfl)
set_option maxHeartbeats 20000000 in
theorem vcX1_readList_12 {a0 : Nat} {x1 : Int32} {G : Mm} {Q : dp_Ps} (h : ((jI 30) < x1 → Q (G.1 a0 6) G) ∧ (¬ (jI 30) < x1 → Sp 7 4 [vR 1 a0] G (fun y2 G3 => (y2 = jI 0 → Q (G3.1 a0 6) G3) ∧ (¬ y2 = jI 0 → Sp 8 2 [vR 1 a0, vI (jI 59)] G3 (fun y6 G7 => (y6 = jI 0 → ((G7.1 a0 6) = (G7.1 a0 1) → Q (jI (-1)) G7) ∧ (¬ (G7.1 a0 6) = (G7.1 a0 1) → Q (G7.1 a0 6) G7)) ∧ (¬ y6 = jI 0 → Wp 6 12 [some (vR 1 a0), some (vI (x1 + (jI 1)))] [] G7 Q)))))) : Wp 6 12 [some (vR 1 a0), some (vI x1)] [] G Q := by
  have f := @fX1_readList
  have mo := @Wp_mono
  revert h f mo
  try unfold Sp
  generalize Wp = X
  intro h f mo
  refine f ?_
  refine f ?_
  refine f ?_
  refine And.intro (fun q1 => ?_) (fun q1 => ?_)
  · refine f ?_
    refine f ?_
    refine f ?_
    exact (h.1 q1)
  · refine f ?_
    refine f ?_
    refine mo (h.2 q1) (fun y2 G3 q4 => ?_)
    refine f ?_
    refine And.intro (fun q5 => ?_) (fun q5 => ?_)
    · refine f ?_
      refine f ?_
      refine f ?_
      refine mo (q4.2 q5) (fun y6 G7 q8 => ?_)
      refine f ?_
      refine And.intro (fun q9 => ?_) (fun q9 => ?_)
      · refine f ?_
        refine f ?_
        exact (q8.2 q9)
      · refine f ?_
        refine f ?_
        refine f ?_
        refine f ?_
        refine f ?_
        refine And.intro (fun q10 => ?_) (fun q10 => ?_)
        · refine f ?_
          refine f ?_
          refine f ?_
          exact ((q8.1 (Classical.not_not.mp q9)).2 q10)
        · refine f ?_
          refine f ?_
          refine f ?_
          exact ((q8.1 (Classical.not_not.mp q9)).1 (Classical.not_not.mp q10))
    · refine f ?_
      refine f ?_
      refine f ?_
      exact (q4.1 (Classical.not_not.mp q5))
set_option maxHeartbeats 20000000 in
theorem vcX1_readAlarm {a0 : Nat} {G : Mm} {Q : dp_Ps} (h : Sp 9 5 [vR 1 a0, vI (jI 0), vI (jI 99999)] G (fun y1 G2 => (y1 = (jI (-1)) → Wp 7 35 [some (vR 1 a0), some (vI y1), some (vI (jI 0)), some (vI (jI 0))] [] G2 Q) ∧ (¬ y1 = (jI (-1)) → Sp 8 2 [vR 1 a0, vI (jI 47)] G2 (fun y5 G6 => (y5 = jI 0 → Wp 7 35 [some (vR 1 a0), some (vI y1), some (vI (jI 0)), some (vI (jI 0))] [] G6 Q) ∧ (¬ y5 = jI 0 → Sp 9 5 [vR 1 a0, vI (jI 1), vI (jI 9999)] G6 (fun y9 G10 => Wp 7 35 [some (vR 1 a0), some (vI y1), some (vI y9), some (vI (jI 0))] [] G10 Q)))))) : Sp 7 4 [vR 1 a0] G Q := by
  have f := @fX1_readAlarm
  have mo := @Wp_mono
  revert h f mo
  try unfold Sp
  generalize Wp = X
  intro h f mo
  refine f ?_
  refine f ?_
  refine f ?_
  refine f ?_
  refine mo h (fun y1 G2 q3 => ?_)
  refine f ?_
  refine f ?_
  refine f ?_
  refine f ?_
  refine f ?_
  refine f ?_
  refine f ?_
  refine f ?_
  refine And.intro (fun q4 => ?_) (fun q4 => ?_)
  · exact (q3.1 q4)
  · refine f ?_
    refine f ?_
    refine f ?_
    refine mo (q3.2 q4) (fun y5 G6 q7 => ?_)
    refine f ?_
    refine And.intro (fun q8 => ?_) (fun q8 => ?_)
    · exact (q7.1 q8)
    · refine f ?_
      refine f ?_
      refine f ?_
      refine f ?_
      refine mo (q7.2 q8) (fun y9 G10 q11 => ?_)
      refine f ?_
      exact q11
set_option maxHeartbeats 20000000 in
theorem vcX1_readAlarm_35 {a0 : Nat} {x1 x2 x3 : Int32} {G : Mm} {Q : dp_Ps} (h : (x1 = (jI (-1)) → Wp 7 61 [some (vR 1 a0), some (vI x1), some (vI x2), some (vI x3)] [] G Q) ∧ (¬ x1 = (jI (-1)) → (x2 = (jI (-1)) → Wp 7 61 [some (vR 1 a0), some (vI x1), some (vI x2), some (vI x3)] [] G Q) ∧ (¬ x2 = (jI (-1)) → Sp 8 2 [vR 1 a0, vI (jI 33)] G (fun y3 G4 => (y3 = jI 0 → Wp 7 61 [some (vR 1 a0), some (vI x1), some (vI x2), some (vI x3)] [] G4 Q) ∧ (¬ y3 = jI 0 → Sp 9 5 [vR 1 a0, vI (jI 1), vI (jI 3)] G4 (fun y7 G8 => Wp 7 61 [some (vR 1 a0), some (vI x1), some (vI x2), some (vI y7)] [] G8 Q)))))) : Wp 7 35 [some (vR 1 a0), some (vI x1), some (vI x2), some (vI x3)] [] G Q := by
  have f := @fX1_readAlarm
  have mo := @Wp_mono
  revert h f mo
  try unfold Sp
  generalize Wp = X
  intro h f mo
  refine f ?_
  refine f ?_
  refine f ?_
  refine And.intro (fun q1 => ?_) (fun q1 => ?_)
  · exact (h.1 q1)
  · refine f ?_
    refine f ?_
    refine f ?_
    refine And.intro (fun q2 => ?_) (fun q2 => ?_)
    · exact ((h.2 q1).1 q2)
    · refine f ?_
      refine f ?_
      refine f ?_
      refine mo ((h.2 q1).2 q2) (fun y3 G4 q5 => ?_)
      refine f ?_
      refine And.intro (fun q6 => ?_) (fun q6 => ?_)
      · exact (q5.1 q6)
      · refine f ?_
        refine f ?_
        refine f ?_
        refine f ?_
        refine mo (q5.2 q6) (fun y7 G8 q9 => ?_)
        refine f ?_
        exact q9
set_option maxHeartbeats 20000000 in
theorem vcX1_readAlarm_61 {a0 : Nat} {x1 x2 x3 : Int32} {G : Mm} {Q : dp_Ps} (h : (x1 = (jI (-1)) → Wp 7 85 [some (vR 1 a0), some (vI x1), some (vI x2), some (vI x3)] [] G Q) ∧ (¬ x1 = (jI (-1)) → (x2 = (jI (-1)) → Wp 7 85 [some (vR 1 a0), some (vI x1), some (vI x2), some (vI x3)] [] G Q) ∧ (¬ x2 = (jI (-1)) → (x3 = (jI (-1)) → Wp 7 85 [some (vR 1 a0), some (vI x1), some (vI x2), some (vI x3)] [] G Q) ∧ (¬ x3 = (jI (-1)) → ((G.1 a0 5) < (jI 30) → vp_in (G.1 a0 5) 30 ∧ (∀ G5 : Mm, G5 = wI G (G.2 a0 2) ((G.1 a0 5)).toNatClampNeg x1 → vp_in (G5.1 a0 5) 30 ∧ (∀ G6 : Mm, G6 = wI G5 (G5.2 a0 3) ((G5.1 a0 5)).toNatClampNeg x2 → vp_in (G6.1 a0 5) 30 ∧ (∀ G7 : Mm, G7 = wI G6 (G6.2 a0 4) ((G6.1 a0 5)).toNatClampNeg x3 → (∀ G8 : Mm, G8 = wI G7 a0 5 ((G7.1 a0 5) + (jI 1)) → Q (jI 1) G8))))) ∧ (¬ (G.1 a0 5) < (jI 30) → Wp 7 85 [some (vR 1 a0), some (vI x1), some (vI x2), some (vI x3)] [] G Q))))) : Wp 7 61 [some (vR 1 a0), some (vI x1), some (vI x2), some (vI x3)] [] G Q := by
  have f := @fX1_readAlarm
  have mo := @Wp_mono
  revert h f mo
  try unfold Sp
  generalize Wp = X
  intro h f mo
  refine f ?_
  refine f ?_
  refine f ?_
  refine And.intro (fun q1 => ?_) (fun q1 => ?_)
  · exact (h.1 q1)
  · refine f ?_
    refine f ?_
    refine f ?_
    refine And.intro (fun q2 => ?_) (fun q2 => ?_)
    · exact ((h.2 q1).1 q2)
    · refine f ?_
      refine f ?_
      refine f ?_
      refine And.intro (fun q3 => ?_) (fun q3 => ?_)
      · exact (((h.2 q1).2 q2).1 q3)
      · refine f ?_
        refine f ?_
        refine f ?_
        refine f ?_
        refine And.intro (fun q4 => ?_) (fun q4 => ?_)
        · refine f ?_
          refine f ?_
          refine f ?_
          refine f ?_
          refine f ?_
          refine f ?_
          refine And.intro ((((h.2 q1).2 q2).2 q3).1 q4).1 ?_
          refine f ?_
          refine f ?_
          refine f ?_
          refine f ?_
          refine f ?_
          refine f ?_
          refine And.intro (((((h.2 q1).2 q2).2 q3).1 q4).2 _ rfl).1 ?_
          refine f ?_
          refine f ?_
          refine f ?_
          refine f ?_
          refine f ?_
          refine f ?_
          refine And.intro ((((((h.2 q1).2 q2).2 q3).1 q4).2 _ rfl).2 _ rfl).1 ?_
          refine f ?_
          refine f ?_
          refine f ?_
          refine f ?_
          refine f ?_
          refine f ?_
          refine f ?_
          refine f ?_
          exact And.intro (Or.inr rfl) ((((((((h.2 q1).2 q2).2 q3).1 q4).2 _ rfl).2 _ rfl).2 _ rfl) _ rfl)
        · exact ((((h.2 q1).2 q2).2 q3).2 q4)
set_option maxHeartbeats 20000000 in
theorem vcX1_readAlarm_85 {w0 w1 w2 w3 : Option Vl} {G : Mm} {Q : dp_Ps} (h : Q (jI 0) G) : Wp 7 85 [w0, w1, w2, w3] [] G Q := by
  have f := @fX1_readAlarm
  have mo := @Wp_mono
  revert h f mo
  try unfold Sp
  generalize Wp = X
  intro h f mo
  refine f ?_
  refine f ?_
  exact And.intro (Or.inl rfl) h
set_option maxHeartbeats 20000000 in
theorem vcX1_readSign {a0 : Nat} {x1 : Int32} {G : Mm} {Q : dp_Ps} (h : ((G.1 a0 1) ≤ (G.1 a0 6) → Q (jI 0) G) ∧ (¬ (G.1 a0 1) ≤ (G.1 a0 6) → ((jI 60) ≤ (G.1 a0 6) → Q (jI 0) G) ∧ (¬ (jI 60) ≤ (G.1 a0 6) → vp_in (G.1 a0 6) 60 ∧ (((G.1 (G.2 a0 0) ((G.1 a0 6)).toNatClampNeg) = x1 → (∀ G4 : Mm, G4 = wI G a0 6 ((G.1 a0 6) + (jI 1)) → Q (jI 1) G4)) ∧ (¬ (G.1 (G.2 a0 0) ((G.1 a0 6)).toNatClampNeg) = x1 → Q (jI 0) G))))) : Sp 8 2 [vR 1 a0, vI x1] G Q := by
  have f := @fX1_readSign
  have mo := @Wp_mono
  revert h f mo
  try unfold Sp
  generalize Wp = X
  intro h f mo
  refine f ?_
  refine f ?_
  refine f ?_
  refine f ?_
  refine f ?_
  refine And.intro (fun q1 => ?_) (fun q1 => ?_)
  · refine f ?_
    refine f ?_
    exact And.intro (Or.inl rfl) (h.1 q1)
  · refine f ?_
    refine f ?_
    refine f ?_
    refine f ?_
    refine And.intro (fun q2 => ?_) (fun q2 => ?_)
    · refine f ?_
      refine f ?_
      exact And.intro (Or.inl rfl) ((h.2 q1).1 q2)
    · refine f ?_
      refine f ?_
      refine f ?_
      refine f ?_
      refine f ?_
      refine And.intro ((h.2 q1).2 q2).1 ?_
      refine f ?_
      refine f ?_
      refine And.intro (fun q3 => ?_) (fun q3 => ?_)
      · refine f ?_
        refine f ?_
        refine f ?_
        refine f ?_
        refine f ?_
        refine f ?_
        refine f ?_
        refine f ?_
        exact And.intro (Or.inr rfl) ((((h.2 q1).2 q2).2.1 q3) _ rfl)
      · refine f ?_
        refine f ?_
        exact And.intro (Or.inl rfl) (((h.2 q1).2 q2).2.2 q3)
set_option maxHeartbeats 20000000 in
theorem vcX1_readNumber {a0 : Nat} {x1 x2 : Int32} {G : Mm} {Q : dp_Ps} (h : Sp 10 2 [vR 1 a0] G (fun y1 G2 => (y1 = (jI (-1)) → Q (jI (-1)) G2) ∧ (¬ y1 = (jI (-1)) → (y1 < x1 → Q (jI (-1)) G2) ∧ (¬ y1 < x1 → (y1 ≤ x2 → (∀ G7 : Mm, G7 = wI G2 a0 6 ((G2.1 a0 6) + (jI 1)) → Wp 9 32 [some (vR 1 a0), some (vI x1), some (vI x2), some (vI y1), none] [] G7 Q)) ∧ (¬ y1 ≤ x2 → Q (jI (-1)) G2))))) : Sp 9 5 [vR 1 a0, vI x1, vI x2] G Q := by
  have f := @fX1_readNumber
  have mo := @Wp_mono
  revert h f mo
  try unfold Sp
  generalize Wp = X
  intro h f mo
  refine f ?_
  refine f ?_
  refine mo h (fun y1 G2 q3 => ?_)
  refine f ?_
  refine f ?_
  refine f ?_
  refine f ?_
  refine And.intro (fun q4 => ?_) (fun q4 => ?_)
  · refine f ?_
    refine f ?_
    exact (q3.1 q4)
  · refine f ?_
    refine f ?_
    refine f ?_
    refine And.intro (fun q5 => ?_) (fun q5 => ?_)
    · refine f ?_
      refine f ?_
      exact ((q3.2 q4).1 q5)
    · refine f ?_
      refine f ?_
      refine f ?_
      refine And.intro (fun q6 => ?_) (fun q6 => ?_)
      · refine f ?_
        refine f ?_
        refine f ?_
        refine f ?_
        refine f ?_
        refine f ?_
        exact ((((q3.2 q4).2 q5).1 q6) _ rfl)
      · refine f ?_
        refine f ?_
        exact (((q3.2 q4).2 q5).2 q6)
set_option maxHeartbeats 20000000 in
theorem vcX1_readNumber_32 {a0 : Nat} {x2 x3 : Int32} {w1 w4 : Option Vl} {G : Mm} {Q : dp_Ps} (h : (x3 ≤ jI 0 → Q x3 G) ∧ (¬ x3 ≤ jI 0 → ((G.1 a0 1) ≤ (G.1 a0 6) → Q x3 G) ∧ (¬ (G.1 a0 1) ≤ (G.1 a0 6) → Sp 10 2 [vR 1 a0] G (fun y3 G4 => (y3 = (jI (-1)) → Q x3 G4) ∧ (¬ y3 = (jI (-1)) → (((x3 * (jI 10)) + y3) ≤ x2 → (∀ G8 : Mm, G8 = wI G4 a0 6 ((G4.1 a0 6) + (jI 1)) → Wp 9 32 [some (vR 1 a0), w1, some (vI x2), some (vI ((x3 * (jI 10)) + y3)), some (vI y3)] [] G8 Q)) ∧ (¬ ((x3 * (jI 10)) + y3) ≤ x2 → Q x3 G4)))))) : Wp 9 32 [some (vR 1 a0), w1, some (vI x2), some (vI x3), w4] [] G Q := by
  have f := @fX1_readNumber
  have mo := @Wp_mono
  revert h f mo
  try unfold Sp
  generalize Wp = X
  intro h f mo
  refine f ?_
  refine f ?_
  refine And.intro (fun q1 => ?_) (fun q1 => ?_)
  · refine f ?_
    refine f ?_
    exact (h.1 q1)
  · refine f ?_
    refine f ?_
    refine f ?_
    refine f ?_
    refine f ?_
    refine And.intro (fun q2 => ?_) (fun q2 => ?_)
    · refine f ?_
      refine f ?_
      exact ((h.2 q1).1 q2)
    · refine f ?_
      refine f ?_
      refine mo ((h.2 q1).2 q2) (fun y3 G4 q5 => ?_)
      refine f ?_
      refine f ?_
      refine f ?_
      refine f ?_
      refine And.intro (fun q6 => ?_) (fun q6 => ?_)
      · refine f ?_
        refine f ?_
        exact (q5.1 q6)
      · refine f ?_
        refine f ?_
        refine f ?_
        refine f ?_
        refine f ?_
        refine f ?_
        refine f ?_
        refine And.intro (fun q7 => ?_) (fun q7 => ?_)
        · refine f ?_
          refine f ?_
          refine f ?_
          refine f ?_
          refine f ?_
          refine f ?_
          refine f ?_
          refine f ?_
          refine f ?_
          refine f ?_
          refine f ?_
          refine f ?_
          refine f ?_
          exact (((q5.2 q6).1 q7) _ rfl)
        · refine f ?_
          refine f ?_
          exact ((q5.2 q6).2 q7)
set_option maxHeartbeats 20000000 in
theorem vcX1_digitHere {a0 : Nat} {G : Mm} {Q : dp_Ps} (h : ((G.1 a0 1) ≤ (G.1 a0 6) → Q (jI (-1)) G) ∧ (¬ (G.1 a0 1) ≤ (G.1 a0 6) → ((G.1 a0 6) < (jI 60) → vp_in (G.1 a0 6) 60 ∧ (((G.1 (G.2 a0 0) ((G.1 a0 6)).toNatClampNeg) < (jI 48) → Q (jI (-1)) G) ∧ (¬ (G.1 (G.2 a0 0) ((G.1 a0 6)).toNatClampNeg) < (jI 48) → ((jI 57) < (G.1 (G.2 a0 0) ((G.1 a0 6)).toNatClampNeg) → Q (jI (-1)) G) ∧ (¬ (jI 57) < (G.1 (G.2 a0 0) ((G.1 a0 6)).toNatClampNeg) → Q ((G.1 (G.2 a0 0) ((G.1 a0 6)).toNatClampNeg) - (jI 48)) G)))) ∧ (¬ (G.1 a0 6) < (jI 60) → Q (jI (-1)) G))) : Sp 10 2 [vR 1 a0] G Q := by
  have f := @fX1_digitHere
  have mo := @Wp_mono
  revert h f mo
  try unfold Sp
  generalize Wp = X
  intro h f mo
  refine f ?_
  refine f ?_
  refine f ?_
  refine f ?_
  refine f ?_
  refine And.intro (fun q1 => ?_) (fun q1 => ?_)
  · refine f ?_
    refine f ?_
    exact (h.1 q1)
  · refine f ?_
    refine f ?_
    refine f ?_
    refine f ?_
    refine And.intro (fun q2 => ?_) (fun q2 => ?_)
    · refine f ?_
      refine f ?_
      refine f ?_
      refine f ?_
      refine f ?_
      refine And.intro ((h.2 q1).1 q2).1 ?_
      refine f ?_
      refine f ?_
      refine f ?_
      refine f ?_
      refine And.intro (fun q3 => ?_) (fun q3 => ?_)
      · refine f ?_
        refine f ?_
        exact (((h.2 q1).1 q2).2.1 q3)
      · refine f ?_
        refine f ?_
        refine f ?_
        refine And.intro (fun q4 => ?_) (fun q4 => ?_)
        · refine f ?_
          refine f ?_
          exact ((((h.2 q1).1 q2).2.2 q3).1 q4)
        · refine f ?_
          refine f ?_
          refine f ?_
          refine f ?_
          refine f ?_
          exact ((((h.2 q1).1 q2).2.2 q3).2 q4)
    · refine f ?_
      refine f ?_
      exact ((h.2 q1).2 q2)
set_option maxHeartbeats 20000000 in
theorem vcX1_leastTime {a0 : Nat} {G : Mm} {Q : dp_Ps} (h : Wp 11 5 [some (vR 1 a0), some (vI (jI 99999)), some (vI (jI 0))] [] G Q) : Sp 11 3 [vR 1 a0] G Q := by
  have f := @fX1_leastTime
  have mo := @Wp_mono
  revert h f mo
  try unfold Sp
  generalize Wp = X
  intro h f mo
  refine f ?_
  refine f ?_
  refine f ?_
  refine f ?_
  exact h
set_option maxHeartbeats 20000000 in
theorem vcX1_leastTime_5 {a0 : Nat} {x1 x2 : Int32} {G : Mm} {Q : dp_Ps} (h : ((G.1 a0 5) ≤ x2 → Q x1 G) ∧ (¬ (G.1 a0 5) ≤ x2 → vp_in x2 30 ∧ (Wp 11 5 [some (vR 1 a0), some (vI (if (G.1 (G.2 a0 2) (x2).toNatClampNeg) < x1 then (G.1 (G.2 a0 2) (x2).toNatClampNeg) else x1)), some (vI (x2 + (jI 1)))] [] G Q))) : Wp 11 5 [some (vR 1 a0), some (vI x1), some (vI x2)] [] G Q := by
  have f := @fX1_leastTime
  have mo := @Wp_mono
  revert h f mo
  try unfold Sp
  generalize Wp = X
  intro h f mo
  refine f ?_
  refine f ?_
  refine f ?_
  refine f ?_
  refine And.intro (fun q1 => ?_) (fun q1 => ?_)
  · refine f ?_
    refine f ?_
    exact (h.1 q1)
  · refine f ?_
    refine f ?_
    refine f ?_
    refine f ?_
    refine f ?_
    refine And.intro (h.2 q1).1 ?_
    refine f ?_
    refine f ?_
    refine f ?_
    refine f ?_
    exact (h.2 q1).2
set_option maxHeartbeats 20000000 in
theorem vcX3_copyFrom {a0 a1 : Nat} {G : Mm} {Q : dp_Ps} (h : (∀ G1 : Mm, G1 = wI G a0 0 (G.1 a1 0) → (∀ G2 : Mm, G2 = wI G1 a0 1 (G1.1 a1 1) → (∀ G3 : Mm, G3 = wI G2 a0 2 (G2.1 a1 2) → (∀ G4 : Mm, G4 = wI G3 a0 3 (G3.1 a1 3) → Q (jI 0) G4))))) : Sp 38 2 [vR 3 a0, vR 3 a1] G Q := by
  have f := @fX3_copyFrom
  have mo := @Wp_mono
  revert h f mo
  try unfold Sp
  generalize Wp = X
  intro h f mo
  refine f ?_
  refine f ?_
  refine f ?_
  refine f ?_
  refine f ?_
  refine f ?_
  refine f ?_
  refine f ?_
  refine f ?_
  refine f ?_
  refine f ?_
  refine f ?_
  refine f ?_
  refine f ?_
  refine f ?_
  refine f ?_
  refine f ?_
  exact ((((h _ rfl) _ rfl) _ rfl) _ rfl)
set_option maxHeartbeats 20000000 in
theorem vcX3_isFree {a0 : Nat} {G : Mm} {Q : dp_Ps} (h : ((G.1 a0 0) = jI 0 → Q (jI 1) G) ∧ (¬ (G.1 a0 0) = jI 0 → Q (jI 0) G)) : Sp 39 1 [vR 3 a0] G Q := by
  have f := @fX3_isFree
  have mo := @Wp_mono
  revert h f mo
  try unfold Sp
  generalize Wp = X
  intro h f mo
  refine f ?_
  refine f ?_
  refine f ?_
  refine And.intro (fun q1 => ?_) (fun q1 => ?_)
  · refine f ?_
    refine f ?_
    exact And.intro (Or.inl rfl) (h.2 q1)
  · refine f ?_
    refine f ?_
    refine f ?_
    exact And.intro (Or.inr rfl) (h.1 (Classical.not_not.mp q1))
set_option maxHeartbeats 20000000 in
theorem vcX3_isDue {a0 : Nat} {x1 : Int32} {G : Mm} {Q : dp_Ps} (h : ((G.1 a0 0) ≤ jI 0 → Q (jI 0) G) ∧ (¬ (G.1 a0 0) ≤ jI 0 → ((G.1 a0 3) = jI 0 → (x1 < (G.1 a0 2) → Q (jI 0) G) ∧ (¬ x1 < (G.1 a0 2) → Q (jI 1) G)) ∧ (¬ (G.1 a0 3) = jI 0 → Q (jI 0) G))) : Sp 40 2 [vR 3 a0, vI x1] G Q := by
  have f := @fX3_isDue
  have mo := @Wp_mono
  revert h f mo
  try unfold Sp
  generalize Wp = X
  intro h f mo
  refine f ?_
  refine f ?_
  refine f ?_
  refine And.intro (fun q1 => ?_) (fun q1 => ?_)
  · refine f ?_
    refine f ?_
    exact And.intro (Or.inl rfl) (h.1 q1)
  · refine f ?_
    refine f ?_
    refine f ?_
    refine And.intro (fun q2 => ?_) (fun q2 => ?_)
    · refine f ?_
      refine f ?_
      exact And.intro (Or.inl rfl) ((h.2 q1).2 q2)
    · refine f ?_
      refine f ?_
      refine f ?_
      refine f ?_
      refine And.intro (fun q3 => ?_) (fun q3 => ?_)
      · refine f ?_
        refine f ?_
        exact And.intro (Or.inl rfl) (((h.2 q1).1 (Classical.not_not.mp q2)).1 q3)
      · refine f ?_
        refine f ?_
        refine f ?_
        exact And.intro (Or.inr rfl) (((h.2 q1).1 (Classical.not_not.mp q2)).2 q3)
set_option maxHeartbeats 20000000 in
theorem vcX3_canTake {a0 : Nat} {x1 x2 : Int32} {G : Mm} {Q : dp_Ps} (h : ((G.1 a0 0) ≤ jI 0 → Q (jI 0) G) ∧ (¬ (G.1 a0 0) ≤ jI 0 → (x2 < ((G.1 a0 2) - (G.1 a0 1)) → Q (jI 0) G) ∧ (¬ x2 < ((G.1 a0 2) - (G.1 a0 1)) → (x2 < ((G.1 a0 2) - x1) → Q (jI 0) G) ∧ (¬ x2 < ((G.1 a0 2) - x1) → (x2 < (x1 - (G.1 a0 1)) → Q (jI 0) G) ∧ (¬ x2 < (x1 - (G.1 a0 1)) → Q (jI 1) G))))) : Sp 41 3 [vR 3 a0, vI x1, vI x2] G Q := by
  have f := @fX3_canTake
  have mo := @Wp_mono
  revert h f mo
  try unfold Sp
  generalize Wp = X
  intro h f mo
  refine f ?_
  refine f ?_
  refine f ?_
  refine And.intro (fun q1 => ?_) (fun q1 => ?_)
  · refine f ?_
    refine f ?_
    exact And.intro (Or.inl rfl) (h.1 q1)
  · refine f ?_
    refine f ?_
    refine f ?_
    refine f ?_
    refine f ?_
    refine f ?_
    refine f ?_
    refine And.intro (fun q2 => ?_) (fun q2 => ?_)
    · refine f ?_
      refine f ?_
      exact And.intro (Or.inl rfl) ((h.2 q1).1 q2)
    · refine f ?_
      refine f ?_
      refine f ?_
      refine f ?_
      refine f ?_
      refine f ?_
      refine And.intro (fun q3 => ?_) (fun q3 => ?_)
      · refine f ?_
        refine f ?_
        exact And.intro (Or.inl rfl) (((h.2 q1).2 q2).1 q3)
      · refine f ?_
        refine f ?_
        refine f ?_
        refine f ?_
        refine f ?_
        refine f ?_
        refine And.intro (fun q4 => ?_) (fun q4 => ?_)
        · refine f ?_
          refine f ?_
          exact And.intro (Or.inl rfl) ((((h.2 q1).2 q2).2 q3).1 q4)
        · refine f ?_
          refine f ?_
          refine f ?_
          exact And.intro (Or.inr rfl) ((((h.2 q1).2 q2).2 q3).2 q4)
set_option maxHeartbeats 20000000 in
theorem vcX3_release {a0 : Nat} {G : Mm} {Q : dp_Ps} (h : (∀ G1 : Mm, G1 = wI G a0 0 (jI 0) → (∀ G2 : Mm, G2 = wI G1 a0 1 (jI 0) → (∀ G3 : Mm, G3 = wI G2 a0 2 (jI 0) → (∀ G4 : Mm, G4 = wI G3 a0 3 (jI 0) → Q (jI 0) G4))))) : Sp 42 1 [vR 3 a0] G Q := by
  have f := @fX3_release
  have mo := @Wp_mono
  revert h f mo
  try unfold Sp
  generalize Wp = X
  intro h f mo
  refine f ?_
  refine f ?_
  refine f ?_
  refine f ?_
  refine f ?_
  refine f ?_
  refine f ?_
  refine f ?_
  refine f ?_
  refine f ?_
  refine f ?_
  refine f ?_
  refine f ?_
  exact ((((h _ rfl) _ rfl) _ rfl) _ rfl)
set_option maxHeartbeats 20000000 in
theorem vcX3_load {a0 : Nat} {x1 x2 : Int32} {G : Mm} {Q : dp_Ps} (h : (∀ G1 : Mm, G1 = wI G a0 0 (jI 1) → (∀ G2 : Mm, G2 = wI G1 a0 1 x1 → (∀ G3 : Mm, G3 = wI G2 a0 2 x1 → (∀ G4 : Mm, G4 = wI G3 a0 3 x2 → Q (jI 0) G4))))) : Sp 43 3 [vR 3 a0, vI x1, vI x2] G Q := by
  have f := @fX3_load
  have mo := @Wp_mono
  revert h f mo
  try unfold Sp
  generalize Wp = X
  intro h f mo
  refine f ?_
  refine f ?_
  refine f ?_
  refine f ?_
  refine f ?_
  refine f ?_
  refine f ?_
  refine f ?_
  refine f ?_
  refine f ?_
  refine f ?_
  refine f ?_
  refine f ?_
  exact ((((h _ rfl) _ rfl) _ rfl) _ rfl)
set_option maxHeartbeats 20000000 in
theorem vcX3_join {a0 : Nat} {x1 : Int32} {G : Mm} {Q : dp_Ps} (h : ((G.1 a0 0) = jI 0 → (∀ G8 : Mm, G8 = wI G a0 1 x1 → ((G8.1 a0 0) = jI 0 → (∀ G12 : Mm, G12 = wI G8 a0 2 x1 → (∀ G13 : Mm, G13 = wI G12 a0 0 ((G12.1 a0 0) + (jI 1)) → Q (jI 0) G13))) ∧ (¬ (G8.1 a0 0) = jI 0 → (∀ G10 : Mm, G10 = wI G8 a0 2 (if (G8.1 a0 2) < x1 then x1 else (G8.1 a0 2)) → (∀ G11 : Mm, G11 = wI G10 a0 0 ((G10.1 a0 0) + (jI 1)) → Q (jI 0) G11))))) ∧ (¬ (G.1 a0 0) = jI 0 → (∀ G2 : Mm, G2 = wI G a0 1 (if x1 < (G.1 a0 1) then x1 else (G.1 a0 1)) → ((G2.1 a0 0) = jI 0 → (∀ G6 : Mm, G6 = wI G2 a0 2 x1 → (∀ G7 : Mm, G7 = wI G6 a0 0 ((G6.1 a0 0) + (jI 1)) → Q (jI 0) G7))) ∧ (¬ (G2.1 a0 0) = jI 0 → (∀ G4 : Mm, G4 = wI G2 a0 2 (if (G2.1 a0 2) < x1 then x1 else (G2.1 a0 2)) → (∀ G5 : Mm, G5 = wI G4 a0 0 ((G4.1 a0 0) + (jI 1)) → Q (jI 0) G5)))))) : Sp 44 2 [vR 3 a0, vI x1] G Q := by
  have f := @fX3_join
  have mo := @Wp_mono
  revert h f mo
  try unfold Sp
  generalize Wp = X
  intro h f mo
  refine f ?_
  refine f ?_
  refine f ?_
  refine f ?_
  refine And.intro (fun q1 => ?_) (fun q1 => ?_)
  · refine f ?_
    refine f ?_
    refine f ?_
    refine f ?_
    refine f ?_
    refine f ?_
    refine f ?_
    refine f ?_
    refine f ?_
    refine And.intro (fun q3 => ?_) (fun q3 => ?_)
    · refine f ?_
      refine f ?_
      refine f ?_
      refine f ?_
      refine f ?_
      refine f ?_
      refine f ?_
      refine f ?_
      refine f ?_
      refine f ?_
      refine f ?_
      refine f ?_
      exact (((((h.2 q1) _ rfl).2 q3) _ rfl) _ rfl)
    · refine f ?_
      refine f ?_
      refine f ?_
      refine f ?_
      refine f ?_
      refine f ?_
      refine f ?_
      refine f ?_
      refine f ?_
      refine f ?_
      exact (((((h.2 q1) _ rfl).1 (Classical.not_not.mp q3)) _ rfl) _ rfl)
  · refine f ?_
    refine f ?_
    refine f ?_
    refine f ?_
    refine f ?_
    refine f ?_
    refine f ?_
    refine And.intro (fun q9 => ?_) (fun q9 => ?_)
    · refine f ?_
      refine f ?_
      refine f ?_
      refine f ?_
      refine f ?_
      refine f ?_
      refine f ?_
      refine f ?_
      refine f ?_
      refine f ?_
      refine f ?_
      refine f ?_
      exact (((((h.1 (Classical.not_not.mp q1)) _ rfl).2 q9) _ rfl) _ rfl)
    · refine f ?_
      refine f ?_
      refine f ?_
      refine f ?_
      refine f ?_
      refine f ?_
      refine f ?_
      refine f ?_
      refine f ?_
      refine f ?_
      exact (((((h.1 (Classical.not_not.mp q1)) _ rfl).1 (Classical.not_not.mp q9)) _ rfl) _ rfl)
set_option maxHeartbeats 20000000 in
theorem vcX3_loadOn {a0 : Nat} {G : Mm} {Q : dp_Ps} (h : ((G.1 a0 3) ≤ jI 0 → Q (jI 0) G) ∧ (¬ (G.1 a0 3) ≤ jI 0 → (∀ G2 : Mm, G2 = wI G a0 3 ((G.1 a0 3) - (jI 1)) → Q (jI 0) G2))) : Sp 45 1 [vR 3 a0] G Q := by
  have f := @fX3_loadOn
  have mo := @Wp_mono
  revert h f mo
  try unfold Sp
  generalize Wp = X
  intro h f mo
  refine f ?_
  refine f ?_
  refine f ?_
  refine And.intro (fun q1 => ?_) (fun q1 => ?_)
  · refine f ?_
    exact (h.1 q1)
  · refine f ?_
    refine f ?_
    refine f ?_
    refine f ?_
    refine f ?_
    refine f ?_
    refine f ?_
    exact ((h.2 q1) _ rfl)
set_option maxHeartbeats 20000000 in
theorem vcX4_recordState {a0 a1 : Nat} {G : Mm} {Q : dp_Ps} (h : ((G.1 a0 1) = (jI 4) → Sp 47 3 [vR 4 a0] G (fun y6 G7 => vp_in (G7.1 a0 1) 4 ∧ (Sp 12 3 [vR 2 (G7.2 (G7.2 a0 0) ((G7.1 a0 1)).toNatClampNeg), vR 2 a1] G7 (fun y9 G10 => (∀ G12 : Mm, G12 = wI G10 a0 1 ((G10.1 a0 1) + (jI 1)) → Q (jI 0) G12))))) ∧ (¬ (G.1 a0 1) = (jI 4) → vp_in (G.1 a0 1) 4 ∧ (Sp 12 3 [vR 2 (G.2 (G.2 a0 0) ((G.1 a0 1)).toNatClampNeg), vR 2 a1] G (fun y2 G3 => (∀ G5 : Mm, G5 = wI G3 a0 1 ((G3.1 a0 1) + (jI 1)) → Q (jI 0) G5))))) : Sp 46 2 [vR 4 a0, vR 2 a1] G Q := by
  have f := @fX4_recordState
  have mo := @Wp_mono
  revert h f mo
  try unfold Sp
  generalize Wp = X
  intro h f mo
  refine f ?_
  refine f ?_
  refine f ?_
  refine f ?_
  refine And.intro (fun q1 => ?_) (fun q1 => ?_)
  · refine f ?_
    refine f ?_
    refine f ?_
    refine f ?_
    refine f ?_
    refine And.intro (h.2 q1).1 ?_
    refine f ?_
    refine f ?_
    refine mo (h.2 q1).2 (fun y2 G3 q4 => ?_)
    refine f ?_
    refine f ?_
    refine f ?_
    refine f ?_
    refine f ?_
    refine f ?_
    refine f ?_
    exact (q4 _ rfl)
  · refine f ?_
    refine f ?_
    refine mo (h.1 (Classical.not_not.mp q1)) (fun y6 G7 q8 => ?_)
    refine f ?_
    refine f ?_
    refine f ?_
    refine f ?_
    refine f ?_
    refine And.intro q8.1 ?_
    refine f ?_
    refine f ?_
    refine mo q8.2 (fun y9 G10 q11 => ?_)
    refine f ?_
    refine f ?_
    refine f ?_
    refine f ?_
    refine f ?_
    refine f ?_
    refine f ?_
    exact (q11 _ rfl)
set_option maxHeartbeats 20000000 in
theorem vcX4_dropOldest {a0 : Nat} {G : Mm} {Q : dp_Ps} (h : Wp 47 9 [some (vR 4 a0), some (vR 2 (G.2 (G.2 a0 0) 0)), some (vI (jI 0))] [] G Q) : Sp 47 3 [vR 4 a0] G Q := by
  have f := @fX4_dropOldest
  have mo := @Wp_mono
  revert h f mo
  try unfold Sp
  generalize Wp = X
  intro h f mo
  refine f ?_
  refine f ?_
  refine f ?_
  refine f ?_
  refine And.intro (show vp_in (jI 0) 4 from jI_in (by omega) (by omega) (by omega)) ?_
  refine f ?_
  refine f ?_
  refine f ?_
  exact h
set_option maxHeartbeats 20000000 in
theorem vcX4_dropOldest_9 {a0 a1 : Nat} {x2 : Int32} {G : Mm} {Q : dp_Ps} (h : ((jI 4) ≤ (x2 + (jI 1)) → (∀ G2 : Mm, G2 = wR G (G.2 a0 0) 3 a1 → (∀ G3 : Mm, G3 = wI G2 a0 1 ((G2.1 a0 1) - (jI 1)) → Q (jI 0) G3))) ∧ (¬ (jI 4) ≤ (x2 + (jI 1)) → vp_in (x2 + (jI 1)) 4 ∧ (vp_in x2 4 ∧ (∀ G4 : Mm, G4 = wR G (G.2 a0 0) (x2).toNatClampNeg (G.2 (G.2 a0 0) ((x2 + (jI 1))).toNatClampNeg) → Wp 47 9 [some (vR 4 a0), some (vR 2 a1), some (vI (x2 + (jI 1)))] [] G4 Q)))) : Wp 47 9 [some (vR 4 a0), some (vR 2 a1), some (vI x2)] [] G Q := by
  have f := @fX4_dropOldest
  have mo := @Wp_mono
  revert h f mo
  try unfold Sp
  generalize Wp = X
  intro h f mo
  refine f ?_
  refine f ?_
  refine f ?_
  refine f ?_
  refine f ?_
  refine And.intro (fun q1 => ?_) (fun q1 => ?_)
  · refine f ?_
    refine f ?_
    refine f ?_
    refine f ?_
    refine f ?_
    refine And.intro (show vp_in (jI 3) 4 from jI_in (by omega) (by omega) (by omega)) ?_
    refine f ?_
    refine f ?_
    refine f ?_
    refine f ?_
    refine f ?_
    refine f ?_
    refine f ?_
    exact (((h.1 q1) _ rfl) _ rfl)
  · refine f ?_
    refine f ?_
    refine f ?_
    refine f ?_
    refine f ?_
    refine f ?_
    refine f ?_
    refine f ?_
    refine f ?_
    refine And.intro (h.2 q1).1 ?_
    refine f ?_
    refine And.intro (h.2 q1).2.1 ?_
    refine f ?_
    refine f ?_
    exact ((h.2 q1).2.2 _ rfl)
set_option maxHeartbeats 20000000 in
theorem vcX4_takeBack {a0 a1 : Nat} {G : Mm} {Q : dp_Ps} (h : ((G.1 a0 1) ≤ jI 0 → Q (jI 0) G) ∧ (¬ (G.1 a0 1) ≤ jI 0 → (∀ G2 : Mm, G2 = wI G a0 1 ((G.1 a0 1) - (jI 1)) → vp_in (G2.1 a0 1) 4 ∧ (Sp 12 3 [vR 2 a1, vR 2 (G2.2 (G2.2 a0 0) ((G2.1 a0 1)).toNatClampNeg)] G2 (fun y3 G4 => Q (jI 0) G4))))) : Sp 48 2 [vR 4 a0, vR 2 a1] G Q := by
  have f := @fX4_takeBack
  have mo := @Wp_mono
  revert h f mo
  try unfold Sp
  generalize Wp = X
  intro h f mo
  refine f ?_
  refine f ?_
  refine f ?_
  refine And.intro (fun q1 => ?_) (fun q1 => ?_)
  · refine f ?_
    exact (h.1 q1)
  · refine f ?_
    refine f ?_
    refine f ?_
    refine f ?_
    refine f ?_
    refine f ?_
    refine f ?_
    refine f ?_
    refine f ?_
    refine f ?_
    refine f ?_
    refine f ?_
    refine And.intro ((h.2 q1) _ rfl).1 ?_
    refine f ?_
    refine mo ((h.2 q1) _ rfl).2 (fun y3 G4 q5 => ?_)
    refine f ?_
    exact q5
set_option maxHeartbeats 20000000 in
theorem vcX5_copyFrom {a0 a1 : Nat} {G : Mm} {Q : dp_Ps} (h : (¬ (jI 0) < 0 ∧ ¬ (jI 0) < 0 ∧ ¬ (jI 32) < 0 ∧ ((jI 0)).toNatClampNeg + ((jI 32)).toNatClampNeg ≤ 32 ∧ ((jI 0)).toNatClampNeg + ((jI 32)).toNatClampNeg ≤ 32) ∧ (∀ G1 : Mm, G1 = wC G (G.2 a1 0) ((jI 0)).toNatClampNeg (G.2 a0 0) ((jI 0)).toNatClampNeg ((jI 32)).toNatClampNeg → (∀ G2 : Mm, G2 = wI G1 a0 1 (G1.1 a1 1) → Q (jI 0) G2))) : Sp 49 2 [vR 5 a0, vR 5 a1] G Q := by
  have f := @fX5_copyFrom
  have mo := @Wp_mono
  revert h f mo
  try unfold Sp
  generalize Wp = X
  intro h f mo
  refine f ?_
  refine f ?_
  refine f ?_
  refine f ?_
  refine f ?_
  refine f ?_
  refine f ?_
  refine f ?_
  refine And.intro h.1 ?_
  refine f ?_
  refine f ?_
  refine f ?_
  refine f ?_
  refine f ?_
  exact ((h.2 _ rfl) _ rfl)
set_option maxHeartbeats 20000000 in
theorem vcX5_note {a0 : Nat} {x1 x2 x3 x4 : Int32} {G : Mm} {Q : dp_Ps} (h : ¬ (jI 8) = jI 0 ∧ (vp_in (((G.1 a0 1) - (G.1 a0 1) / (jI 8) * (jI 8)) * (jI 4)) 32 ∧ (∀ G1 : Mm, G1 = wI G (G.2 a0 0) ((((G.1 a0 1) - (G.1 a0 1) / (jI 8) * (jI 8)) * (jI 4))).toNatClampNeg x1 → vp_in ((((G.1 a0 1) - (G.1 a0 1) / (jI 8) * (jI 8)) * (jI 4)) + (jI 1)) 32 ∧ (∀ G2 : Mm, G2 = wI G1 (G1.2 a0 0) (((((G.1 a0 1) - (G.1 a0 1) / (jI 8) * (jI 8)) * (jI 4)) + (jI 1))).toNatClampNeg x2 → vp_in ((((G.1 a0 1) - (G.1 a0 1) / (jI 8) * (jI 8)) * (jI 4)) + (jI 2)) 32 ∧ (∀ G3 : Mm, G3 = wI G2 (G2.2 a0 0) (((((G.1 a0 1) - (G.1 a0 1) / (jI 8) * (jI 8)) * (jI 4)) + (jI 2))).toNatClampNeg x3 → vp_in ((((G.1 a0 1) - (G.1 a0 1) / (jI 8) * (jI 8)) * (jI 4)) + (jI 3)) 32 ∧ (∀ G4 : Mm, G4 = wI G3 (G3.2 a0 0) (((((G.1 a0 1) - (G.1 a0 1) / (jI 8) * (jI 8)) * (jI 4)) + (jI 3))).toNatClampNeg x4 → (∀ G5 : Mm, G5 = wI G4 a0 1 ((G4.1 a0 1) + (jI 1)) → Q (jI 0) G5))))))) : Sp 50 6 [vR 5 a0, vI x1, vI x2, vI x3, vI x4] G Q := by
  have f := @fX5_note
  have mo := @Wp_mono
  revert h f mo
  try unfold Sp
  generalize Wp = X
  intro h f mo
  refine f ?_
  refine f ?_
  refine f ?_
  refine f ?_
  refine And.intro h.1 ?_
  refine f ?_
  refine f ?_
  refine f ?_
  refine f ?_
  refine f ?_
  refine f ?_
  refine f ?_
  refine f ?_
  refine And.intro h.2.1 ?_
  refine f ?_
  refine f ?_
  refine f ?_
  refine f ?_
  refine f ?_
  refine f ?_
  refine f ?_
  refine And.intro (h.2.2 _ rfl).1 ?_
  refine f ?_
  refine f ?_
  refine f ?_
  refine f ?_
  refine f ?_
  refine f ?_
  refine f ?_
  refine And.intro ((h.2.2 _ rfl).2 _ rfl).1 ?_
  refine f ?_
  refine f ?_
  refine f ?_
  refine f ?_
  refine f ?_
  refine f ?_
  refine f ?_
  refine And.intro (((h.2.2 _ rfl).2 _ rfl).2 _ rfl).1 ?_
  refine f ?_
  refine f ?_
  refine f ?_
  refine f ?_
  refine f ?_
  refine f ?_
  refine f ?_
  exact (((((h.2.2 _ rfl).2 _ rfl).2 _ rfl).2 _ rfl) _ rfl)
set_option maxHeartbeats 20000000 in
theorem vcX5_tell {a0 : Nat} {x1 x2 : Int32} {G : Mm} {Q : dp_Ps} (h : (x1 < jI 0 → Q (jI (-1002)) G) ∧ (¬ x1 < jI 0 → (x2 < jI 0 → Q (jI (-1002)) G) ∧ (¬ x2 < jI 0 → (x2 < (jI 4) → ((jI 8) ≤ x1 → Q (jI (-1005)) G) ∧ (¬ (jI 8) ≤ x1 → (x1 < (G.1 a0 1) → ¬ (jI 8) = jI 0 ∧ (vp_in ((((((G.1 a0 1) - (jI 1)) - x1) - (((G.1 a0 1) - (jI 1)) - x1) / (jI 8) * (jI 8)) * (jI 4)) + x2) 32 ∧ (Q (G.1 (G.2 a0 0) (((((((G.1 a0 1) - (jI 1)) - x1) - (((G.1 a0 1) - (jI 1)) - x1) / (jI 8) * (jI 8)) * (jI 4)) + x2)).toNatClampNeg) G))) ∧ (¬ x1 < (G.1 a0 1) → Q (jI (-1005)) G))) ∧ (¬ x2 < (jI 4) → Q (jI (-1002)) G)))) : Sp 51 3 [vR 5 a0, vI x1, vI x2] G Q := by
  have f := @fX5_tell
  have mo := @Wp_mono
  revert h f mo
  try unfold Sp
  generalize Wp = X
  intro h f mo
  refine f ?_
  refine f ?_
  refine And.intro (fun q1 => ?_) (fun q1 => ?_)
  · refine f ?_
    refine f ?_
    exact (h.1 q1)
  · refine f ?_
    refine f ?_
    refine And.intro (fun q2 => ?_) (fun q2 => ?_)
    · refine f ?_
      refine f ?_
      exact ((h.2 q1).1 q2)
    · refine f ?_
      refine f ?_
      refine f ?_
      refine And.intro (fun q3 => ?_) (fun q3 => ?_)
      · refine f ?_
        refine f ?_
        refine f ?_
        refine And.intro (fun q4 => ?_) (fun q4 => ?_)
        · refine f ?_
          refine f ?_
          exact ((((h.2 q1).2 q2).1 q3).1 q4)
        · refine f ?_
          refine f ?_
          refine f ?_
          refine f ?_
          refine And.intro (fun q5 => ?_) (fun q5 => ?_)
          · refine f ?_
            refine f ?_
            refine f ?_
            refine f ?_
            refine f ?_
            refine f ?_
            refine f ?_
            refine f ?_
            refine f ?_
            refine f ?_
            refine And.intro (((((h.2 q1).2 q2).1 q3).2 q4).1 q5).1 ?_
            refine f ?_
            refine f ?_
            refine f ?_
            refine f ?_
            refine f ?_
            refine And.intro (((((h.2 q1).2 q2).1 q3).2 q4).1 q5).2.1 ?_
            refine f ?_
            exact (((((h.2 q1).2 q2).1 q3).2 q4).1 q5).2.2
          · refine f ?_
            refine f ?_
            exact (((((h.2 q1).2 q2).1 q3).2 q4).2 q5)
      · refine f ?_
        refine f ?_
        exact (((h.2 q1).2 q2).2 q3)
set_option maxHeartbeats 20000000 in
theorem vcX6_clear {a0 : Nat} {G : Mm} {Q : dp_Ps} (h : (∀ G1 : Mm, G1 = wI G a0 0 (jI 0) → (∀ G2 : Mm, G2 = wI G1 a0 1 (jI 0) → (∀ G3 : Mm, G3 = wI G2 a0 2 (jI 0) → (∀ G4 : Mm, G4 = wI G3 a0 3 (jI 0) → (∀ G5 : Mm, G5 = wI G4 a0 4 (jI 0) → (∀ G6 : Mm, G6 = wI G5 a0 5 (jI 0) → Q (jI 0) G6))))))) : Sp 52 1 [vR 6 a0] G Q := by
  have f := @fX6_clear
  have mo := @Wp_mono
  revert h f mo
  try unfold Sp
  generalize Wp = X
  intro h f mo
  refine f ?_
  refine f ?_
  refine f ?_
  refine f ?_
  refine f ?_
  refine f ?_
  refine f ?_
  refine f ?_
  refine f ?_
  refine f ?_
  refine f ?_
  refine f ?_
  refine f ?_
  refine f ?_
  refine f ?_
  refine f ?_
  refine f ?_
  refine f ?_
  refine f ?_
  exact ((((((h _ rfl) _ rfl) _ rfl) _ rfl) _ rfl) _ rfl)
set_option maxHeartbeats 20000000 in
theorem vcX6_copyFrom {a0 a1 : Nat} {G : Mm} {Q : dp_Ps} (h : (∀ G1 : Mm, G1 = wI G a0 0 (G.1 a1 0) → (∀ G2 : Mm, G2 = wI G1 a0 1 (G1.1 a1 1) → (∀ G3 : Mm, G3 = wI G2 a0 2 (G2.1 a1 2) → (∀ G4 : Mm, G4 = wI G3 a0 3 (G3.1 a1 3) → (∀ G5 : Mm, G5 = wI G4 a0 4 (G4.1 a1 4) → (∀ G6 : Mm, G6 = wI G5 a0 5 (G5.1 a1 5) → Q (jI 0) G6))))))) : Sp 53 2 [vR 6 a0, vR 6 a1] G Q := by
  have f := @fX6_copyFrom
  have mo := @Wp_mono
  revert h f mo
  try unfold Sp
  generalize Wp = X
  intro h f mo
  refine f ?_
  refine f ?_
  refine f ?_
  refine f ?_
  refine f ?_
  refine f ?_
  refine f ?_
  refine f ?_
  refine f ?_
  refine f ?_
  refine f ?_
  refine f ?_
  refine f ?_
  refine f ?_
  refine f ?_
  refine f ?_
  refine f ?_
  refine f ?_
  refine f ?_
  refine f ?_
  refine f ?_
  refine f ?_
  refine f ?_
  refine f ?_
  refine f ?_
  exact ((((((h _ rfl) _ rfl) _ rfl) _ rfl) _ rfl) _ rfl)
set_option maxHeartbeats 20000000 in
theorem vcX6_noteRing {a0 : Nat} {x1 : Int32} {G : Mm} {Q : dp_Ps} (h : (∀ G1 : Mm, G1 = wI G a0 0 ((G.1 a0 0) + (jI 1)) → (∀ G2 : Mm, G2 = wI G1 a0 1 ((G1.1 a0 1) + x1) → (∀ G3 : Mm, G3 = wI G2 a0 2 (if (G2.1 a0 2) < x1 then x1 else (G2.1 a0 2)) → Q (jI 0) G3)))) : Sp 54 2 [vR 6 a0, vI x1] G Q := by
  have f := @fX6_noteRing
  have mo := @Wp_mono
  revert h f mo
  try unfold Sp
  generalize Wp = X
  intro h f mo
  refine f ?_
  refine f ?_
  refine f ?_
  refine f ?_
  refine f ?_
  refine f ?_
  refine f ?_
  refine f ?_
  refine f ?_
  refine f ?_
  refine f ?_
  refine f ?_
  refine f ?_
  refine f ?_
  refine f ?_
  refine f ?_
  refine f ?_
  refine f ?_
  refine f ?_
  exact (((h _ rfl) _ rfl) _ rfl)
