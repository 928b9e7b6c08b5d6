/-! ===== what each method asks, from its entry and from each loop head on: printed by a program ===== -/
set_option maxHeartbeats 20000000 in
theorem vcX2_copyFrom {a0 a1 : Nat} {G : Mm} {Q : dp_Ps} (h : (∀ G1 : Mm, G1 = wI G a0 0 (G.1 a1 0) → (∀ G2 : Mm, G2 = wI G1 a0 1 (G1.1 a1 1) → (∀ G3 : Mm, G3 = wI G2 a0 2 (G2.1 a1 2) → (∀ G4 : Mm, G4 = wI G3 a0 3 (G3.1 a1 3) → (∀ G5 : Mm, G5 = wI G4 a0 4 (G4.1 a1 4) → (∀ G6 : Mm, G6 = wI G5 a0 5 (G5.1 a1 5) → (∀ G7 : Mm, G7 = wI G6 a0 6 (G6.1 a1 6) → (∀ G8 : Mm, G8 = wI G7 a0 7 (G7.1 a1 7) → Wp 12 66 [some (vR 2 a0), some (vR 2 a1), some (vI (jI 0))] [] G8 Q))))))))) : Sp 12 3 [vR 2 a0, vR 2 a1] G Q := by
  have f := @fX2_copyFrom
  have mo := @Wp_mono
  revert h f mo
  try unfold Sp
  generalize Wp = X
  intro h f mo
  refine f ?_
  refine f ?_
  refine f ?_
  refine f ?_
  refine f ?_
  refine f ?_
  refine f ?_
  refine f ?_
  refine f ?_
  refine f ?_
  refine f ?_
  refine f ?_
  refine f ?_
  refine f ?_
  refine f ?_
  refine f ?_
  refine f ?_
  refine f ?_
  refine f ?_
  refine f ?_
  refine f ?_
  refine f ?_
  refine f ?_
  refine f ?_
  refine f ?_
  refine f ?_
  refine f ?_
  refine f ?_
  refine f ?_
  refine f ?_
  refine f ?_
  refine f ?_
  refine f ?_
  refine f ?_
  exact ((((((((h _ rfl) _ rfl) _ rfl) _ rfl) _ rfl) _ rfl) _ rfl) _ rfl)
set_option maxHeartbeats 20000000 in
theorem vcX2_copyFrom_66 {a0 a1 : Nat} {x2 : Int32} {G : Mm} {Q : dp_Ps} (h : ((G.1 a0 5) ≤ x2 → Wp 12 97 [some (vR 2 a0), some (vR 2 a1), some (vI (jI 0))] [] G Q) ∧ (¬ (G.1 a0 5) ≤ x2 → vp_in x2 20 ∧ (vp_in x2 20 ∧ (Sp 1 2 [vR 0 (G.2 (G.2 a0 8) (x2).toNatClampNeg), vR 0 (G.2 (G.2 a1 8) (x2).toNatClampNeg)] G (fun y2 G3 => Wp 12 66 [some (vR 2 a0), some (vR 2 a1), some (vI (x2 + (jI 1)))] [] G3 Q))))) : Wp 12 66 [some (vR 2 a0), some (vR 2 a1), some (vI x2)] [] G Q := by
  have f := @fX2_copyFrom
  have mo := @Wp_mono
  revert h f mo
  try unfold Sp
  generalize Wp = X
  intro h f mo
  refine f ?_
  refine f ?_
  refine f ?_
  refine f ?_
  refine And.intro (fun q1 => ?_) (fun q1 => ?_)
  · refine f ?_
    refine f ?_
    exact (h.1 q1)
  · refine f ?_
    refine f ?_
    refine f ?_
    refine f ?_
    refine And.intro (h.2 q1).1 ?_
    refine f ?_
    refine f ?_
    refine f ?_
    refine f ?_
    refine And.intro (h.2 q1).2.1 ?_
    refine f ?_
    refine mo (h.2 q1).2.2 (fun y2 G3 q4 => ?_)
    refine f ?_
    refine f ?_
    exact q4
set_option maxHeartbeats 20000000 in
theorem vcX2_copyFrom_97 {a0 a1 : Nat} {x2 : Int32} {G : Mm} {Q : dp_Ps} (h : ((jI 4) ≤ x2 → Sp 53 2 [vR 6 (G.2 a0 10), vR 6 (G.2 a1 10)] G (fun y2 G3 => Sp 49 2 [vR 5 (G3.2 a0 11), vR 5 (G3.2 a1 11)] G3 (fun y5 G6 => Q (jI 0) G6))) ∧ (¬ (jI 4) ≤ x2 → vp_in x2 4 ∧ (vp_in x2 4 ∧ (Sp 38 2 [vR 3 (G.2 (G.2 a0 9) (x2).toNatClampNeg), vR 3 (G.2 (G.2 a1 9) (x2).toNatClampNeg)] G (fun y8 G9 => Wp 12 97 [some (vR 2 a0), some (vR 2 a1), some (vI (x2 + (jI 1)))] [] G9 Q))))) : Wp 12 97 [some (vR 2 a0), some (vR 2 a1), some (vI x2)] [] G Q := by
  have f := @fX2_copyFrom
  have mo := @Wp_mono
  revert h f mo
  try unfold Sp
  generalize Wp = X
  intro h f mo
  refine f ?_
  refine f ?_
  refine f ?_
  refine And.intro (fun q1 => ?_) (fun q1 => ?_)
  · refine f ?_
    refine f ?_
    refine f ?_
    refine f ?_
    refine f ?_
    refine mo (h.1 q1) (fun y2 G3 q4 => ?_)
    refine f ?_
    refine f ?_
    refine f ?_
    refine f ?_
    refine f ?_
    refine mo q4 (fun y5 G6 q7 => ?_)
    refine f ?_
    exact q7
  · refine f ?_
    refine f ?_
    refine f ?_
    refine f ?_
    refine And.intro (h.2 q1).1 ?_
    refine f ?_
    refine f ?_
    refine f ?_
    refine f ?_
    refine And.intro (h.2 q1).2.1 ?_
    refine f ?_
    refine mo (h.2 q1).2.2 (fun y8 G9 q10 => ?_)
    refine f ?_
    refine f ?_
    exact q10
set_option maxHeartbeats 20000000 in
theorem vcX2_hasRoomFor {a0 : Nat} {x1 : Int32} {G : Mm} {Q : dp_Ps} (h : ((jI 20) < ((G.1 a0 5) + x1) → Q (jI 0) G) ∧ (¬ (jI 20) < ((G.1 a0 5) + x1) → ((jI 500) < ((G.1 a0 6) + x1) → Q (jI 0) G) ∧ (¬ (jI 500) < ((G.1 a0 6) + x1) → Q (jI 1) G))) : Sp 13 2 [vR 2 a0, vI x1] G Q := by
  have f := @fX2_hasRoomFor
  have mo := @Wp_mono
  revert h f mo
  try unfold Sp
  generalize Wp = X
  intro h f mo
  refine f ?_
  refine f ?_
  refine f ?_
  refine f ?_
  refine f ?_
  refine f ?_
  refine And.intro (fun q1 => ?_) (fun q1 => ?_)
  · refine f ?_
    refine f ?_
    exact And.intro (Or.inl rfl) (h.1 q1)
  · refine f ?_
    refine f ?_
    refine f ?_
    refine f ?_
    refine f ?_
    refine f ?_
    refine And.intro (fun q2 => ?_) (fun q2 => ?_)
    · refine f ?_
      refine f ?_
      exact And.intro (Or.inl rfl) ((h.2 q1).1 q2)
    · refine f ?_
      refine f ?_
      refine f ?_
      exact And.intro (Or.inr rfl) ((h.2 q1).2 q2)
set_option maxHeartbeats 20000000 in
theorem vcX2_placeOf {a0 : Nat} {x1 : Int32} {G : Mm} {Q : dp_Ps} (h : Wp 14 2 [some (vR 2 a0), some (vI x1), some (vI (jI 0))] [] G Q) : Sp 14 3 [vR 2 a0, vI x1] G Q := by
  have f := @fX2_placeOf
  have mo := @Wp_mono
  revert h f mo
  try unfold Sp
  generalize Wp = X
  intro h f mo
  refine f ?_
  refine f ?_
  exact h
set_option maxHeartbeats 20000000 in
theorem vcX2_placeOf_2 {a0 : Nat} {x1 x2 : Int32} {G : Mm} {Q : dp_Ps} (h : ((G.1 a0 5) ≤ x2 → Q (jI (-1)) G) ∧ (¬ (G.1 a0 5) ≤ x2 → vp_in x2 20 ∧ (((G.1 (G.2 (G.2 a0 8) (x2).toNatClampNeg) 0) = x1 → Q x2 G) ∧ (¬ (G.1 (G.2 (G.2 a0 8) (x2).toNatClampNeg) 0) = x1 → Wp 14 2 [some (vR 2 a0), some (vI x1), some (vI (x2 + (jI 1)))] [] G Q)))) : Wp 14 2 [some (vR 2 a0), some (vI x1), some (vI x2)] [] G Q := by
  have f := @fX2_placeOf
  have mo := @Wp_mono
  revert h f mo
  try unfold Sp
  generalize Wp = X
  intro h f mo
  refine f ?_
  refine f ?_
  refine f ?_
  refine f ?_
  refine And.intro (fun q1 => ?_) (fun q1 => ?_)
  · refine f ?_
    refine f ?_
    exact (h.1 q1)
  · refine f ?_
    refine f ?_
    refine f ?_
    refine f ?_
    refine And.intro (h.2 q1).1 ?_
    refine f ?_
    refine f ?_
    refine f ?_
    refine And.intro (fun q2 => ?_) (fun q2 => ?_)
    · refine f ?_
      refine f ?_
      exact ((h.2 q1).2.2 q2)
    · refine f ?_
      refine f ?_
      exact ((h.2 q1).2.1 (Classical.not_not.mp q2))
set_option maxHeartbeats 20000000 in
theorem vcX2_hasRungSince {a0 : Nat} {x1 x2 : Int32} {G : Mm} {Q : dp_Ps} (h : Sp 14 3 [vR 2 a0, vI x1] G (fun y1 G2 => (y1 = (jI (-1)) → Q (jI 1) G2) ∧ (¬ y1 = (jI (-1)) → vp_in y1 20 ∧ (((G2.1 (G2.2 (G2.2 a0 8) (y1).toNatClampNeg) 5) ≤ x2 → Q (jI 0) G2) ∧ (¬ (G2.1 (G2.2 (G2.2 a0 8) (y1).toNatClampNeg) 5) ≤ x2 → Q (jI 1) G2))))) : Sp 15 4 [vR 2 a0, vI x1, vI x2] G Q := by
  have f := @fX2_hasRungSince
  have mo := @Wp_mono
  revert h f mo
  try unfold Sp
  generalize Wp = X
  intro h f mo
  refine f ?_
  refine f ?_
  refine f ?_
  refine mo h (fun y1 G2 q3 => ?_)
  refine f ?_
  refine f ?_
  refine f ?_
  refine f ?_
  refine And.intro (fun q4 => ?_) (fun q4 => ?_)
  · refine f ?_
    refine f ?_
    refine f ?_
    exact And.intro (Or.inr rfl) (q3.1 q4)
  · refine f ?_
    refine f ?_
    refine f ?_
    refine f ?_
    refine And.intro (q3.2 q4).1 ?_
    refine f ?_
    refine f ?_
    refine f ?_
    refine And.intro (fun q5 => ?_) (fun q5 => ?_)
    · refine f ?_
      refine f ?_
      exact And.intro (Or.inl rfl) ((q3.2 q4).2.1 q5)
    · refine f ?_
      refine f ?_
      refine f ?_
      exact And.intro (Or.inr rfl) ((q3.2 q4).2.2 q5)
set_option maxHeartbeats 20000000 in
theorem vcX2_addAlarm {a0 : Nat} {x1 x2 x3 : Int32} {G : Mm} {Q : dp_Ps} (h : Sp 13 2 [vR 2 a0, vI (jI 1)] G (fun y1 G2 => (y1 = jI 0 → Q (jI (-1003)) G2) ∧ (¬ y1 = jI 0 → vp_in (G2.1 a0 5) 20 ∧ (Sp 0 5 [vR 0 (G2.2 (G2.2 a0 8) ((G2.1 a0 5)).toNatClampNeg), vI (G2.1 a0 6), vI x1, vI x2, vI x3] G2 (fun y5 G6 => (∀ G8 : Mm, G8 = wI G6 a0 5 ((G6.1 a0 5) + (jI 1)) → (∀ G9 : Mm, G9 = wI G8 a0 6 ((G8.1 a0 6) + (jI 1)) → Sp 19 4 [vR 2 a0] G9 (fun y10 G11 => Sp 31 3 [vR 2 a0] G11 (fun y13 G14 => Q (G2.1 a0 6) G14))))))))) : Sp 16 5 [vR 2 a0, vI x1, vI x2, vI x3] G Q := by
  have f := @fX2_addAlarm
  have mo := @Wp_mono
  revert h f mo
  try unfold Sp
  generalize Wp = X
  intro h f mo
  refine f ?_
  refine f ?_
  refine f ?_
  refine mo h (fun y1 G2 q3 => ?_)
  refine f ?_
  refine And.intro (fun q4 => ?_) (fun q4 => ?_)
  · refine f ?_
    refine f ?_
    refine f ?_
    refine f ?_
    refine f ?_
    refine f ?_
    refine f ?_
    refine f ?_
    refine And.intro (q3.2 q4).1 ?_
    refine f ?_
    refine f ?_
    refine f ?_
    refine f ?_
    refine f ?_
    refine mo (q3.2 q4).2 (fun y5 G6 q7 => ?_)
    refine f ?_
    refine f ?_
    refine f ?_
    refine f ?_
    refine f ?_
    refine f ?_
    refine f ?_
    refine f ?_
    refine f ?_
    refine f ?_
    refine f ?_
    refine f ?_
    refine f ?_
    refine f ?_
    refine mo ((q7 _ rfl) _ rfl) (fun y10 G11 q12 => ?_)
    refine f ?_
    refine f ?_
    refine mo q12 (fun y13 G14 q15 => ?_)
    refine f ?_
    refine f ?_
    exact q15
  · refine f ?_
    refine f ?_
    exact (q3.1 (Classical.not_not.mp q4))
set_option maxHeartbeats 20000000 in
theorem vcX2_cancelAlarm {a0 : Nat} {x1 : Int32} {G : Mm} {Q : dp_Ps} (h : vp_in x1 20 ∧ (Sp 28 5 [vR 2 a0, vR 0 (G.2 (G.2 a0 8) (x1).toNatClampNeg)] G (fun y1 G2 => Sp 20 4 [vR 2 a0, vI x1] G2 (fun y4 G5 => Sp 31 3 [vR 2 a0] G5 (fun y7 G8 => Q (jI 0) G8))))) : Sp 17 2 [vR 2 a0, vI x1] G Q := by
  have f := @fX2_cancelAlarm
  have mo := @Wp_mono
  revert h f mo
  try unfold Sp
  generalize Wp = X
  intro h f mo
  refine f ?_
  refine f ?_
  refine f ?_
  refine f ?_
  refine f ?_
  refine And.intro h.1 ?_
  refine f ?_
  refine mo h.2 (fun y1 G2 q3 => ?_)
  refine f ?_
  refine f ?_
  refine f ?_
  refine mo q3 (fun y4 G5 q6 => ?_)
  refine f ?_
  refine f ?_
  refine mo q6 (fun y7 G8 q9 => ?_)
  refine f ?_
  exact q9
set_option maxHeartbeats 20000000 in
theorem vcX2_moveAlarm {a0 : Nat} {x1 x2 : Int32} {G : Mm} {Q : dp_Ps} (h : vp_in x1 20 ∧ (Sp 28 5 [vR 2 a0, vR 0 (G.2 (G.2 a0 8) (x1).toNatClampNeg)] G (fun y1 G2 => (∀ G4 : Mm, G4 = wI G2 (G.2 (G.2 a0 8) (x1).toNatClampNeg) 1 x2 → Sp 19 4 [vR 2 a0] G4 (fun y5 G6 => Sp 31 3 [vR 2 a0] G6 (fun y8 G9 => Q (jI 0) G9)))))) : Sp 18 4 [vR 2 a0, vI x1, vI x2] G Q := by
  have f := @fX2_moveAlarm
  have mo := @Wp_mono
  revert h f mo
  try unfold Sp
  generalize Wp = X
  intro h f mo
  refine f ?_
  refine f ?_
  refine f ?_
  refine f ?_
  refine And.intro h.1 ?_
  refine f ?_
  refine f ?_
  refine f ?_
  refine f ?_
  refine mo h.2 (fun y1 G2 q3 => ?_)
  refine f ?_
  refine f ?_
  refine f ?_
  refine f ?_
  refine f ?_
  refine mo (q3 _ rfl) (fun y5 G6 q7 => ?_)
  refine f ?_
  refine f ?_
  refine mo q7 (fun y8 G9 q10 => ?_)
  refine f ?_
  exact q10
set_option maxHeartbeats 20000000 in
theorem vcX2_sortAlarms {a0 : Nat} {G : Mm} {Q : dp_Ps} (h : Wp 19 2 [some (vR 2 a0), some (vI (jI 1)), none, none] [] G Q) : Sp 19 4 [vR 2 a0] G Q := by
  have f := @fX2_sortAlarms
  have mo := @Wp_mono
  revert h f mo
  try unfold Sp
  generalize Wp = X
  intro h f mo
  refine f ?_
  refine f ?_
  exact h
set_option maxHeartbeats 20000000 in
theorem vcX2_sortAlarms_2 {a0 : Nat} {x1 : Int32} {w2 w3 : Option Vl} {G : Mm} {Q : dp_Ps} (h : ((G.1 a0 5) ≤ x1 → Q (jI 0) G) ∧ (¬ (G.1 a0 5) ≤ x1 → Wp 19 12 [some (vR 2 a0), some (vI x1), some (vI x1), w3] [] G Q)) : Wp 19 2 [some (vR 2 a0), some (vI x1), w2, w3] [] G Q := by
  have f := @fX2_sortAlarms
  have mo := @Wp_mono
  revert h f mo
  try unfold Sp
  generalize Wp = X
  intro h f mo
  refine f ?_
  refine f ?_
  refine f ?_
  refine f ?_
  refine And.intro (fun q1 => ?_) (fun q1 => ?_)
  · refine f ?_
    exact (h.1 q1)
  · refine f ?_
    refine f ?_
    exact (h.2 q1)
set_option maxHeartbeats 20000000 in
theorem vcX2_sortAlarms_12 {a0 : Nat} {x1 x2 : Int32} {w3 : Option Vl} {G : Mm} {Q : dp_Ps} (h : (x2 ≤ jI 0 → Wp 19 2 [some (vR 2 a0), some (vI (x1 + (jI 1))), some (vI x2), w3] [] G Q) ∧ (¬ x2 ≤ jI 0 → vp_in x2 20 ∧ (vp_in (x2 - (jI 1)) 20 ∧ (Sp 2 2 [vR 0 (G.2 (G.2 a0 8) (x2).toNatClampNeg), vR 0 (G.2 (G.2 a0 8) ((x2 - (jI 1))).toNatClampNeg)] G (fun y2 G3 => (y2 = jI 0 → Wp 19 2 [some (vR 2 a0), some (vI (x1 + (jI 1))), some (vI x2), w3] [] G3 Q) ∧ (¬ y2 = jI 0 → vp_in x2 20 ∧ (vp_in (x2 - (jI 1)) 20 ∧ (vp_in x2 20 ∧ (∀ G6 : Mm, G6 = wR G3 (G3.2 a0 8) (x2).toNatClampNeg (G3.2 (G3.2 a0 8) ((x2 - (jI 1))).toNatClampNeg) → vp_in (x2 - (jI 1)) 20 ∧ (∀ G7 : Mm, G7 = wR G6 (G6.2 a0 8) ((x2 - (jI 1))).toNatClampNeg (G3.2 (G3.2 a0 8) (x2).toNatClampNeg) → Wp 19 12 [some (vR 2 a0), some (vI x1), some (vI (x2 + (jI (-1)))), some (vR 0 (G3.2 (G3.2 a0 8) (x2).toNatClampNeg))] [] G7 Q)))))))))) : Wp 19 12 [some (vR 2 a0), some (vI x1), some (vI x2), w3] [] G Q := by
  have f := @fX2_sortAlarms
  have mo := @Wp_mono
  revert h f mo
  try unfold Sp
  generalize Wp = X
  intro h f mo
  refine f ?_
  refine f ?_
  refine And.intro (fun q1 => ?_) (fun q1 => ?_)
  · refine f ?_
    refine f ?_
    exact (h.1 q1)
  · refine f ?_
    refine f ?_
    refine f ?_
    refine f ?_
    refine And.intro (h.2 q1).1 ?_
    refine f ?_
    refine f ?_
    refine f ?_
    refine f ?_
    refine f ?_
    refine f ?_
    refine And.intro (h.2 q1).2.1 ?_
    refine f ?_
    refine mo (h.2 q1).2.2 (fun y2 G3 q4 => ?_)
    refine f ?_
    refine And.intro (fun q5 => ?_) (fun q5 => ?_)
    · refine f ?_
      refine f ?_
      exact (q4.1 q5)
    · refine f ?_
      refine f ?_
      refine f ?_
      refine f ?_
      refine And.intro (q4.2 q5).1 ?_
      refine f ?_
      refine f ?_
      refine f ?_
      refine f ?_
      refine f ?_
      refine f ?_
      refine f ?_
      refine f ?_
      refine f ?_
      refine f ?_
      refine And.intro (q4.2 q5).2.1 ?_
      refine f ?_
      refine And.intro (q4.2 q5).2.2.1 ?_
      refine f ?_
      refine f ?_
      refine f ?_
      refine f ?_
      refine f ?_
      refine f ?_
      refine f ?_
      refine And.intro ((q4.2 q5).2.2.2 _ rfl).1 ?_
      refine f ?_
      refine f ?_
      exact (((q4.2 q5).2.2.2 _ rfl).2 _ rfl)
set_option maxHeartbeats 20000000 in
theorem vcX2_removeAlarm {a0 : Nat} {x1 : Int32} {G : Mm} {Q : dp_Ps} (h : vp_in x1 20 ∧ (Wp 20 9 [some (vR 2 a0), some (vI x1), some (vR 0 (G.2 (G.2 a0 8) (x1).toNatClampNeg)), some (vI x1)] [] G Q)) : Sp 20 4 [vR 2 a0, vI x1] G Q := by
  have f := @fX2_removeAlarm
  have mo := @Wp_mono
  revert h f mo
  try unfold Sp
  generalize Wp = X
  intro h f mo
  refine f ?_
  refine f ?_
  refine f ?_
  refine f ?_
  refine And.intro h.1 ?_
  refine f ?_
  refine f ?_
  refine f ?_
  exact h.2
set_option maxHeartbeats 20000000 in
theorem vcX2_removeAlarm_9 {a0 a2 : Nat} {x3 : Int32} {w1 : Option Vl} {G : Mm} {Q : dp_Ps} (h : ((G.1 a0 5) ≤ (x3 + (jI 1)) → (∀ G2 : Mm, G2 = wI G a0 5 ((G.1 a0 5) - (jI 1)) → vp_in (G2.1 a0 5) 20 ∧ (∀ G3 : Mm, G3 = wR G2 (G2.2 a0 8) ((G2.1 a0 5)).toNatClampNeg a2 → Q (jI 0) G3))) ∧ (¬ (G.1 a0 5) ≤ (x3 + (jI 1)) → vp_in (x3 + (jI 1)) 20 ∧ (vp_in x3 20 ∧ (∀ G4 : Mm, G4 = wR G (G.2 a0 8) (x3).toNatClampNeg (G.2 (G.2 a0 8) ((x3 + (jI 1))).toNatClampNeg) → Wp 20 9 [some (vR 2 a0), w1, some (vR 0 a2), some (vI (x3 + (jI 1)))] [] G4 Q)))) : Wp 20 9 [some (vR 2 a0), w1, some (vR 0 a2), some (vI x3)] [] G Q := by
  have f := @fX2_removeAlarm
  have mo := @Wp_mono
  revert h f mo
  try unfold Sp
  generalize Wp = X
  intro h f mo
  refine f ?_
  refine f ?_
  refine f ?_
  refine f ?_
  refine f ?_
  refine f ?_
  refine And.intro (fun q1 => ?_) (fun q1 => ?_)
  · refine f ?_
    refine f ?_
    refine f ?_
    refine f ?_
    refine f ?_
    refine f ?_
    refine f ?_
    refine f ?_
    refine f ?_
    refine f ?_
    refine f ?_
    refine f ?_
    refine And.intro ((h.1 q1) _ rfl).1 ?_
    refine f ?_
    exact (((h.1 q1) _ rfl).2 _ rfl)
  · refine f ?_
    refine f ?_
    refine f ?_
    refine f ?_
    refine f ?_
    refine f ?_
    refine f ?_
    refine f ?_
    refine f ?_
    refine And.intro (h.2 q1).1 ?_
    refine f ?_
    refine And.intro (h.2 q1).2.1 ?_
    refine f ?_
    refine f ?_
    exact ((h.2 q1).2.2 _ rfl)
set_option maxHeartbeats 20000000 in
theorem vcX2_alarmsWithoutComparer {a0 : Nat} {G : Mm} {Q : dp_Ps} (h : Wp 21 4 [some (vR 2 a0), some (vI (jI 0)), some (vI (jI 0))] [] G Q) : Sp 21 3 [vR 2 a0] G Q := by
  have f := @fX2_alarmsWithoutComparer
  have mo := @Wp_mono
  revert h f mo
  try unfold Sp
  generalize Wp = X
  intro h f mo
  refine f ?_
  refine f ?_
  refine f ?_
  refine f ?_
  exact h
set_option maxHeartbeats 20000000 in
theorem vcX2_alarmsWithoutComparer_4 {a0 : Nat} {x1 x2 : Int32} {G : Mm} {Q : dp_Ps} (h : ((G.1 a0 5) ≤ x2 → Q x1 G) ∧ (¬ (G.1 a0 5) ≤ x2 → vp_in x2 20 ∧ (((G.1 (G.2 (G.2 a0 8) (x2).toNatClampNeg) 4) = (jI (-1005)) → Wp 21 4 [some (vR 2 a0), some (vI (x1 + (jI 1))), some (vI (x2 + (jI 1)))] [] G Q) ∧ (¬ (G.1 (G.2 (G.2 a0 8) (x2).toNatClampNeg) 4) = (jI (-1005)) → Wp 21 4 [some (vR 2 a0), some (vI x1), some (vI (x2 + (jI 1)))] [] G Q)))) : Wp 21 4 [some (vR 2 a0), some (vI x1), some (vI x2)] [] G Q := by
  have f := @fX2_alarmsWithoutComparer
  have mo := @Wp_mono
  revert h f mo
  try unfold Sp
  generalize Wp = X
  intro h f mo
  refine f ?_
  refine f ?_
  refine f ?_
  refine f ?_
  refine And.intro (fun q1 => ?_) (fun q1 => ?_)
  · refine f ?_
    refine f ?_
    exact (h.1 q1)
  · refine f ?_
    refine f ?_
    refine f ?_
    refine f ?_
    refine And.intro (h.2 q1).1 ?_
    refine f ?_
    refine f ?_
    refine f ?_
    refine And.intro (fun q2 => ?_) (fun q2 => ?_)
    · refine f ?_
      refine f ?_
      exact ((h.2 q1).2.2 q2)
    · refine f ?_
      refine f ?_
      refine f ?_
      exact ((h.2 q1).2.1 (Classical.not_not.mp q2))
set_option maxHeartbeats 20000000 in
theorem vcX2_tick {a0 : Nat} {G : Mm} {Q : dp_Ps} (h : (∀ G1 : Mm, G1 = wI G a0 1 ((G.1 a0 1) + (jI 1)) → Sp 23 1 [vR 2 a0] G1 (fun y2 G3 => (∀ G5 : Mm, G5 = wI G3 a0 0 ((G1.1 a0 0) + y2) → Wp 22 25 [some (vR 2 a0), some (vI (jI 0)), none] [] G5 Q)))) : Sp 22 3 [vR 2 a0] G Q := by
  have f := @fX2_tick
  have mo := @Wp_mono
  revert h f mo
  try unfold Sp
  generalize Wp = X
  intro h f mo
  refine f ?_
  refine f ?_
  refine f ?_
  refine f ?_
  refine f ?_
  refine f ?_
  refine f ?_
  refine f ?_
  refine f ?_
  refine f ?_
  refine f ?_
  refine mo (h _ rfl) (fun y2 G3 q4 => ?_)
  refine f ?_
  refine f ?_
  refine f ?_
  refine f ?_
  exact (q4 _ rfl)
set_option maxHeartbeats 20000000 in
theorem vcX2_tick_25 {a0 : Nat} {x1 : Int32} {w2 : Option Vl} {G : Mm} {Q : dp_Ps} (h : ((G.1 a0 7) ≤ x1 → Wp 22 52 [some (vR 2 a0), some (vI (jI 0)), some (vI (jI 0))] [] G Q) ∧ (¬ (G.1 a0 7) ≤ x1 → vp_in x1 4 ∧ (Sp 45 1 [vR 3 (G.2 (G.2 a0 9) (x1).toNatClampNeg)] G (fun y2 G3 => Wp 22 25 [some (vR 2 a0), some (vI (x1 + (jI 1))), w2] [] G3 Q)))) : Wp 22 25 [some (vR 2 a0), some (vI x1), w2] [] G Q := by
  have f := @fX2_tick
  have mo := @Wp_mono
  revert h f mo
  try unfold Sp
  generalize Wp = X
  intro h f mo
  refine f ?_
  refine f ?_
  refine f ?_
  refine f ?_
  refine And.intro (fun q1 => ?_) (fun q1 => ?_)
  · refine f ?_
    refine f ?_
    refine f ?_
    refine f ?_
    exact (h.1 q1)
  · refine f ?_
    refine f ?_
    refine f ?_
    refine f ?_
    refine And.intro (h.2 q1).1 ?_
    refine f ?_
    refine mo (h.2 q1).2 (fun y2 G3 q4 => ?_)
    refine f ?_
    refine f ?_
    exact q4
set_option maxHeartbeats 20000000 in
theorem vcX2_tick_52 {a0 : Nat} {x1 x2 : Int32} {G : Mm} {Q : dp_Ps} (h : ((G.1 a0 7) ≤ x2 → (x1 = jI 0 → Q (jI 0) G) ∧ (¬ x1 = jI 0 → Sp 31 3 [vR 2 a0] G (fun y3 G4 => Q (jI 0) G4))) ∧ (¬ (G.1 a0 7) ≤ x2 → vp_in x2 4 ∧ (Sp 40 2 [vR 3 (G.2 (G.2 a0 9) (x2).toNatClampNeg), vI (G.1 a0 0)] G (fun y6 G7 => (y6 = jI 0 → Wp 22 52 [some (vR 2 a0), some (vI x1), some (vI (x2 + (jI 1)))] [] G7 Q) ∧ (¬ y6 = jI 0 → Sp 24 3 [vR 2 a0, vI x2] G7 (fun y10 G11 => Wp 22 52 [some (vR 2 a0), some (vI (jI 1)), some (vI (x2 + (jI 1)))] [] G11 Q)))))) : Wp 22 52 [some (vR 2 a0), some (vI x1), some (vI x2)] [] G Q := by
  have f := @fX2_tick
  have mo := @Wp_mono
  revert h f mo
  try unfold Sp
  generalize Wp = X
  intro h f mo
  refine f ?_
  refine f ?_
  refine f ?_
  refine f ?_
  refine And.intro (fun q1 => ?_) (fun q1 => ?_)
  · refine f ?_
    refine f ?_
    refine And.intro (fun q2 => ?_) (fun q2 => ?_)
    · refine f ?_
      exact ((h.1 q1).1 q2)
    · refine f ?_
      refine f ?_
      refine mo ((h.1 q1).2 q2) (fun y3 G4 q5 => ?_)
      refine f ?_
      exact q5
  · refine f ?_
    refine f ?_
    refine f ?_
    refine f ?_
    refine And.intro (h.2 q1).1 ?_
    refine f ?_
    refine f ?_
    refine f ?_
    refine mo (h.2 q1).2 (fun y6 G7 q8 => ?_)
    refine f ?_
    refine And.intro (fun q9 => ?_) (fun q9 => ?_)
    · refine f ?_
      refine f ?_
      exact (q8.1 q9)
    · refine f ?_
      refine f ?_
      refine f ?_
      refine mo (q8.2 q9) (fun y10 G11 q12 => ?_)
      refine f ?_
      refine f ?_
      refine f ?_
      refine f ?_
      exact q12
set_option maxHeartbeats 20000000 in
theorem vcX2_growth {a0 : Nat} {G : Mm} {Q : dp_Ps} (h : ((G.1 a0 2) = jI 0 → Q (jI 1) G) ∧ (¬ (G.1 a0 2) = jI 0 → ¬ (G.1 a0 2) = jI 0 ∧ ((((G.1 a0 1) - (G.1 a0 1) / (G.1 a0 2) * (G.1 a0 2)) = jI 0 → ((G.1 a0 2) ≤ jI 0 → Q (jI 0) G) ∧ (¬ (G.1 a0 2) ≤ jI 0 → Q (jI 2) G)) ∧ (¬ ((G.1 a0 1) - (G.1 a0 1) / (G.1 a0 2) * (G.1 a0 2)) = jI 0 → Q (jI 1) G)))) : Sp 23 1 [vR 2 a0] G Q := by
  have f := @fX2_growth
  have mo := @Wp_mono
  revert h f mo
  try unfold Sp
  generalize Wp = X
  intro h f mo
  refine f ?_
  refine f ?_
  refine f ?_
  refine And.intro (fun q1 => ?_) (fun q1 => ?_)
  · refine f ?_
    refine f ?_
    exact (h.1 q1)
  · refine f ?_
    refine f ?_
    refine f ?_
    refine f ?_
    refine f ?_
    refine And.intro (h.2 q1).1 ?_
    refine f ?_
    refine And.intro (fun q2 => ?_) (fun q2 => ?_)
    · refine f ?_
      refine f ?_
      refine f ?_
      refine And.intro (fun q3 => ?_) (fun q3 => ?_)
      · refine f ?_
        refine f ?_
        exact (((h.2 q1).2.1 q2).1 q3)
      · refine f ?_
        refine f ?_
        refine f ?_
        exact (((h.2 q1).2.1 q2).2 q3)
    · refine f ?_
      refine f ?_
      exact ((h.2 q1).2.2 q2)
set_option maxHeartbeats 20000000 in
theorem vcX2_ringComparer {a0 : Nat} {x1 : Int32} {G : Mm} {Q : dp_Ps} (h : Wp 24 2 [some (vR 2 a0), some (vI x1), some (vI (jI 0))] [] G Q) : Sp 24 3 [vR 2 a0, vI x1] G Q := by
  have f := @fX2_ringComparer
  have mo := @Wp_mono
  revert h f mo
  try unfold Sp
  generalize Wp = X
  intro h f mo
  refine f ?_
  refine f ?_
  exact h
set_option maxHeartbeats 20000000 in
theorem vcX2_ringComparer_2 {a0 : Nat} {x1 x2 : Int32} {G : Mm} {Q : dp_Ps} (h : ((G.1 a0 5) ≤ x2 → vp_in x1 4 ∧ (Sp 42 1 [vR 3 (G.2 (G.2 a0 9) (x1).toNatClampNeg)] G (fun y2 G3 => Wp 24 56 [some (vR 2 a0), some (vI x1), some (vI ((G3.1 a0 5) - (jI 1)))] [] G3 Q))) ∧ (¬ (G.1 a0 5) ≤ x2 → vp_in x2 20 ∧ (((G.1 (G.2 (G.2 a0 8) (x2).toNatClampNeg) 4) = x1 → vp_in x2 20 ∧ (Sp 25 4 [vR 2 a0, vR 0 (G.2 (G.2 a0 8) (x2).toNatClampNeg), vI x1] G (fun y6 G7 => Wp 24 2 [some (vR 2 a0), some (vI x1), some (vI (x2 + (jI 1)))] [] G7 Q))) ∧ (¬ (G.1 (G.2 (G.2 a0 8) (x2).toNatClampNeg) 4) = x1 → Wp 24 2 [some (vR 2 a0), some (vI x1), some (vI (x2 + (jI 1)))] [] G Q)))) : Wp 24 2 [some (vR 2 a0), some (vI x1), some (vI x2)] [] G Q := by
  have f := @fX2_ringComparer
  have mo := @Wp_mono
  revert h f mo
  try unfold Sp
  generalize Wp = X
  intro h f mo
  refine f ?_
  refine f ?_
  refine f ?_
  refine f ?_
  refine And.intro (fun q1 => ?_) (fun q1 => ?_)
  · refine f ?_
    refine f ?_
    refine f ?_
    refine f ?_
    refine And.intro (h.1 q1).1 ?_
    refine f ?_
    refine mo (h.1 q1).2 (fun y2 G3 q4 => ?_)
    refine f ?_
    refine f ?_
    refine f ?_
    refine f ?_
    refine f ?_
    exact q4
  · refine f ?_
    refine f ?_
    refine f ?_
    refine f ?_
    refine And.intro (h.2 q1).1 ?_
    refine f ?_
    refine f ?_
    refine f ?_
    refine And.intro (fun q5 => ?_) (fun q5 => ?_)
    · refine f ?_
      refine f ?_
      exact ((h.2 q1).2.2 q5)
    · refine f ?_
      refine f ?_
      refine f ?_
      refine f ?_
      refine f ?_
      refine And.intro ((h.2 q1).2.1 (Classical.not_not.mp q5)).1 ?_
      refine f ?_
      refine f ?_
      refine mo ((h.2 q1).2.1 (Classical.not_not.mp q5)).2 (fun y6 G7 q8 => ?_)
      refine f ?_
      refine f ?_
      exact q8
set_option maxHeartbeats 20000000 in
theorem vcX2_ringComparer_56 {a0 : Nat} {x2 : Int32} {w1 : Option Vl} {G : Mm} {Q : dp_Ps} (h : (x2 < jI 0 → Sp 19 4 [vR 2 a0] G (fun y2 G3 => Q (jI 0) G3)) ∧ (¬ x2 < jI 0 → vp_in x2 20 ∧ (((G.1 (G.2 (G.2 a0 8) (x2).toNatClampNeg) 7) = jI 0 → Wp 24 56 [some (vR 2 a0), w1, some (vI (x2 + (jI (-1))))] [] G Q) ∧ (¬ (G.1 (G.2 (G.2 a0 8) (x2).toNatClampNeg) 7) = jI 0 → Sp 20 4 [vR 2 a0, vI x2] G (fun y6 G7 => Wp 24 56 [some (vR 2 a0), w1, some (vI (x2 + (jI (-1))))] [] G7 Q))))) : Wp 24 56 [some (vR 2 a0), w1, some (vI x2)] [] G Q := by
  have f := @fX2_ringComparer
  have mo := @Wp_mono
  revert h f mo
  try unfold Sp
  generalize Wp = X
  intro h f mo
  refine f ?_
  refine f ?_
  refine And.intro (fun q1 => ?_) (fun q1 => ?_)
  · refine f ?_
    refine f ?_
    refine mo (h.1 q1) (fun y2 G3 q4 => ?_)
    refine f ?_
    exact q4
  · refine f ?_
    refine f ?_
    refine f ?_
    refine f ?_
    refine And.intro (h.2 q1).1 ?_
    refine f ?_
    refine f ?_
    refine And.intro (fun q5 => ?_) (fun q5 => ?_)
    · refine f ?_
      refine f ?_
      exact ((h.2 q1).2.1 q5)
    · refine f ?_
      refine f ?_
      refine f ?_
      refine mo ((h.2 q1).2.2 q5) (fun y6 G7 q8 => ?_)
      refine f ?_
      refine f ?_
      exact q8
set_option maxHeartbeats 20000000 in
theorem vcX2_ringAlarm {a0 a1 : Nat} {x2 : Int32} {G : Mm} {Q : dp_Ps} (h : Sp 50 6 [vR 5 (G.2 a0 11), vI (G.1 a1 0), vI (G.1 a0 0), vI ((G.1 a0 0) - (G.1 a1 1)), vI x2] G (fun y1 G2 => Sp 54 2 [vR 6 (G2.2 a0 10), vI ((G.1 a0 0) - (G.1 a1 1))] G2 (fun y4 G5 => Sp 3 2 [vR 0 a1, vI ((G.1 a0 0) - (G.1 a1 1))] G5 (fun y7 G8 => Sp 4 3 [vR 0 a1, vI ((G.1 a0 0) - (G.1 a1 1))] G8 (fun y10 G11 => (∀ G13 : Mm, G13 = wI G11 (G8.2 a0 10) 3 ((G8.1 (G8.2 a0 10) 3) + y10) → Q (jI 0) G13)))))) : Sp 25 4 [vR 2 a0, vR 0 a1, vI x2] G Q := by
  have f := @fX2_ringAlarm
  have mo := @Wp_mono
  revert h f mo
  try unfold Sp
  generalize Wp = X
  intro h f mo
  refine f ?_
  refine f ?_
  refine f ?_
  refine f ?_
  refine f ?_
  refine f ?_
  refine f ?_
  refine f ?_
  refine f ?_
  refine f ?_
  refine f ?_
  refine f ?_
  refine f ?_
  refine f ?_
  refine f ?_
  refine mo h (fun y1 G2 q3 => ?_)
  refine f ?_
  refine f ?_
  refine f ?_
  refine f ?_
  refine mo q3 (fun y4 G5 q6 => ?_)
  refine f ?_
  refine f ?_
  refine f ?_
  refine mo q6 (fun y7 G8 q9 => ?_)
  refine f ?_
  refine f ?_
  refine f ?_
  refine f ?_
  refine f ?_
  refine f ?_
  refine f ?_
  refine mo q9 (fun y10 G11 q12 => ?_)
  refine f ?_
  refine f ?_
  refine f ?_
  exact (q12 _ rfl)
set_option maxHeartbeats 20000000 in
theorem vcX2_changeComparers {a0 : Nat} {x1 : Int32} {G : Mm} {Q : dp_Ps} (h : Wp 26 2 [some (vR 2 a0), some (vI x1), some (vI x1)] [] G Q) : Sp 26 3 [vR 2 a0, vI x1] G Q := by
  have f := @fX2_changeComparers
  have mo := @Wp_mono
  revert h f mo
  try unfold Sp
  generalize Wp = X
  intro h f mo
  refine f ?_
  refine f ?_
  exact h
set_option maxHeartbeats 20000000 in
theorem vcX2_changeComparers_2 {a0 : Nat} {x1 x2 : Int32} {G : Mm} {Q : dp_Ps} (h : ((G.1 a0 7) ≤ x2 → (∀ G2 : Mm, G2 = wI G a0 7 x1 → Sp 31 3 [vR 2 a0] G2 (fun y3 G4 => Q (jI 0) G4))) ∧ (¬ (G.1 a0 7) ≤ x2 → Sp 27 3 [vR 2 a0, vI x2] G (fun y6 G7 => Wp 26 2 [some (vR 2 a0), some (vI x1), some (vI (x2 + (jI 1)))] [] G7 Q))) : Wp 26 2 [some (vR 2 a0), some (vI x1), some (vI x2)] [] G Q := by
  have f := @fX2_changeComparers
  have mo := @Wp_mono
  revert h f mo
  try unfold Sp
  generalize Wp = X
  intro h f mo
  refine f ?_
  refine f ?_
  refine f ?_
  refine f ?_
  refine And.intro (fun q1 => ?_) (fun q1 => ?_)
  · refine f ?_
    refine f ?_
    refine f ?_
    refine f ?_
    refine f ?_
    refine mo ((h.1 q1) _ rfl) (fun y3 G4 q5 => ?_)
    refine f ?_
    exact q5
  · refine f ?_
    refine f ?_
    refine f ?_
    refine mo (h.2 q1) (fun y6 G7 q8 => ?_)
    refine f ?_
    refine f ?_
    exact q8
set_option maxHeartbeats 20000000 in
theorem vcX2_sendOffSharers {a0 : Nat} {x1 : Int32} {G : Mm} {Q : dp_Ps} (h : Wp 27 2 [some (vR 2 a0), some (vI x1), some (vI (jI 0))] [] G Q) : Sp 27 3 [vR 2 a0, vI x1] G Q := by
  have f := @fX2_sendOffSharers
  have mo := @Wp_mono
  revert h f mo
  try unfold Sp
  generalize Wp = X
  intro h f mo
  refine f ?_
  refine f ?_
  exact h
set_option maxHeartbeats 20000000 in
theorem vcX2_sendOffSharers_2 {a0 : Nat} {x1 x2 : Int32} {G : Mm} {Q : dp_Ps} (h : ((G.1 a0 5) ≤ x2 → vp_in x1 4 ∧ (Sp 42 1 [vR 3 (G.2 (G.2 a0 9) (x1).toNatClampNeg)] G (fun y2 G3 => Q (jI 0) G3))) ∧ (¬ (G.1 a0 5) ≤ x2 → vp_in x2 20 ∧ (((G.1 (G.2 (G.2 a0 8) (x2).toNatClampNeg) 4) = x1 → vp_in x2 20 ∧ ((∀ G6 : Mm, G6 = wI G (G.2 (G.2 a0 8) (x2).toNatClampNeg) 4 (jI (-1005)) → Wp 27 2 [some (vR 2 a0), some (vI x1), some (vI (x2 + (jI 1)))] [] G6 Q))) ∧ (¬ (G.1 (G.2 (G.2 a0 8) (x2).toNatClampNeg) 4) = x1 → Wp 27 2 [some (vR 2 a0), some (vI x1), some (vI (x2 + (jI 1)))] [] G Q)))) : Wp 27 2 [some (vR 2 a0), some (vI x1), some (vI x2)] [] G Q := by
  have f := @fX2_sendOffSharers
  have mo := @Wp_mono
  revert h f mo
  try unfold Sp
  generalize Wp = X
  intro h f mo
  refine f ?_
  refine f ?_
  refine f ?_
  refine f ?_
  refine And.intro (fun q1 => ?_) (fun q1 => ?_)
  · refine f ?_
    refine f ?_
    refine f ?_
    refine f ?_
    refine And.intro (h.1 q1).1 ?_
    refine f ?_
    refine mo (h.1 q1).2 (fun y2 G3 q4 => ?_)
    refine f ?_
    exact q4
  · refine f ?_
    refine f ?_
    refine f ?_
    refine f ?_
    refine And.intro (h.2 q1).1 ?_
    refine f ?_
    refine f ?_
    refine f ?_
    refine And.intro (fun q5 => ?_) (fun q5 => ?_)
    · refine f ?_
      refine f ?_
      exact ((h.2 q1).2.2 q5)
    · refine f ?_
      refine f ?_
      refine f ?_
      refine f ?_
      refine And.intro ((h.2 q1).2.1 (Classical.not_not.mp q5)).1 ?_
      refine f ?_
      refine f ?_
      refine f ?_
      refine f ?_
      exact (((h.2 q1).2.1 (Classical.not_not.mp q5)).2 _ rfl)
set_option maxHeartbeats 20000000 in
theorem vcX2_takeOff {a0 a1 : Nat} {G : Mm} {Q : dp_Ps} (h : ((G.1 a1 4) < jI 0 → Q (jI 0) G) ∧ (¬ (G.1 a1 4) < jI 0 → ((G.1 a1 4) < (jI 4) → (∀ G3 : Mm, G3 = wI G a1 4 (jI (-1005)) → vp_in (G.1 a1 4) 4 ∧ (vp_in (G.1 a1 4) 4 ∧ (Sp 42 1 [vR 3 (G3.2 (G3.2 a0 9) ((G.1 a1 4)).toNatClampNeg)] G3 (fun y4 G5 => Wp 28 44 [some (vR 2 a0), some (vR 0 a1), some (vI (G.1 a1 4)), some (vI (G3.1 (G3.2 (G3.2 a0 9) ((G.1 a1 4)).toNatClampNeg) 3)), some (vI (jI 0))] [] G5 Q))))) ∧ (¬ (G.1 a1 4) < (jI 4) → Q (jI 0) G))) : Sp 28 5 [vR 2 a0, vR 0 a1] G Q := by
  have f := @fX2_takeOff
  have mo := @Wp_mono
  revert h f mo
  try unfold Sp
  generalize Wp = X
  intro h f mo
  refine f ?_
  refine f ?_
  refine f ?_
  refine f ?_
  refine f ?_
  refine And.intro (fun q1 => ?_) (fun q1 => ?_)
  · refine f ?_
    exact (h.1 q1)
  · refine f ?_
    refine f ?_
    refine f ?_
    refine And.intro (fun q2 => ?_) (fun q2 => ?_)
    · refine f ?_
      refine f ?_
      refine f ?_
      refine f ?_
      refine f ?_
      refine f ?_
      refine f ?_
      refine And.intro (((h.2 q1).1 q2) _ rfl).1 ?_
      refine f ?_
      refine f ?_
      refine f ?_
      refine f ?_
      refine f ?_
      refine f ?_
      refine And.intro (((h.2 q1).1 q2) _ rfl).2.1 ?_
      refine f ?_
      refine mo (((h.2 q1).1 q2) _ rfl).2.2 (fun y4 G5 q6 => ?_)
      refine f ?_
      refine f ?_
      exact q6
    · refine f ?_
      exact ((h.2 q1).2 q2)
set_option maxHeartbeats 20000000 in
theorem vcX2_takeOff_44 {a0 : Nat} {x2 x3 x4 : Int32} {w1 : Option Vl} {G : Mm} {Q : dp_Ps} (h : ((G.1 a0 5) ≤ x4 → Q (jI 0) G) ∧ (¬ (G.1 a0 5) ≤ x4 → vp_in x4 20 ∧ (((G.1 (G.2 (G.2 a0 8) (x4).toNatClampNeg) 4) = x2 → vp_in x2 4 ∧ (vp_in x4 20 ∧ (Sp 44 2 [vR 3 (G.2 (G.2 a0 9) (x2).toNatClampNeg), vI (G.1 (G.2 (G.2 a0 8) (x4).toNatClampNeg) 1)] G (fun y3 G4 => vp_in x2 4 ∧ ((∀ G6 : Mm, G6 = wI G4 (G4.2 (G4.2 a0 9) (x2).toNatClampNeg) 3 x3 → Wp 28 44 [some (vR 2 a0), w1, some (vI x2), some (vI x3), some (vI (x4 + (jI 1)))] [] G6 Q)))))) ∧ (¬ (G.1 (G.2 (G.2 a0 8) (x4).toNatClampNeg) 4) = x2 → Wp 28 44 [some (vR 2 a0), w1, some (vI x2), some (vI x3), some (vI (x4 + (jI 1)))] [] G Q)))) : Wp 28 44 [some (vR 2 a0), w1, some (vI x2), some (vI x3), some (vI x4)] [] G Q := by
  have f := @fX2_takeOff
  have mo := @Wp_mono
  revert h f mo
  try unfold Sp
  generalize Wp = X
  intro h f mo
  refine f ?_
  refine f ?_
  refine f ?_
  refine f ?_
  refine And.intro (fun q1 => ?_) (fun q1 => ?_)
  · refine f ?_
    exact (h.1 q1)
  · refine f ?_
    refine f ?_
    refine f ?_
    refine f ?_
    refine And.intro (h.2 q1).1 ?_
    refine f ?_
    refine f ?_
    refine f ?_
    refine And.intro (fun q2 => ?_) (fun q2 => ?_)
    · refine f ?_
      refine f ?_
      exact ((h.2 q1).2.2 q2)
    · refine f ?_
      refine f ?_
      refine f ?_
      refine f ?_
      refine And.intro ((h.2 q1).2.1 (Classical.not_not.mp q2)).1 ?_
      refine f ?_
      refine f ?_
      refine f ?_
      refine f ?_
      refine And.intro ((h.2 q1).2.1 (Classical.not_not.mp q2)).2.1 ?_
      refine f ?_
      refine f ?_
      refine mo ((h.2 q1).2.1 (Classical.not_not.mp q2)).2.2 (fun y3 G4 q5 => ?_)
      refine f ?_
      refine f ?_
      refine f ?_
      refine f ?_
      refine And.intro q5.1 ?_
      refine f ?_
      refine f ?_
      refine f ?_
      refine f ?_
      exact (q5.2 _ rfl)
set_option maxHeartbeats 20000000 in
theorem vcX2_freeComparers {a0 : Nat} {G : Mm} {Q : dp_Ps} (h : Wp 29 4 [some (vR 2 a0), some (vI (jI 0)), some (vI (jI 0))] [] G Q) : Sp 29 3 [vR 2 a0] G Q := by
  have f := @fX2_freeComparers
  have mo := @Wp_mono
  revert h f mo
  try unfold Sp
  generalize Wp = X
  intro h f mo
  refine f ?_
  refine f ?_
  refine f ?_
  refine f ?_
  exact h
set_option maxHeartbeats 20000000 in
theorem vcX2_freeComparers_4 {a0 : Nat} {x1 x2 : Int32} {G : Mm} {Q : dp_Ps} (h : ((G.1 a0 7) ≤ x2 → Q x1 G) ∧ (¬ (G.1 a0 7) ≤ x2 → vp_in x2 4 ∧ (Sp 39 1 [vR 3 (G.2 (G.2 a0 9) (x2).toNatClampNeg)] G (fun y2 G3 => (y2 = jI 0 → Wp 29 4 [some (vR 2 a0), some (vI x1), some (vI (x2 + (jI 1)))] [] G3 Q) ∧ (¬ y2 = jI 0 → Wp 29 4 [some (vR 2 a0), some (vI (x1 + (jI 1))), some (vI (x2 + (jI 1)))] [] G3 Q))))) : Wp 29 4 [some (vR 2 a0), some (vI x1), some (vI x2)] [] G Q := by
  have f := @fX2_freeComparers
  have mo := @Wp_mono
  revert h f mo
  try unfold Sp
  generalize Wp = X
  intro h f mo
  refine f ?_
  refine f ?_
  refine f ?_
  refine f ?_
  refine And.intro (fun q1 => ?_) (fun q1 => ?_)
  · refine f ?_
    refine f ?_
    exact (h.1 q1)
  · refine f ?_
    refine f ?_
    refine f ?_
    refine f ?_
    refine And.intro (h.2 q1).1 ?_
    refine f ?_
    refine mo (h.2 q1).2 (fun y2 G3 q4 => ?_)
    refine f ?_
    refine And.intro (fun q5 => ?_) (fun q5 => ?_)
    · refine f ?_
      refine f ?_
      exact (q4.1 q5)
    · refine f ?_
      refine f ?_
      refine f ?_
      exact (q4.2 q5)
set_option maxHeartbeats 20000000 in
theorem vcX2_firstSharerOf {a0 : Nat} {x1 : Int32} {G : Mm} {Q : dp_Ps} (h : Wp 30 2 [some (vR 2 a0), some (vI x1), some (vI (jI 0))] [] G Q) : Sp 30 3 [vR 2 a0, vI x1] G Q := by
  have f := @fX2_firstSharerOf
  have mo := @Wp_mono
  revert h f mo
  try unfold Sp
  generalize Wp = X
  intro h f mo
  refine f ?_
  refine f ?_
  exact h
set_option maxHeartbeats 20000000 in
theorem vcX2_firstSharerOf_2 {a0 : Nat} {x1 x2 : Int32} {G : Mm} {Q : dp_Ps} (h : ((G.1 a0 5) ≤ x2 → Q (jI (-1005)) G) ∧ (¬ (G.1 a0 5) ≤ x2 → vp_in x2 20 ∧ (((G.1 (G.2 (G.2 a0 8) (x2).toNatClampNeg) 4) = x1 → vp_in x2 20 ∧ (Q (G.1 (G.2 (G.2 a0 8) (x2).toNatClampNeg) 0) G)) ∧ (¬ (G.1 (G.2 (G.2 a0 8) (x2).toNatClampNeg) 4) = x1 → Wp 30 2 [some (vR 2 a0), some (vI x1), some (vI (x2 + (jI 1)))] [] G Q)))) : Wp 30 2 [some (vR 2 a0), some (vI x1), some (vI x2)] [] G Q := by
  have f := @fX2_firstSharerOf
  have mo := @Wp_mono
  revert h f mo
  try unfold Sp
  generalize Wp = X
  intro h f mo
  refine f ?_
  refine f ?_
  refine f ?_
  refine f ?_
  refine And.intro (fun q1 => ?_) (fun q1 => ?_)
  · refine f ?_
    refine f ?_
    exact (h.1 q1)
  · refine f ?_
    refine f ?_
    refine f ?_
    refine f ?_
    refine And.intro (h.2 q1).1 ?_
    refine f ?_
    refine f ?_
    refine f ?_
    refine And.intro (fun q2 => ?_) (fun q2 => ?_)
    · refine f ?_
      refine f ?_
      exact ((h.2 q1).2.2 q2)
    · refine f ?_
      refine f ?_
      refine f ?_
      refine f ?_
      refine And.intro ((h.2 q1).2.1 (Classical.not_not.mp q2)).1 ?_
      refine f ?_
      refine f ?_
      exact ((h.2 q1).2.1 (Classical.not_not.mp q2)).2
set_option maxHeartbeats 20000000 in
theorem vcX2_shareOut {a0 : Nat} {G : Mm} {Q : dp_Ps} (h : Wp 31 2 [some (vR 2 a0), some (vI (jI 0)), none] [] G Q) : Sp 31 3 [vR 2 a0] G Q := by
  have f := @fX2_shareOut
  have mo := @Wp_mono
  revert h f mo
  try unfold Sp
  generalize Wp = X
  intro h f mo
  refine f ?_
  refine f ?_
  exact h
set_option maxHeartbeats 20000000 in
theorem vcX2_shareOut_2 {a0 : Nat} {x1 : Int32} {w2 : Option Vl} {G : Mm} {Q : dp_Ps} (h : ((jI 1000000) ≤ x1 → Q (jI 0) G) ∧ (¬ (jI 1000000) ≤ x1 → Sp 32 2 [vR 2 a0] G (fun y2 G3 => (y2 = (jI (-1)) → Q (jI 0) G3) ∧ (¬ y2 = (jI (-1)) → vp_in y2 20 ∧ (Sp 33 5 [vR 2 a0, vR 0 (G3.2 (G3.2 a0 8) (y2).toNatClampNeg)] G3 (fun y6 G7 => (y6 = jI 0 → Q (jI 0) G7) ∧ (¬ y6 = jI 0 → Wp 31 2 [some (vR 2 a0), some (vI (x1 + (jI 1))), some (vI y2)] [] G7 Q))))))) : Wp 31 2 [some (vR 2 a0), some (vI x1), w2] [] G Q := by
  have f := @fX2_shareOut
  have mo := @Wp_mono
  revert h f mo
  try unfold Sp
  generalize Wp = X
  intro h f mo
  refine f ?_
  refine f ?_
  refine f ?_
  refine And.intro (fun q1 => ?_) (fun q1 => ?_)
  · refine f ?_
    exact (h.1 q1)
  · refine f ?_
    refine f ?_
    refine mo (h.2 q1) (fun y2 G3 q4 => ?_)
    refine f ?_
    refine f ?_
    refine f ?_
    refine f ?_
    refine And.intro (fun q5 => ?_) (fun q5 => ?_)
    · refine f ?_
      exact (q4.1 q5)
    · refine f ?_
      refine f ?_
      refine f ?_
      refine f ?_
      refine f ?_
      refine And.intro (q4.2 q5).1 ?_
      refine f ?_
      refine mo (q4.2 q5).2 (fun y6 G7 q8 => ?_)
      refine f ?_
      refine And.intro (fun q9 => ?_) (fun q9 => ?_)
      · refine f ?_
        refine f ?_
        exact (q8.2 q9)
      · refine f ?_
        exact (q8.1 (Classical.not_not.mp q9))
set_option maxHeartbeats 20000000 in
theorem vcX2_firstWithoutComparer {a0 : Nat} {G : Mm} {Q : dp_Ps} (h : Wp 32 2 [some (vR 2 a0), some (vI (jI 0))] [] G Q) : Sp 32 2 [vR 2 a0] G Q := by
  have f := @fX2_firstWithoutComparer
  have mo := @Wp_mono
  revert h f mo
  try unfold Sp
  generalize Wp = X
  intro h f mo
  refine f ?_
  refine f ?_
  exact h
set_option maxHeartbeats 20000000 in
theorem vcX2_firstWithoutComparer_2 {a0 : Nat} {x1 : Int32} {G : Mm} {Q : dp_Ps} (h : ((G.1 a0 5) ≤ x1 → Q (jI (-1)) G) ∧ (¬ (G.1 a0 5) ≤ x1 → vp_in x1 20 ∧ (((G.1 (G.2 (G.2 a0 8) (x1).toNatClampNeg) 4) = (jI (-1005)) → Q x1 G) ∧ (¬ (G.1 (G.2 (G.2 a0 8) (x1).toNatClampNeg) 4) = (jI (-1005)) → Wp 32 2 [some (vR 2 a0), some (vI (x1 + (jI 1)))] [] G Q)))) : Wp 32 2 [some (vR 2 a0), some (vI x1)] [] G Q := by
  have f := @fX2_firstWithoutComparer
  have mo := @Wp_mono
  revert h f mo
  try unfold Sp
  generalize Wp = X
  intro h f mo
  refine f ?_
  refine f ?_
  refine f ?_
  refine f ?_
  refine And.intro (fun q1 => ?_) (fun q1 => ?_)
  · refine f ?_
    refine f ?_
    exact (h.1 q1)
  · refine f ?_
    refine f ?_
    refine f ?_
    refine f ?_
    refine And.intro (h.2 q1).1 ?_
    refine f ?_
    refine f ?_
    refine f ?_
    refine And.intro (fun q2 => ?_) (fun q2 => ?_)
    · refine f ?_
      refine f ?_
      exact ((h.2 q1).2.2 q2)
    · refine f ?_
      refine f ?_
      exact ((h.2 q1).2.1 (Classical.not_not.mp q2))
set_option maxHeartbeats 20000000 in
theorem vcX2_findComparerFor {a0 a1 : Nat} {G : Mm} {Q : dp_Ps} (h : Sp 34 3 [vR 2 a0, vI (G.1 a1 1)] G (fun y1 G2 => (y1 = (jI (-1)) → Sp 35 2 [vR 2 a0] G2 (fun y5 G6 => (y5 = (jI (-1)) → Sp 36 3 [vR 2 a0] G6 (fun y9 G10 => vp_in y9 4 ∧ (((G10.1 a1 1) < (G10.1 (G10.2 (G10.2 a0 9) (y9).toNatClampNeg) 2) → Sp 27 3 [vR 2 a0, vI y9] G10 (fun y13 G14 => (∀ G16 : Mm, G16 = wI G14 (G14.2 a0 10) 5 ((G14.1 (G14.2 a0 10) 5) + (jI 1)) → Sp 37 3 [vR 2 a0, vR 0 a1, vI y9] G16 (fun y17 G18 => Q (jI 1) G18)))) ∧ (¬ (G10.1 a1 1) < (G10.1 (G10.2 (G10.2 a0 9) (y9).toNatClampNeg) 2) → Q (jI 0) G10)))) ∧ (¬ y5 = (jI (-1)) → Sp 37 3 [vR 2 a0, vR 0 a1, vI y5] G6 (fun y20 G21 => Q (jI 1) G21)))) ∧ (¬ y1 = (jI (-1)) → vp_in y1 4 ∧ (Sp 44 2 [vR 3 (G2.2 (G2.2 a0 9) (y1).toNatClampNeg), vI (G2.1 a1 1)] G2 (fun y23 G24 => (∀ G26 : Mm, G26 = wI G24 a1 4 y1 → Q (jI 1) G26)))))) : Sp 33 5 [vR 2 a0, vR 0 a1] G Q := by
  have f := @fX2_findComparerFor
  have mo := @Wp_mono
  revert h f mo
  try unfold Sp
  generalize Wp = X
  intro h f mo
  refine f ?_
  refine f ?_
  refine f ?_
  refine f ?_
  refine mo h (fun y1 G2 q3 => ?_)
  refine f ?_
  refine f ?_
  refine f ?_
  refine f ?_
  refine And.intro (fun q4 => ?_) (fun q4 => ?_)
  · refine f ?_
    refine f ?_
    refine mo (q3.1 q4) (fun y5 G6 q7 => ?_)
    refine f ?_
    refine f ?_
    refine f ?_
    refine f ?_
    refine And.intro (fun q8 => ?_) (fun q8 => ?_)
    · refine f ?_
      refine f ?_
      refine mo (q7.1 q8) (fun y9 G10 q11 => ?_)
      refine f ?_
      refine f ?_
      refine f ?_
      refine f ?_
      refine f ?_
      refine And.intro q11.1 ?_
      refine f ?_
      refine f ?_
      refine f ?_
      refine f ?_
      refine And.intro (fun q12 => ?_) (fun q12 => ?_)
      · refine f ?_
        refine f ?_
        refine f ?_
        refine mo (q11.2.1 q12) (fun y13 G14 q15 => ?_)
        refine f ?_
        refine f ?_
        refine f ?_
        refine f ?_
        refine f ?_
        refine f ?_
        refine f ?_
        refine f ?_
        refine f ?_
        refine f ?_
        refine f ?_
        refine mo (q15 _ rfl) (fun y17 G18 q19 => ?_)
        refine f ?_
        refine f ?_
        exact And.intro (Or.inr rfl) q19
      · refine f ?_
        refine f ?_
        exact And.intro (Or.inl rfl) (q11.2.2 q12)
    · refine f ?_
      refine f ?_
      refine f ?_
      refine f ?_
      refine mo (q7.2 q8) (fun y20 G21 q22 => ?_)
      refine f ?_
      refine f ?_
      exact And.intro (Or.inr rfl) q22
  · refine f ?_
    refine f ?_
    refine f ?_
    refine f ?_
    refine And.intro (q3.2 q4).1 ?_
    refine f ?_
    refine f ?_
    refine f ?_
    refine mo (q3.2 q4).2 (fun y23 G24 q25 => ?_)
    refine f ?_
    refine f ?_
    refine f ?_
    refine f ?_
    refine f ?_
    exact And.intro (Or.inr rfl) (q25 _ rfl)
set_option maxHeartbeats 20000000 in
theorem vcX2_firstThatCanTake {a0 : Nat} {x1 : Int32} {G : Mm} {Q : dp_Ps} (h : Wp 34 2 [some (vR 2 a0), some (vI x1), some (vI (jI 0))] [] G Q) : Sp 34 3 [vR 2 a0, vI x1] G Q := by
  have f := @fX2_firstThatCanTake
  have mo := @Wp_mono
  revert h f mo
  try unfold Sp
  generalize Wp = X
  intro h f mo
  refine f ?_
  refine f ?_
  exact h
set_option maxHeartbeats 20000000 in
theorem vcX2_firstThatCanTake_2 {a0 : Nat} {x1 x2 : Int32} {G : Mm} {Q : dp_Ps} (h : ((G.1 a0 7) ≤ x2 → Q (jI (-1)) G) ∧ (¬ (G.1 a0 7) ≤ x2 → vp_in x2 4 ∧ (Sp 41 3 [vR 3 (G.2 (G.2 a0 9) (x2).toNatClampNeg), vI x1, vI (G.1 a0 3)] G (fun y2 G3 => (y2 = jI 0 → Wp 34 2 [some (vR 2 a0), some (vI x1), some (vI (x2 + (jI 1)))] [] G3 Q) ∧ (¬ y2 = jI 0 → Q x2 G3))))) : Wp 34 2 [some (vR 2 a0), some (vI x1), some (vI x2)] [] G Q := by
  have f := @fX2_firstThatCanTake
  have mo := @Wp_mono
  revert h f mo
  try unfold Sp
  generalize Wp = X
  intro h f mo
  refine f ?_
  refine f ?_
  refine f ?_
  refine f ?_
  refine And.intro (fun q1 => ?_) (fun q1 => ?_)
  · refine f ?_
    refine f ?_
    exact (h.1 q1)
  · refine f ?_
    refine f ?_
    refine f ?_
    refine f ?_
    refine And.intro (h.2 q1).1 ?_
    refine f ?_
    refine f ?_
    refine f ?_
    refine f ?_
    refine mo (h.2 q1).2 (fun y2 G3 q4 => ?_)
    refine f ?_
    refine And.intro (fun q5 => ?_) (fun q5 => ?_)
    · refine f ?_
      refine f ?_
      exact (q4.1 q5)
    · refine f ?_
      refine f ?_
      exact (q4.2 q5)
set_option maxHeartbeats 20000000 in
theorem vcX2_firstFree {a0 : Nat} {G : Mm} {Q : dp_Ps} (h : Wp 35 2 [some (vR 2 a0), some (vI (jI 0))] [] G Q) : Sp 35 2 [vR 2 a0] G Q := by
  have f := @fX2_firstFree
  have mo := @Wp_mono
  revert h f mo
  try unfold Sp
  generalize Wp = X
  intro h f mo
  refine f ?_
  refine f ?_
  exact h
set_option maxHeartbeats 20000000 in
theorem vcX2_firstFree_2 {a0 : Nat} {x1 : Int32} {G : Mm} {Q : dp_Ps} (h : ((G.1 a0 7) ≤ x1 → Q (jI (-1)) G) ∧ (¬ (G.1 a0 7) ≤ x1 → vp_in x1 4 ∧ (Sp 39 1 [vR 3 (G.2 (G.2 a0 9) (x1).toNatClampNeg)] G (fun y2 G3 => (y2 = jI 0 → Wp 35 2 [some (vR 2 a0), some (vI (x1 + (jI 1)))] [] G3 Q) ∧ (¬ y2 = jI 0 → Q x1 G3))))) : Wp 35 2 [some (vR 2 a0), some (vI x1)] [] G Q := by
  have f := @fX2_firstFree
  have mo := @Wp_mono
  revert h f mo
  try unfold Sp
  generalize Wp = X
  intro h f mo
  refine f ?_
  refine f ?_
  refine f ?_
  refine f ?_
  refine And.intro (fun q1 => ?_) (fun q1 => ?_)
  · refine f ?_
    refine f ?_
    exact (h.1 q1)
  · refine f ?_
    refine f ?_
    refine f ?_
    refine f ?_
    refine And.intro (h.2 q1).1 ?_
    refine f ?_
    refine mo (h.2 q1).2 (fun y2 G3 q4 => ?_)
    refine f ?_
    refine And.intro (fun q5 => ?_) (fun q5 => ?_)
    · refine f ?_
      refine f ?_
      exact (q4.1 q5)
    · refine f ?_
      refine f ?_
      exact (q4.2 q5)
set_option maxHeartbeats 20000000 in
theorem vcX2_firstOfGreatestCount {a0 : Nat} {G : Mm} {Q : dp_Ps} (h : Wp 36 4 [some (vR 2 a0), some (vI (jI 0)), some (vI (jI 1))] [] G Q) : Sp 36 3 [vR 2 a0] G Q := by
  have f := @fX2_firstOfGreatestCount
  have mo := @Wp_mono
  revert h f mo
  try unfold Sp
  generalize Wp = X
  intro h f mo
  refine f ?_
  refine f ?_
  refine f ?_
  refine f ?_
  exact h
set_option maxHeartbeats 20000000 in
theorem vcX2_firstOfGreatestCount_4 {a0 : Nat} {x1 x2 : Int32} {G : Mm} {Q : dp_Ps} (h : ((G.1 a0 7) ≤ x2 → Q x1 G) ∧ (¬ (G.1 a0 7) ≤ x2 → vp_in x2 4 ∧ (vp_in x1 4 ∧ (((G.1 (G.2 (G.2 a0 9) (x2).toNatClampNeg) 2) ≤ (G.1 (G.2 (G.2 a0 9) (x1).toNatClampNeg) 2) → Wp 36 4 [some (vR 2 a0), some (vI x1), some (vI (x2 + (jI 1)))] [] G Q) ∧ (¬ (G.1 (G.2 (G.2 a0 9) (x2).toNatClampNeg) 2) ≤ (G.1 (G.2 (G.2 a0 9) (x1).toNatClampNeg) 2) → Wp 36 4 [some (vR 2 a0), some (vI x2), some (vI (x2 + (jI 1)))] [] G Q))))) : Wp 36 4 [some (vR 2 a0), some (vI x1), some (vI x2)] [] G Q := by
  have f := @fX2_firstOfGreatestCount
  have mo := @Wp_mono
  revert h f mo
  try unfold Sp
  generalize Wp = X
  intro h f mo
  refine f ?_
  refine f ?_
  refine f ?_
  refine f ?_
  refine And.intro (fun q1 => ?_) (fun q1 => ?_)
  · refine f ?_
    refine f ?_
    exact (h.1 q1)
  · refine f ?_
    refine f ?_
    refine f ?_
    refine f ?_
    refine And.intro (h.2 q1).1 ?_
    refine f ?_
    refine f ?_
    refine f ?_
    refine f ?_
    refine f ?_
    refine And.intro (h.2 q1).2.1 ?_
    refine f ?_
    refine f ?_
    refine And.intro (fun q2 => ?_) (fun q2 => ?_)
    · refine f ?_
      refine f ?_
      exact ((h.2 q1).2.2.1 q2)
    · refine f ?_
      refine f ?_
      refine f ?_
      refine f ?_
      exact ((h.2 q1).2.2.2 q2)
set_option maxHeartbeats 20000000 in
theorem vcX2_loadFor {a0 a1 : Nat} {x2 : Int32} {G : Mm} {Q : dp_Ps} (h : vp_in x2 4 ∧ (Sp 43 3 [vR 3 (G.2 (G.2 a0 9) (x2).toNatClampNeg), vI (G.1 a1 1), vI (G.1 a0 4)] G (fun y1 G2 => (∀ G4 : Mm, G4 = wI G2 a1 4 x2 → (∀ G5 : Mm, G5 = wI G4 (G4.2 a0 10) 4 ((G4.1 (G4.2 a0 10) 4) + (jI 1)) → Q (jI 0) G5))))) : Sp 37 3 [vR 2 a0, vR 0 a1, vI x2] G Q := by
  have f := @fX2_loadFor
  have mo := @Wp_mono
  revert h f mo
  try unfold Sp
  generalize Wp = X
  intro h f mo
  refine f ?_
  refine f ?_
  refine f ?_
  refine f ?_
  refine And.intro h.1 ?_
  refine f ?_
  refine f ?_
  refine f ?_
  refine f ?_
  refine f ?_
  refine mo h.2 (fun y1 G2 q3 => ?_)
  refine f ?_
  refine f ?_
  refine f ?_
  refine f ?_
  refine f ?_
  refine f ?_
  refine f ?_
  refine f ?_
  refine f ?_
  refine f ?_
  refine f ?_
  exact ((q3 _ rfl) _ rfl)
