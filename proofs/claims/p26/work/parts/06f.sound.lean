theorem dp_alls : ∀ (ts : List (List (Nat × dp_Op))) (b : Nat), dp_all b ts → ∀ k, ∀ e ∈ dp_at ts k [], dp_OK (b + k) e.1 e.2
  | [], _, _, _, e, h => by cases h
  | t :: ts, b, ha, 0, e, h => ha.1 e h
  | t :: ts, b, ha, k + 1, e, h => by
    have h1 := dp_alls ts (b + 1) ha.2 k e h
    rw [show b + (k + 1) = b + 1 + k from by omega]
    exact h1
theorem dp_tball : dp_all 0 dp_tbs := ⟨ooX0_begin, ⟨ooX0_copyFrom, ⟨ooX0_isBefore, ⟨ooX0_noteRing, ⟨ooX0_goOn, ⟨ooX1_append, ⟨ooX1_readList, ⟨ooX1_readAlarm, ⟨ooX1_readSign, ⟨ooX1_readNumber, ⟨ooX1_digitHere, ⟨ooX1_leastTime, ⟨ooX2_copyFrom, ⟨ooX2_hasRoomFor, ⟨ooX2_placeOf, ⟨ooX2_hasRungSince, ⟨ooX2_addAlarm, ⟨ooX2_cancelAlarm, ⟨ooX2_moveAlarm, ⟨ooX2_sortAlarms, ⟨ooX2_removeAlarm, ⟨ooX2_alarmsWithoutComparer, ⟨ooX2_tick, ⟨ooX2_growth, ⟨ooX2_ringComparer, ⟨ooX2_ringAlarm, ⟨ooX2_changeComparers, ⟨ooX2_sendOffSharers, ⟨ooX2_takeOff, ⟨ooX2_freeComparers, ⟨ooX2_firstSharerOf, ⟨ooX2_shareOut, ⟨ooX2_firstWithoutComparer, ⟨ooX2_findComparerFor, ⟨ooX2_firstThatCanTake, ⟨ooX2_firstFree, ⟨ooX2_firstOfGreatestCount, ⟨ooX2_loadFor, ⟨ooX3_copyFrom, ⟨ooX3_isFree, ⟨ooX3_isDue, ⟨ooX3_canTake, ⟨ooX3_release, ⟨ooX3_load, ⟨ooX3_join, ⟨ooX3_loadOn, ⟨ooX4_recordState, ⟨ooX4_dropOldest, ⟨ooX4_takeBack, ⟨ooX5_copyFrom, ⟨ooX5_note, ⟨ooX5_tell, ⟨ooX6_clear, ⟨ooX6_copyFrom, ⟨ooX6_noteRing, ⟨ooX7_set, ⟨ooX7_setAll, ⟨ooX7_cancel, ⟨ooX7_move, ⟨ooX7_setComparers, ⟨ooX7_setWindow, ⟨ooX7_setLoading, ⟨ooX7_setDrift, ⟨ooX7_correct, ⟨ooX7_run, ⟨ooX7_type, ⟨ooX7_clearText, ⟨ooX7_undo, ⟨ooX7_keep, ⟨ooX7_restore, ⟨ooX7_alarm, ⟨ooX7_comparer, ⟨ooX7_at, ⟨ooX7_ringsIn, ⟨ooX7_ifComparers, ⟨ooX7_fewest, ⟨ooX7_ring, ⟨ooX7_count, ⟨ooX7_isWithin, ⟨ooX7_tryComparers, trivial⟩⟩⟩⟩⟩⟩⟩⟩⟩⟩⟩⟩⟩⟩⟩⟩⟩⟩⟩⟩⟩⟩⟩⟩⟩⟩⟩⟩⟩⟩⟩⟩⟩⟩⟩⟩⟩⟩⟩⟩⟩⟩⟩⟩⟩⟩⟩⟩⟩⟩⟩⟩⟩⟩⟩⟩⟩⟩⟩⟩⟩⟩⟩⟩⟩⟩⟩⟩⟩⟩⟩⟩⟩⟩⟩⟩⟩⟩⟩⟩
theorem dp_lk_ok {k : Nat} : ∀ (es : List (Nat × dp_Op)), (∀ e ∈ es, dp_OK k e.1 e.2) → ∀ pc, dp_OK k pc (dp_lk es pc)
  | [], _, pc => fun _ _ _ _ _ _ _ _ _ _ _ h => False.elim h
  | e :: es, h, pc => by
    have ih := dp_lk_ok es (fun x hx => h x (List.mem_cons_of_mem _ hx)) pc
    have h0 := h e List.mem_cons_self
    show dp_OK k pc (cond (Nat.beq e.1 pc) e.2 (dp_lk es pc))
    cases hb : Nat.beq e.1 pc
    · exact ih
    · rw [← Nat.eq_of_beq_eq_true hb]; exact h0
theorem dp_cd_ok (k pc : Nat) : dp_OK k pc (cd k pc) := by
  have h := dp_lk_ok (k := k) (dp_at dp_tbs k []) (fun e he => by have h := dp_alls dp_tbs 0 dp_tball k e he; rw [Nat.zero_add] at h; exact h) pc
  exact h
/-- WHAT THE SMALL MACHINE SAYS HOLDS OF THE MACHINE -/
theorem dp_sound {l D L kd aC k pc ls st G} {Q : dp_Ps} (h : Wp k pc ls st G Q) : dp_X l D L kd aC k pc ls st G Q :=
  h (dp_X l D L kd aC) dp_X_mono (fun k pc ls st G Q ⟨Y, hY, hc⟩ => dp_cd_ok k pc l D L kd aC Y hY ls st G Q hc)
