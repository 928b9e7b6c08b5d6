/-! ===== states that can be counted out: what acts and ticks do ===== -/
def kIns (m : kM) (t p r : Int) : kM := (ks 6 (kg m.1 6 + 1) m.1, m.2.1 ++ [[kg m.1 6, t, p, r, -1005, 0, -1005]], m.2.2.1, m.2.2.2)
theorem nAl_e {x t p r : Int} : nAl x t p r = kg [x, t, p, r, -1005, 0, -1005] := by
  funext k
  unfold nAl
  match k with
  | 0 => rfl
  | 1 => rfl
  | 2 => rfl
  | 3 => rfl
  | 4 => rfl
  | 5 => rfl
  | 6 => rfl
  | k + 7 =>
    rw [if_neg (by omega), if_neg (by omega), if_neg (by omega), if_neg (by omega), if_neg (by omega), if_neg (by omega), if_neg (by omega)]
    rfl
theorem kIns_e {m : kM} {t p r : Int} : mIns (eM m) t p r = eM (kIns m t p r) := by
  unfold mIns kIns
  rw [nAl_e]
  show (aU (kg m.1) 6 (kg m.1 6 + 1), m.2.1.map kg ++ [kg _], _, _) = (kg (ks 6 (kg m.1 6 + 1) m.1), (m.2.1 ++ [_]).map kg, _, _)
  rw [kU, List.map_append]
  rfl
def kAdd (m : kM) (t p r : Int) : Option kM := kSh 60 (kIns m t p r)
theorem kAdd_s {m m' : kM} {t p r : Int} (h : kAdd m t p r = some m') : mAdd (eM m) t p r = eM m' := by
  unfold mAdd
  rw [kIns_e]
  exact kSh_s h
def kmxT : List (List Int) → Int → Int
  | [], _ => -1005
  | a :: L, c => if kg a 4 = c then max (kg a 1) (kmxT L c) else kmxT L c
theorem kmxT_e : ∀ {L : List (List Int)} {c : Int}, mxT (L.map kg) c = kmxT L c
  | [], _ => rfl
  | a :: L, c => by
    show (if kg a 4 = c then max (kg a 1) (mxT (L.map kg) c) else mxT (L.map kg) c) = _
    rw [kmxT_e]
    rfl
def kOff (m : kM) (a : List Int) : kM := if kg a 4 = -1005 then m else (m.1, kasg m.2.1 a (-1005), cs (kg a 4).toNat (kmxT (kasg m.2.1 a (-1005)) (kg a 4), if kmxT (kasg m.2.1 a (-1005)) (kg a 4) = -1005 then 0 else (cg m.2.2.1 (kg a 4).toNat).2) m.2.2.1, m.2.2.2)
theorem kOff_e {m : kM} {a : List Int} : mOff (eM m) (kg a) = eM (kOff m a) := by
  unfold mOff kOff
  by_cases h : kg a 4 = -1005
  · rw [cIf_t h, if_pos h]
  · rw [cIf_f h, if_neg h]
    show (_, asg (m.2.1.map kg) (kg a) (-1005), cU (cf m.2.2.1) (kg a 4).toNat (mxT (asg (m.2.1.map kg) (kg a) (-1005)) (kg a 4)) (cIf (mxT (asg (m.2.1.map kg) (kg a) (-1005)) (kg a 4) = -1005) 0 (cf m.2.2.1 (kg a 4).toNat 1)), _) = (_, (kasg m.2.1 a (-1005)).map kg, cf (cs _ _ _), _)
    rw [← cfU, kasg_e, ← kasg_e, kmxT_e, cf_1]
    by_cases h2 : kmxT (kasg m.2.1 a (-1005)) (kg a 4) = -1005
    · rw [cIf_t h2, if_pos h2]
      rfl
    · rw [cIf_f h2, if_neg h2]
      rfl
def kRem (m : kM) (a : List Int) : kM := (m.1, m.2.1.filter (fun b => decide (kg b 0 ≠ kg a 0)), m.2.2.1, m.2.2.2)
theorem kfil_e {L : List (List Int)} {p : Ar → Bool} : (L.map kg).filter p = (L.filter (fun b => p (kg b))).map kg := by
  induction L with
  | nil => rfl
  | cons a L ih =>
    rw [List.map_cons, List.filter_cons, List.filter_cons]
    split
    · rw [ih, List.map_cons]
    · exact ih
theorem kRem_e {m : kM} {a : List Int} : mRem (eM m) (kg a) = eM (kRem m a) := by
  unfold mRem kRem
  rw [eM_2, kfil_e]
  rfl
def kCan (m : kM) (a : List Int) : Option kM := kSh 60 (kRem (kOff m a) a)
theorem kCan_s {m m' : kM} {a : List Int} (h : kCan m a = some m') : mCan (eM m) (kg a) = eM m' := by
  unfold mCan
  rw [kOff_e, kRem_e]
  exact kSh_s h
def kTim (m : kM) (a : List Int) (t : Int) : kM := (m.1, m.2.1.map (fun b => if kg b 0 = kg a 0 then ks 1 t b else b), m.2.2.1, m.2.2.2)
theorem kTim_e {m : kM} {a : List Int} {t : Int} : mTim (eM m) (kg a) t = eM (kTim m a t) := by
  unfold mTim kTim
  show (_, (m.2.1.map kg).map _, _, _) = (_, (m.2.1.map _).map kg, _, _)
  rw [List.map_map, List.map_map]
  congr 2
  apply List.map_congr_left
  intro b _
  show (if kg b 0 = kg a 0 then aU (kg b) 1 t else kg b) = kg (if kg b 0 = kg a 0 then ks 1 t b else b)
  split
  · exact kU
  · rfl
def kMov (m : kM) (a : List Int) (t : Int) : Option kM := kSh 60 (kTim (kOff m a) a t)
theorem kMov_s {m m' : kM} {a : List Int} {t : Int} (h : kMov m a t = some m') : mMov (eM m) (kg a) t = eM m' := by
  unfold mMov
  rw [kOff_e, kTim_e]
  exact kSh_s h
def kFr (m : kM) (c : Nat) : kM := (m.1, kuns m.2.1 c, cs c (-1005, 0) m.2.2.1, m.2.2.2)
theorem kFr_e {m : kM} {c : Nat} : mFr (eM m) c = eM (kFr m c) := by
  unfold mFr kFr
  rw [eM_2, eM_3, cfU, ← kuns_e]
  rfl
def kFrs : Nat → Nat → kM → kM
  | 0, _, m => m
  | k + 1, j, m => kFrs k (j + 1) (kFr m j)
theorem kFrs_e : ∀ {k j : Nat} {m : kM}, mFrs k j (eM m) = eM (kFrs k j m)
  | 0, _, _ => rfl
  | k + 1, j, m => by
    show mFrs k (j + 1) (mFr (eM m) j) = _
    rw [kFr_e, kFrs_e]
    rfl
def kSt (k : Nat) (x : Int) (m : kM) : kM := (ks k x m.1, m.2)
theorem kSt_e {m : kM} {k : Nat} {x : Int} : (aU (eM m).1 k x, (eM m).2) = eM (kSt k x m) := by
  show (aU (kg m.1) k x, _) = (kg (ks k x m.1), _)
  rw [kU]
  rfl
def kCh (m : kM) (many : Nat) : Option kM := kSh 60 (kSt 7 (many : Int) (kFrs ((kg m.1 7).toNat - many) many m))
theorem kCh_s {m m' : kM} {many : Nat} (h : kCh m many = some m') : mCh (eM m) many = eM m' := by
  unfold mCh mSet7
  rw [eM_1, kFrs_e]
  have e := kSt_e (m := kFrs ((kg m.1 7).toNat - many) many m) (k := 7) (x := (many : Int))
  have e : (aU (eM (kFrs ((kg m.1 7).toNat - many) many m)).1 7 (many : Int), (eM (kFrs ((kg m.1 7).toNat - many) many m)).2.1, (eM (kFrs ((kg m.1 7).toNat - many) many m)).2.2.1, (eM (kFrs ((kg m.1 7).toNat - many) many m)).2.2.2) = _ := e
  rw [e]
  exact kSh_s h
theorem kNum_e {m : kM} {k : Nat} {x : Int} : mNum (eM m) k x = eM (kSt k x m) := kSt_e
-- a tick
def kT1 (m : kM) : kM := (ks 0 (kg m.1 0 + gro (kg m.1 1 + 1) (kg m.1 2)) (ks 1 (kg m.1 1 + 1) m.1), m.2)
theorem kT1_e {m : kM} : mT1 (eM m) = eM (kT1 m) := by
  show (aU (aU (kg m.1) 1 (kg m.1 1 + 1)) 0 (kg m.1 0 + gro (kg m.1 1 + 1) (kg m.1 2)), _, _, _) = (kg (ks 0 _ (ks 1 _ m.1)), _)
  rw [kU, kU]
  rfl
def kLd (m : kM) (c : Nat) : kM := (m.1, m.2.1, cs c ((cg m.2.2.1 c).1, if 0 < (cg m.2.2.1 c).2 then (cg m.2.2.1 c).2 - 1 else (cg m.2.2.1 c).2) m.2.2.1, m.2.2.2)
theorem kLd_e {m : kM} {c : Nat} : mLd (eM m) c = eM (kLd m c) := by
  unfold mLd kLd
  rw [eM_3, cf_0, cf_1, cfU]
  rfl
def kLds : Nat → Nat → kM → kM
  | 0, _, m => m
  | k + 1, j, m => kLds k (j + 1) (kLd m j)
theorem kLds_e : ∀ {k j : Nat} {m : kM}, mLds k j (eM m) = eM (kLds k j m)
  | 0, _, _ => rfl
  | k + 1, j, m => by
    show mLds k (j + 1) (mLd (eM m) j) = _
    rw [kLd_e, kLds_e]
    rfl
def krung (b : List Int) (s : Int) : List Int := ks 1 (kg b 1 + (s / kg b 2 + 1) * kg b 2) (ks 4 (-1005) (ks 6 (max (kg b 6) s) (ks 5 (kg b 5 + 1) b)))
theorem krung_e {b : List Int} {s : Int} : rung (kg b) s = kg (krung b s) := by
  unfold rung krung
  rw [kU, kU, kU, kU]
def kSc (l : List Int) (sl ms : Int) : List Int := ks 14 (kg l 14 + 1) (ks 11 (kg l 11 + ms) (ks 10 (max (kg l 10) sl) (ks 9 (kg l 9 + sl) (ks 8 (kg l 8 + 1) l))))
theorem kSc_e {l : List Int} {sl ms : Int} : mSc (kg l) sl ms = kg (kSc l sl ms) := by
  unfold mSc kSc
  rw [kU, kU, kU, kU, kU]
def kR1 (m : kM) (a : List Int) : kM :=
  (kSc m.1 (kg m.1 0 - kg a 1) (if kg a 2 = 0 then 0 else (kg m.1 0 - kg a 1) / kg a 2),
   if kg a 2 = 0 then m.2.1.filter (fun b => decide (kg b 0 ≠ kg a 0)) else m.2.1.map (fun b => if kg b 0 = kg a 0 then krung b (kg m.1 0 - kg a 1) else b),
   m.2.2.1, ([kg a 0, kg m.1 0, kg m.1 0 - kg a 1, kg a 4] :: m.2.2.2).take 8)
theorem kR1_e {m : kM} {a : List Int} : mR1 (eM m) (kg a) = eM (kR1 m a) := by
  unfold mR1 kR1
  have e1 : mSc (eM m).1 ((eM m).1 0 - kg a 1) (if kg a 2 = 0 then 0 else ((eM m).1 0 - kg a 1) / kg a 2) = kg (kSc m.1 (kg m.1 0 - kg a 1) (if kg a 2 = 0 then 0 else (kg m.1 0 - kg a 1) / kg a 2)) := kSc_e
  have e2 : (if kg a 2 = 0 then (eM m).2.1.filter (fun b => decide (b 0 ≠ kg a 0)) else (eM m).2.1.map (fun b => if b 0 = kg a 0 then rung b ((eM m).1 0 - kg a 1) else b)) = (if kg a 2 = 0 then m.2.1.filter (fun b => decide (kg b 0 ≠ kg a 0)) else m.2.1.map (fun b => if kg b 0 = kg a 0 then krung b (kg m.1 0 - kg a 1) else b)).map kg := by
    by_cases h : kg a 2 = 0
    · rw [if_pos h, if_pos h, eM_2, kfil_e]
    · rw [if_neg h, if_neg h, eM_2, List.map_map, List.map_map]
      apply List.map_congr_left
      intro b _
      show (if kg b 0 = kg a 0 then rung (kg b) (kg m.1 0 - kg a 1) else kg b) = kg (if kg b 0 = kg a 0 then krung b (kg m.1 0 - kg a 1) else b)
      split
      · exact krung_e
      · rfl
  have e3 : (lgE (kg a) ((eM m).1 0) ((eM m).1 0 - kg a 1) :: (eM m).2.2.2).take 8 = (([kg a 0, kg m.1 0, kg m.1 0 - kg a 1, kg a 4] :: m.2.2.2).take 8).map gf := by
    rw [List.map_take]
    rfl
  rw [e1, e2, e3]
  rfl
def kRg : Nat → Nat → kM → Option kM
  | 0, _, _ => none
  | f + 1, c, m => if kno m.2.1 (c : Int) = true then some m else match kfst m.2.1 (c : Int) with
    | none => none
    | some a => kRg f c (kR1 m a)
theorem kRg_r : ∀ {f c : Nat} {m m' : kM}, kRg f c m = some m' → rgd c (eM m) (eM m')
  | 0, _, _, _, h => by cases h
  | f + 1, c, m, m', h => by
    unfold kRg at h
    by_cases hs : kno m.2.1 (c : Int) = true
    · rw [if_pos hs] at h
      cases h
      exact ⟨0, rfl, kno_t hs⟩
    · rw [if_neg hs] at h
      cases h1 : kfst m.2.1 (c : Int) with
      | none => rw [h1] at h; cases h
      | some a =>
        rw [h1] at h
        refine rgd_s (kfst_s h1) ?_
        rw [kR1_e]
        exact kRg_r h
def kRA (m : kM) (c : Nat) : Option kM := match kRg 22 c m with
  | none => none
  | some m' => some (kFr m' c)
theorem kRA_s {m m' : kM} {c : Nat} (h : kRA m c = some m') : mRA (eM m) c = eM m' := by
  unfold kRA at h
  cases h1 : kRg 22 c m with
  | none => rw [h1] at h; cases h
  | some n =>
    rw [h1] at h
    cases h
    unfold mRA
    rw [mRg_eq (kRg_r h1), kFr_e]
def kdue (m : kM) (c : Nat) : Bool := !decide ((cg m.2.2.1 c).1 = -1005) && (decide ((cg m.2.2.1 c).2 = 0) && decide ((cg m.2.2.1 c).1 ≤ kg m.1 0))
theorem kdue_t {m : kM} {c : Nat} : kdue m c = true ↔ due (eM m) c := by
  unfold kdue due
  rw [eM_1, eM_3, cf_0, cf_1]
  simp only [Bool.and_eq_true, Bool.not_eq_true', decide_eq_false_iff_not, decide_eq_true_eq, ne_eq]
def kRo : Nat → Nat → kM → Option kM
  | 0, _, m => some m
  | k + 1, j, m => if kdue m j = true then (match kRA m j with
    | none => none
    | some m' => kRo k (j + 1) m') else kRo k (j + 1) m
theorem kRo_s : ∀ {k j : Nat} {m m' : kM}, kRo k j m = some m' → mRo k j (eM m) = eM m'
  | 0, _, _, _, h => by cases h; rfl
  | k + 1, j, m, m', h => by
    unfold kRo at h
    show mRo k (j + 1) (cIf (due (eM m) j) (mRA (eM m) j) (eM m)) = _
    by_cases hd : kdue m j = true
    · rw [if_pos hd] at h
      rw [cIf_t (kdue_t.mp hd)]
      cases h1 : kRA m j with
      | none => rw [h1] at h; cases h
      | some n =>
        rw [h1] at h
        rw [kRA_s h1]
        exact kRo_s h
    · rw [if_neg hd] at h
      rw [cIf_f (fun q => hd (kdue_t.mpr q))]
      exact kRo_s h
def kTick (m : kM) : Option kM := match kRo (kg m.1 7).toNat 0 (kLds (kg m.1 7).toNat 0 (kT1 m)) with
  | none => none
  | some m' => kSh 60 m'
theorem kTick_s {m m' : kM} (h : kTick m = some m') : mTick (eM m) = eM m' := by
  unfold kTick at h
  unfold mTick
  rw [kT1_e, eM_1, kLds_e]
  cases h1 : kRo (kg m.1 7).toNat 0 (kLds (kg m.1 7).toNat 0 (kT1 m)) with
  | none => rw [h1] at h; cases h
  | some n =>
    rw [h1] at h
    rw [kRo_s h1]
    exact kSh_s h
def kTks : Nat → kM → Option kM
  | 0, m => some m
  | n + 1, m => match kTick m with
    | none => none
    | some m' => kTks n m'
theorem kTks_s : ∀ {n : Nat} {m m' : kM}, kTks n m = some m' → mTks n (eM m) = eM m'
  | 0, _, _, h => by cases h; rfl
  | n + 1, m, m', h => by
    unfold kTks at h
    show mTks n (mTick (eM m)) = _
    cases h1 : kTick m with
    | none => rw [h1] at h; cases h
    | some n =>
      rw [h1] at h
      rw [kTick_s h1]
      exact kTks_s h
