/-! ===== the class reads the list ===== -/
def LQ (G : Mm) (a : Nat) (L : List Ar) : Prop := G.1 a 5 = jI (L.length : Int) ∧ ∀ i e, L[i]? = some e → G.1 (a + 2) i = jI (e 0) ∧ G.1 (a + 3) i = jI (e 1) ∧ G.1 (a + 4) i = jI (e 2)
def XL (G G' : Mm) (a : Nat) : Prop := G'.2 = G.2 ∧ ∀ q k, ¬ (a + 2 ≤ q ∧ q < a + 5) → ¬ (q = a ∧ (k = 5 ∨ k = 6)) → G'.1 q k = G.1 q k
theorem XL.rf {G : Mm} {a : Nat} : XL G G a := ⟨rfl, fun _ _ _ _ => rfl⟩
theorem XL.tr {G G1 G2 : Mm} {a : Nat} (h : XL G G1 a) (h' : XL G1 G2 a) : XL G G2 a := ⟨h'.1.trans h.1, fun r k hk hk2 => (h'.2 r k hk hk2).trans (h.2 r k hk hk2)⟩
theorem XP.xl {G G' : Mm} {a p : Nat} (h : XP G G' a p) : XL G G' a := ⟨h.1, fun q k _ hk => h.2.1 q k (by omega)⟩
theorem TX.xl {G G' : Mm} {a n : Nat} {t : Nat → Int} (h : TX G a t n) (hx : XL G G' a) : TX G' a t n := by
  obtain ⟨h1, h2, h3, h4⟩ := h
  refine ⟨by rw [hx.1]; exact h1, by rw [hx.2 a 1 (by omega) (by omega)]; exact h2, h3, fun i hi => ?_⟩
  rw [hx.2 (a + 1) i (by omega) (by omega)]
  exact h4 i hi
theorem LQ.xp {G G' : Mm} {a p : Nat} {L : List Ar} (h : LQ G a L) (hx : XP G G' a p) : LQ G' a L := by
  refine ⟨by rw [hx.2.1 a 5 (by omega)]; exact h.1, fun i e he => ?_⟩
  rw [hx.2.1 (a + 2) i (by omega), hx.2.1 (a + 3) i (by omega), hx.2.1 (a + 4) i (by omega)]
  exact h.2 i e he
theorem sp_readAlarm {G : Mm} {a n p : Nat} {t : Nat → Int} {L : List Ar} {Q : dp_Ps} (hT : TX G a t n) (hL : LQ G a L) (hp : G.1 a 6 = jI (p : Int)) (hpn : p ≤ n) (hl : ∀ e, (pAl t n p).2 = some e → L.length < 30)
    (h1 : ∀ e, (pAl t n p).2 = some e → ∀ G', XL G G' a → G'.1 a 6 = jI ((pAl t n p).1 : Int) → LQ G' a (L ++ [e]) → Q (jI 1) G') (h0 : (pAl t n p).2 = none → ∀ G', XL G G' a → G'.1 a 6 = jI ((pAl t n p).1 : Int) → LQ G' a L → Q (jI 0) G') : Sp 7 4 [vR 1 a] G Q := by
  have i1 : inR (-1) := inR_s (by omega) (by omega)
  have s85 : ∀ (G1 : Mm) (p1 : Nat) (w0 w1 w2 w3 : Option Vl), XP G G1 a p1 → pAl t n p = (p1, none) → Wp 7 85 [w0, w1, w2, w3] [] G1 Q := by
    intro G1 p1 w0 w1 w2 w3 hx he
    apply vcX1_readAlarm_85
    exact h0 (by rw [he]) G1 hx.xl (by rw [he]; exact hx.2.2) (hL.xp hx)
  have s61 : ∀ (G1 : Mm) (p1 : Nat) (x y z : Int), XP G G1 a p1 → inR x → inR y → inR z → (x = -1 ∨ y = -1 ∨ z = -1 → pAl t n p = (p1, none)) → (¬ (x = -1 ∨ y = -1 ∨ z = -1) → pAl t n p = (p1, some (tr3 x y z))) →
      Wp 7 61 [some (vR 1 a), some (vI (jI x)), some (vI (jI y)), some (vI (jI z))] [] G1 Q := by
    intro G1 p1 x y z hx ix iy iz hn hs
    have hL1 := hL.xp hx
    apply vcX1_readAlarm_61
    rw [jI_inj ix i1, jI_inj iy i1, jI_inj iz i1]
    refine ⟨fun q => s85 G1 p1 _ _ _ _ hx (hn (Or.inl q)), fun q1 => ⟨fun q => s85 G1 p1 _ _ _ _ hx (hn (Or.inr (Or.inl q))), fun q2 => ⟨fun q => s85 G1 p1 _ _ _ _ hx (hn (Or.inr (Or.inr q))), fun q3 => ?_⟩⟩⟩
    have he := hs (by omega)
    have hlt := hl (tr3 x y z) (by rw [he])
    obtain ⟨⟨r0, r2, r3, r4⟩, -⟩ := hT.xp hx
    rw [hL1.1, jI_lt (inR_n (by omega)) (inR_s (by omega) (by omega)), r2, jI_cln (by omega)]
    refine ⟨fun _ => ⟨jI_in (by omega) (by omega) (by omega), ?_⟩, fun q => by omega⟩
    rintro _ rfl
    rw [wI_n (by omega), hL1.1, wI_2, r3, jI_cln (by omega)]
    refine ⟨jI_in (by omega) (by omega) (by omega), ?_⟩
    rintro _ rfl
    rw [wI_n (by omega), wI_n (by omega), hL1.1, wI_2, wI_2, r4, jI_cln (by omega)]
    refine ⟨jI_in (by omega) (by omega) (by omega), ?_⟩
    rintro _ rfl _ rfl
    rw [wI_n (by omega), wI_n (by omega), wI_n (by omega), hL1.1, jI_add]
    refine h1 (tr3 x y z) (by rw [he]) _ (hx.xl.tr ⟨rfl, fun q k g1 g2 => ?_⟩) ?_ ⟨?_, fun i e hi => ?_⟩
    · rw [wI_n (by omega), wI_n (by omega), wI_n (by omega), wI_n (by omega)]
    · rw [wI_n (by omega), wI_n (by omega), wI_n (by omega), wI_n (by omega), he]; exact hx.2.2
    · rw [wI_s, List.length_append]; rfl
    · by_cases hil : i = L.length
      · subst hil
        rw [List.getElem?_append_right (Nat.le_refl _), Nat.sub_self] at hi
        have : tr3 x y z = e := Option.some.inj hi
        rw [← this]
        refine ⟨?_, ?_, ?_⟩
        · rw [wI_n (by omega), wI_n (by omega), wI_n (by omega), wI_s]; rfl
        · rw [wI_n (by omega), wI_n (by omega), wI_s]; rfl
        · rw [wI_n (by omega), wI_s]; rfl
      · have hil2 : i < L.length := by
          have : i < (L ++ [tr3 x y z]).length := by
            rcases Nat.lt_or_ge i (L ++ [tr3 x y z]).length with g | g
            · exact g
            · rw [List.getElem?_eq_none g] at hi; cases hi
          rw [List.length_append] at this
          simp at this
          omega
        rw [List.getElem?_append_left hil2] at hi
        rw [wI_n (by omega), wI_n (by omega), wI_n (by omega), wI_n (by omega), wI_n (by omega), wI_n (by omega), wI_n (by omega), wI_n (by omega), wI_n (by omega), wI_n (by omega), wI_n (by omega), wI_n (by omega)]
        exact hL1.2 i e hi
  have s35 : ∀ (G1 : Mm) (p1 : Nat) (x y : Int), XP G G1 a p1 → p1 ≤ n → inR x → inR y → (x = -1 ∨ y = -1 → pAl t n p = (p1, none)) → (¬ (x = -1 ∨ y = -1) → pAl t n p = if (pRnk t n p1).2 = -1 then ((pRnk t n p1).1, none) else ((pRnk t n p1).1, some (tr3 x y (pRnk t n p1).2))) →
      Wp 7 35 [some (vR 1 a), some (vI (jI x)), some (vI (jI y)), some (vI (jI 0))] [] G1 Q := by
    intro G1 p1 x y hx hp1 ix iy hn hs
    have i0 : inR 0 := inR_s (by omega) (by omega)
    have hb := pRnk_b (t := t) hp1
    apply vcX1_readAlarm_35
    rw [jI_inj ix i1, jI_inj iy i1]
    refine ⟨fun q => s61 G1 p1 x y 0 hx ix iy i0 (fun _ => hn (Or.inl q)) (fun z => by omega), fun q1 => ⟨fun q => s61 G1 p1 x y 0 hx ix iy i0 (fun _ => hn (Or.inr q)) (fun z => by omega), fun q2 => ?_⟩⟩
    have hs := hs (by omega)
    unfold pRnk at hs hb
    refine sp_sign (hT.xp hx) hx.2.2 hp1 (inR_s (by omega) (by omega)) (fun hsg G2 k1 => ⟨fun q => absurd q (by decide), fun _ => ?_⟩) (fun hsg => ⟨fun _ => ?_, fun q => absurd rfl q⟩)
    · rw [if_pos hsg] at hs hb
      have hx2 := hx.tr k1
      refine sp_num (hT.xp hx2) hx2.2.2 (by have := hsg.1; omega) (by omega) (by omega) (fun G3 k2 => ?_)
      refine s61 G3 _ x y _ (hx2.tr k2) ix iy ⟨by omega, by omega⟩ (fun z => ?_) (fun z => ?_)
      · rw [hs, if_pos (by omega)]
      · rw [hs, if_neg (by omega)]
    · rw [if_neg hsg, if_neg (by show ¬ (0 : Int) = -1; omega)] at hs
      exact s61 G1 p1 x y 0 hx ix iy i0 (fun z => by omega) (fun _ => hs)
  have ha := pNum_b (t := t) (n := n) (lo := 0) (hi := 99999) hpn
  have hb := pPer_b (t := t) (n := n) (p := (pNum t n 0 99999 p).1) (by omega)
  have hA : pAl t n p = pAl t n p := rfl
  conv at hA => rhs; unfold pAl
  apply vcX1_readAlarm
  refine sp_num hT hp hpn (by omega) (by omega) (fun G1 k1 => ?_)
  rw [jI_inj ⟨by omega, by omega⟩ i1]
  refine ⟨fun q => ?_, fun q => ?_⟩
  · refine s35 G1 _ _ 0 k1 (by omega) ⟨by omega, by omega⟩ (inR_s (by omega) (by omega)) (fun _ => ?_) (fun z => absurd (Or.inl q) z)
    rw [hA, if_pos q]
  · rw [if_neg q] at hA
    unfold pPer at hA hb
    refine sp_sign (hT.xp k1) k1.2.2 (by omega) (inR_s (by omega) (by omega)) (fun hsg G2 k2 => ⟨fun q => absurd q (by decide), fun _ => ?_⟩) (fun hsg => ⟨fun _ => ?_, fun q => absurd rfl q⟩)
    · rw [if_pos hsg] at hA hb
      have hx2 := k1.tr k2
      refine sp_num (hT.xp hx2) hx2.2.2 (by have := hsg.1; omega) (by omega) (by omega) (fun G3 k3 => ?_)
      refine s35 G3 _ _ _ (hx2.tr k3) (by omega) ⟨by omega, by omega⟩ ⟨by omega, by omega⟩ (fun z => ?_) (fun z => ?_)
      · rw [hA, if_pos (by omega)]
      · rw [hA, if_neg (by omega)]
    · rw [if_neg hsg, if_neg (by show ¬ (0 : Int) = -1; omega)] at hA
      refine s35 G1 _ _ 0 k1 (by omega) ⟨by omega, by omega⟩ (inR_s (by omega) (by omega)) (fun z => ?_) (fun _ => hA)
      omega
theorem pLs_s {t : Nat → Int} {n k p : Nat} {L : List Ar} : pLs t n (k + 1) p L = match (pAl t n p).2 with
    | none => (((pAl t n p).1 : Int), L)
    | some e => if sg t n 59 (pAl t n p).1 then pLs t n k ((pAl t n p).1 + 1) (L ++ [e]) else if (pAl t n p).1 = n then (-1, L ++ [e]) else (((pAl t n p).1 : Int), L ++ [e]) := rfl
theorem aOK_app {L : List Ar} {e : Ar} (h : ∀ e, e ∈ L → aOK e) (he : aOK e) : ∀ x, x ∈ L ++ [e] → aOK x := by
  intro x hx
  rcases List.mem_append.mp hx with q | q
  · exact h x q
  · rw [List.mem_singleton.mp q]; exact he
theorem sp_readList {G : Mm} {a n : Nat} {t : Nat → Int} {Q : dp_Ps} (hT : TX G a t n)
    (h : ∀ G', XL G G' a → LQ G' a (pLs t n 31 0 []).2 → (∀ e, e ∈ (pLs t n 31 0 []).2 → aOK e) → (pLs t n 31 0 []).2.length ≤ 30 → -1 ≤ (pLs t n 31 0 []).1 ∧ (pLs t n 31 0 []).1 ≤ 60 → Q (jI (pLs t n 31 0 []).1) G') : Sp 6 2 [vR 1 a] G Q := by
  have hn60 := hT.2.2.1
  apply vcX1_readList
  rintro _ rfl _ rfl
  have loop : ∀ k : Nat, ∀ (p : Nat) (L : List Ar) (G1 : Mm), k + L.length = 31 → 2 * L.length ≤ p → p ≤ n → XL G G1 a → G1.1 a 6 = jI (p : Int) → LQ G1 a L → (∀ e, e ∈ L → aOK e) → pLs t n k p L = pLs t n 31 0 [] →
      Wp 6 12 [some (vR 1 a), some (vI (jI (L.length : Int)))] [] G1 Q := by
    intro k
    induction k with
    | zero => intro p L G1 hk hp2; omega
    | succ k ih =>
      intro p L G1 hk hp2 hpn hx h6 hL hok he
      have hT1 := hT.xl hx
      have hb := pAl_b (t := t) hpn
      apply vcX1_readList_12
      rw [jI_lt (inR_s (by omega) (by omega)) (inR_n (by omega))]
      refine ⟨fun q => by omega, fun _ => ?_⟩
      rw [pLs_s] at he
      refine sp_readAlarm hT1 hL h6 hpn (fun e q => by have := (hb.2.2 e q).1; omega) (fun e q G2 k1 k2 k3 => ⟨fun z => absurd z (by decide), fun _ => ?_⟩) (fun q G2 k1 k2 k3 => ⟨fun _ => ?_, fun z => absurd rfl z⟩)
      · have hx2 := hx.tr k1
        have hbe := hb.2.2 e q
        have hll : (L ++ [e]).length = L.length + 1 := by simp
        rw [q] at he
        dsimp only at he
        refine sp_sign (hT.xl hx2) k2 hb.2.1 (inR_s (by omega) (by omega)) (fun hsg G3 k4 => ⟨fun z => absurd z (by decide), fun _ => ?_⟩) (fun hsg => ⟨fun _ => ?_, fun z => absurd rfl z⟩)
        · rw [if_pos hsg] at he
          rw [jI_add, show ((L.length : Int) + 1) = (((L ++ [e]).length : Nat) : Int) by omega]
          exact ih _ (L ++ [e]) G3 (by omega) (by omega) (by have := hsg.1; omega) (hx2.tr k4.xl) k4.2.2 (k3.xp k4) (aOK_app hok hbe.2) he
        · rw [if_neg hsg] at he
          rw [k2, (hT.xl hx2).2.1, jI_inj (inR_n (by omega)) (inR_n (by omega))]
          rw [← he] at h
          refine ⟨fun z => ?_, fun z => ?_⟩
          · rw [if_pos (by omega)] at h
            exact h G2 hx2 k3 (aOK_app hok hbe.2) (by show (L ++ [e]).length ≤ 30; omega) (by show -1 ≤ (-1 : Int) ∧ (-1 : Int) ≤ 60; omega)
          · rw [if_neg (by omega)] at h
            exact h G2 hx2 k3 (aOK_app hok hbe.2) (by show (L ++ [e]).length ≤ 30; omega) (by show -1 ≤ ((pAl t n p).1 : Int) ∧ ((pAl t n p).1 : Int) ≤ 60; omega)
      · rw [q] at he
        dsimp only at he
        rw [← he] at h
        rw [k2]
        exact h G2 (hx.tr k1) k3 hok (by show L.length ≤ 30; omega) (by show -1 ≤ ((pAl t n p).1 : Int) ∧ ((pAl t n p).1 : Int) ≤ 60; omega)
  refine loop 31 0 [] _ rfl (by decide) (by omega) ⟨rfl, fun q k g1 g2 => ?_⟩ ?_ ⟨?_, fun i e hi => by cases hi⟩ (fun e he => by cases he) rfl
  · rw [wI_n (by omega), wI_n (by omega)]
  · rw [wI_s]; rfl
  · rw [wI_n (by omega), wI_s]; rfl
theorem sp_least {G : Mm} {a : Nat} {L : List Ar} {Q : dp_Ps} (hL : LQ G a L) (hl : L.length ≤ 30) (hok : ∀ e, e ∈ L → aOK e)
    (h : ∀ m : Int, 0 ≤ m → m ≤ 99999 → (∀ e, e ∈ L → m ≤ e 0) → (m = 99999 ∨ ∃ e, e ∈ L ∧ e 0 = m) → G.2 a 2 = a + 2 → Q (jI m) G) (h2 : G.2 a 2 = a + 2) : Sp 11 3 [vR 1 a] G Q := by
  apply vcX1_leastTime
  have loop : ∀ k i : Nat, ∀ m : Int, k = L.length - i → i ≤ L.length → 0 ≤ m → m ≤ 99999 → (∀ j e, j < i → L[j]? = some e → m ≤ e 0) → (m = 99999 ∨ ∃ e, e ∈ L ∧ e 0 = m) → Wp 11 5 [some (vR 1 a), some (vI (jI m)), some (vI (jI (i : Int)))] [] G Q := by
    intro k
    induction k with
    | zero =>
      intro i m hk hi h0 h9 hle hex
      apply vcX1_leastTime_5
      rw [hL.1, jI_le (inR_n (by omega)) (inR_n (by omega))]
      refine ⟨fun _ => h m h0 h9 (fun e he => ?_) hex h2, fun q => by omega⟩
      obtain ⟨j, hj⟩ := List.mem_iff_getElem?.mp he
      have hjl : j < L.length := by
        rcases Nat.lt_or_ge j L.length with g | g
        · exact g
        · rw [List.getElem?_eq_none g] at hj; cases hj
      exact hle j e (by omega) hj
    | succ k ih =>
      intro i m hk hi
      have hil : i < L.length := by omega
      have hk' : k = L.length - (i + 1) := by omega
      intro h0 h9 hle hex
      obtain ⟨e, he⟩ : ∃ e, L[i]? = some e := ⟨L[i], List.getElem?_eq_getElem hil⟩
      have hmem : e ∈ L := List.mem_iff_getElem?.mpr ⟨i, he⟩
      have hoke := (hok e hmem).1
      apply vcX1_leastTime_5
      rw [hL.1, jI_le (inR_n (by omega)) (inR_n (by omega)), h2, jI_cln (by omega), (hL.2 i e he).1, jI_min ⟨by omega, by omega⟩ ⟨by omega, by omega⟩, jI_add]
      refine ⟨fun q => by omega, fun _ => ⟨jI_in (by omega) (by omega) (by omega), ?_⟩⟩
      refine ih (i + 1) (min m (e 0)) hk' hil (by omega) (by omega) (fun j x hj hx => ?_) ?_
      · by_cases hji : j = i
        · subst hji
          rw [he] at hx
          rw [← Option.some.inj hx]; omega
        · have := hle j x (by omega) hx
          omega
      · rcases hex with q | ⟨x, hx, hx0⟩
        · by_cases hm : e 0 ≤ m
          · exact Or.inr ⟨e, hmem, by omega⟩
          · exact Or.inl (by omega)
        · by_cases hm : e 0 ≤ m
          · exact Or.inr ⟨e, hmem, by omega⟩
          · exact Or.inr ⟨x, hx, by omega⟩
  exact loop L.length 0 99999 rfl (by omega) (by omega) (by omega) (fun j e hj => by omega) (Or.inl rfl)
theorem nar_c {x : Int} (hx : 0 ≤ x ∧ x ≤ 65535) : vp_nar .char (jI x) = jI x := by
  obtain ⟨c, hc⟩ : ∃ c : Nat, x = c := ⟨x.toNat, by omega⟩
  rw [hc, jI_nat]
  unfold vp_nar
  rw [(pk_charN (q := c) (by omega)).1]
theorem sp_append {G : Mm} {a n : Nat} {t : Nat → Int} {x : Int} {Q : dp_Ps} (hT : TX G a t n) (hx : 0 ≤ x ∧ x ≤ 65535) (h0 : n = 60 → Q (jI 0) G) (h1 : n < 60 → ∀ G', TX G' a (fun k => if k = n then x else t k) (n + 1) → FR a 5 G G' → G'.2 = G.2 → Q (jI 1) G') : Sp 5 2 [vR 1 a, vI (jI x)] G Q := by
  obtain ⟨⟨r0, r2, r3, r4⟩, g1, g2, g3⟩ := hT
  apply vcX1_append
  rw [g1, jI_lt (inR_n (by omega)) (inR_s (by omega) (by omega)), r0, jI_cln (by omega)]
  refine ⟨fun q => ⟨jI_in (by omega) (by omega) (by omega), ?_, ?_⟩, fun q => h0 (by omega)⟩
  · exact nar_c hx
  · rintro _ rfl _ rfl
    rw [wI_n (by omega), g1, jI_add]
    refine h1 (by omega) _ ⟨⟨r0, r2, r3, r4⟩, by rw [wI_s]; rfl, by omega, fun i hi => ?_⟩ ((FR.wI (by omega)).tr (FR.wI (by omega))) rfl
    rw [wI_n (by omega)]
    by_cases hin : i = n
    · subst hin
      show (wI G (a + 1) i (jI x)).1 (a + 1) i = jI (if i = i then x else t i) ∧ 0 ≤ (if i = i then x else t i) ∧ (if i = i then x else t i) ≤ 65535
      rw [wI_s, if_pos rfl]; exact ⟨rfl, hx⟩
    · show (wI G (a + 1) n (jI x)).1 (a + 1) i = jI (if i = n then x else t i) ∧ 0 ≤ (if i = n then x else t i) ∧ (if i = n then x else t i) ≤ 65535
      rw [wI_n (by omega), if_neg hin]; exact g3 i (by omega)

