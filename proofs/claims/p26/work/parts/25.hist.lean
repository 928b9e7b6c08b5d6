/-! ===== the class as a whole: its chips, and its history ===== -/
/-- a chip's place, with what it stands for -/
def KC (G : Mm) (b : Nat) (o : Option Ms) : Prop := ∃ v, CV G b v ∧ ∀ M, o = some M → RepC v M ∧ M.2.1.length ≤ 20
theorem KC.off {G G' : Mm} {b d n : Nat} {o : Option Ms} (h : KC G b o) (hf : FR d n G G') (ho : b + 30 ≤ d ∨ d + n ≤ b) : KC G' b o := by
  obtain ⟨v, h1, h2⟩ := h
  exact ⟨v, h1.off hf ho, h2⟩
theorem KC.no {G : Mm} {b : Nat} {o : Option Ms} (h : KC G b o) : KC G b none := by
  obtain ⟨v, h1, -⟩ := h
  exact ⟨v, h1, fun M q => by cases q⟩
theorem KC.mk {G : Mm} {b : Nat} {v : Nat → Nat → Int} {M : Ms} (h1 : CV G b v) (h2 : RepC v M) (hl : M.2.1.length ≤ 20) : KC G b (some M) := ⟨v, h1, fun N q => by rw [← Option.some.inj q]; exact ⟨h2, hl⟩⟩
theorem sp_copyK {G : Mm} {b b1 : Nat} {o : Option Ms} {M : Ms} {Q : dp_Ps} (hc : KC G b o) (hd : KC G b1 (some M)) (ho : b1 + 30 ≤ b ∨ b + 30 ≤ b1)
    (h : ∀ G', KC G' b (some M) → FR b 30 G G' → Q (jI 0) G') : Sp 12 3 [vR 2 b, vR 2 b1] G Q := by
  obtain ⟨v, h1, -⟩ := hc
  obtain ⟨w, h2, h3⟩ := hd
  obtain ⟨h4, h5⟩ := h3 M rfl
  exact sp_copyM h1 h2 ho h4 h5 (fun G' v' k1 k2 k3 => h G' (KC.mk k1 k3 h5) k2)
/-- the history, at a: the kept row at a + 1, the kept chips behind it; the oldest first -/
def HV (G : Mm) (a : Nat) (H : List Ms) : Prop := ∃ s : Nat → Nat, G.2 a 0 = a + 1 ∧ (∀ i, i < 4 → s i < 4 ∧ G.2 (a + 1) i = a + 2 + 30 * s i) ∧ (∀ i j, i < 4 → j < 4 → s i = s j → i = j) ∧ G.1 a 1 = jI (H.length : Int) ∧ H.length ≤ 4 ∧ ∀ i, i < 4 → KC G (a + 2 + 30 * s i) H[i]?
theorem HV.off {G G' : Mm} {a d n : Nat} {H : List Ms} (h : HV G a H) (hf : FR d n G G') (ho : a + 122 ≤ d ∨ d + n ≤ a) : HV G' a H := by
  obtain ⟨s, h0, h1, h2, h3, h4, h5⟩ := h
  refine ⟨s, by rw [(hf a (by omega)).2]; exact h0, fun i hi => ⟨(h1 i hi).1, by rw [(hf (a + 1) (by omega)).2]; exact (h1 i hi).2⟩, h2, by rw [(hf a (by omega)).1]; exact h3, h4, fun i hi => ?_⟩
  have := (h1 i hi).1
  exact (h5 i hi).off hf (by omega)
/-- the oldest goes when there are four -/
def push (H : List Ms) (N : Ms) : List Ms := if H.length = 4 then H.tail ++ [N] else H ++ [N]
/-- a state is laid at place i -/
theorem sp_lay {G : Mm} {a b i : Nat} {H : List Ms} {N : Ms} {Q : dp_Ps} (hH : HV G a H) (hN : KC G b (some N)) (ho : b + 30 ≤ a ∨ a + 122 ≤ b) (hi : H.length = i) (hi4 : i < 4)
    (h : ∀ G', HV G' a (H ++ [N]) → FR a 122 G G' → Q (jI 0) G') : vp_in (G.1 a 1) 4 ∧ Sp 12 3 [vR 2 (G.2 (G.2 a 0) (G.1 a 1).toNatClampNeg), vR 2 b] G (fun _ G3 => ∀ G5 : Mm, G5 = wI G3 a 1 (G3.1 a 1 + jI 1) → Q (jI 0) G5) := by
  obtain ⟨s, h0, h1, h2, h3, h4, h5⟩ := hH
  have hsi := h1 i hi4
  rw [h3, h0, hi, jI_cln (by omega), hsi.2]
  refine ⟨jI_in (by omega) (by omega) (by omega), ?_⟩
  refine sp_copyK (h5 i hi4) hN (by omega) (fun G2 k1 k2 => ?_)
  rintro _ rfl
  have e1 : G2.1 a 1 = jI (i : Int) := by rw [(k2 a (by omega)).1, h3, hi]
  rw [e1, jI_add]
  have kf : FR a 122 G G2 := k2.sub (by omega) (by omega)
  have k3 : FR a 1 G2 (wI G2 a 1 (jI ((i : Int) + 1))) := FR.wI (by omega)
  refine h _ ⟨s, ?_, fun j hj => ⟨(h1 j hj).1, ?_⟩, h2, ?_, by simp [hi]; omega, fun j hj => ?_⟩ (kf.tr (k3.sub (by omega) (by omega)))
  · show G2.2 a 0 = _
    rw [(k2 a (by omega)).2]; exact h0
  · show G2.2 (a + 1) j = _
    rw [(k2 (a + 1) (by omega)).2]; exact (h1 j hj).2
  · rw [wI_s, List.length_append, hi]; rfl
  · have hsj := (h1 j hj).1
    by_cases hji : j = i
    · subst hji
      rw [List.getElem?_append_right (by omega), hi, Nat.sub_self]
      exact k1.off k3 (by omega)
    · have hss : s j ≠ s i := fun q => hji (h2 j i hj hi4 q)
      have e : (H ++ [N])[j]? = H[j]? := by
        rcases (show j < i ∨ i < j by omega) with q | q
        · exact List.getElem?_append_left (by omega)
        · rw [List.getElem?_eq_none (by simp; omega), List.getElem?_eq_none (by omega)]
      rw [e]
      exact ((h5 j hj).off k2 (by omega)).off k3 (by omega)
theorem sp_drop {G : Mm} {a : Nat} {H : List Ms} {Q : dp_Ps} (hH : HV G a H) (hl : H.length = 4) (h : ∀ G', HV G' a H.tail → FR a 2 G G' → Q (jI 0) G') : Sp 47 3 [vR 4 a] G Q := by
  obtain ⟨s, h0, h1, h2, h3, h4, h5⟩ := hH
  have ea : ∀ i, i < 4 → G.2 (a + 1) i = a + 2 + 30 * s i := fun i hi => (h1 i hi).2
  apply vcX4_dropOldest
  rw [h0, ea 0 (by omega)]
  have key : ∀ m i : Nat, ∀ G1 : Mm, 3 - i < m → i ≤ 3 → G1.1 = G.1 → (∀ q, q ≠ a + 1 → G1.2 q = G.2 q) → (∀ q, q < 4 → G1.2 (a + 1) q = if q < i then a + 2 + 30 * s (q + 1) else a + 2 + 30 * s q) →
      Wp 47 9 [some (vR 4 a), some (vR 2 (a + 2 + 30 * s 0)), some (vI (jI (i : Int)))] [] G1 Q := by
    intro m
    induction m with
    | zero => intro i G1 hm; omega
    | succ m ih =>
      intro i G1 hm hi3 e1 e2 e3
      have e0 : G1.2 a 0 = a + 1 := by rw [e2 a (by omega)]; exact h0
      apply vcX4_dropOldest_9
      rw [jI_add, show ((i : Int) + 1) = ((i + 1 : Nat) : Int) by omega, jI_le (inR_s (by omega) (by omega)) (inR_n (by omega)), e0]
      refine ⟨fun q => ?_, fun q => ⟨jI_in (by omega) (by omega) (by omega), jI_in (by omega) (by omega) (by omega), ?_⟩⟩
      · have hi : i = 3 := by omega
        subst hi
        rintro _ rfl _ rfl
        have e4 : (wR G1 (a + 1) 3 (a + 2 + 30 * s 0)).1 a 1 = jI (4 : Int) := by show G1.1 a 1 = _; rw [e1, h3, hl]; rfl
        rw [e4, jI_sub]
        have hf1 : FR a 2 G G1 := fun q hq => ⟨by rw [e1], e2 q (by omega)⟩
        have hf2 : FR a 2 G (wR G1 (a + 1) 3 (a + 2 + 30 * s 0)) := hf1.tr (FR.wR (by omega))
        have hf : FR a 2 G (wI (wR G1 (a + 1) 3 (a + 2 + 30 * s 0)) a 1 (jI (4 - 1))) := hf2.tr (FR.wI (by omega))
        refine h _ ⟨fun q => if q < 3 then s (q + 1) else s 0, ?_, fun q hq => ⟨?_, ?_⟩, fun q r hq hr he => ?_, ?_, by simp [hl], fun q hq => ?_⟩ hf
        · show (if a = a + 1 ∧ 0 = 3 then _ else G1.2 a 0) = _
          rw [if_neg (by omega)]; exact e0
        · show (if q < 3 then s (q + 1) else s 0) < 4
          split
          · exact (h1 _ (by omega)).1
          · exact (h1 0 (by omega)).1
        · show (if a + 1 = a + 1 ∧ q = 3 then a + 2 + 30 * s 0 else G1.2 (a + 1) q) = a + 2 + 30 * (if q < 3 then s (q + 1) else s 0)
          by_cases hq3 : q = 3
          · rw [if_pos ⟨rfl, hq3⟩, if_neg (by omega)]
          · rw [if_neg (fun z => hq3 z.2), e3 q hq, if_pos (by omega), if_pos (by omega)]
        · have he : (if q < 3 then s (q + 1) else s 0) = (if r < 3 then s (r + 1) else s 0) := he
          by_cases h1q : q < 3
          · rw [if_pos h1q] at he
            by_cases h1r : r < 3
            · rw [if_pos h1r] at he
              have := h2 _ _ (by omega) (by omega) he; omega
            · rw [if_neg h1r] at he
              have := h2 _ _ (by omega) (by omega) he; omega
          · rw [if_neg h1q] at he
            by_cases h1r : r < 3
            · rw [if_pos h1r] at he
              have := h2 _ _ (by omega) (by omega) he; omega
            · omega
        · rw [wI_s, List.length_tail, hl]; rfl
        · show KC _ (a + 2 + 30 * (if q < 3 then s (q + 1) else s 0)) H.tail[q]?
          by_cases hq3 : q < 3
          · rw [if_pos hq3, List.getElem?_tail]
            exact (h5 (q + 1) (by omega)).off hf (by omega)
          · rw [if_neg hq3, List.getElem?_eq_none (by simp; omega)]
            exact ((h5 0 (by omega)).off hf (by omega)).no
      · rw [jI_cln (by omega), jI_cln (by omega)]
        rintro _ rfl
        refine ih (i + 1) _ (by omega) (by omega) e1 (fun q hq => ?_) (fun q hq => ?_)
        · rw [← e2 q hq]
          funext r
          show (if q = a + 1 ∧ r = i then _ else G1.2 q r) = _
          rw [if_neg (fun z => hq z.1)]
        · show (if a + 1 = a + 1 ∧ q = i then G1.2 (a + 1) (i + 1) else G1.2 (a + 1) q) = _
          by_cases hqi : q = i
          · rw [if_pos ⟨rfl, hqi⟩, e3 (i + 1) (by omega), if_neg (by omega), if_pos (by omega), hqi]
          · rw [if_neg (fun z => hqi z.2), e3 q hq]
            by_cases hq1 : q < i
            · rw [if_pos hq1, if_pos (by omega)]
            · rw [if_neg hq1, if_neg (by omega)]
  exact key 4 0 G (by omega) (by omega) rfl (fun _ _ => rfl) (fun q hq => by rw [if_neg (by omega)]; exact ea q hq)
theorem sp_record {G : Mm} {a b : Nat} {H : List Ms} {N : Ms} {Q : dp_Ps} (hH : HV G a H) (hN : KC G b (some N)) (ho : b + 30 ≤ a ∨ a + 122 ≤ b)
    (h : ∀ G', HV G' a (push H N) → FR a 122 G G' → Q (jI 0) G') : Sp 46 2 [vR 4 a, vR 2 b] G Q := by
  have hH' := hH
  obtain ⟨s, h0, h1, h2, h3, h4, h5⟩ := hH'
  apply vcX4_recordState
  rw [h3, jI_inj (inR_n (by omega)) (inR_s (by omega) (by omega))]
  refine ⟨fun q => ?_, fun q => ?_⟩
  · have hl : H.length = 4 := by omega
    refine sp_drop hH hl (fun G1 k1 k2 => ?_)
    refine sp_lay k1 (hN.off k2 (by omega)) ho (i := 3) (by simp [hl]) (by omega) (fun G2 k3 k4 => ?_)
    refine h G2 ?_ ((k2.sub (by omega) (by omega)).tr k4)
    unfold push
    rw [if_pos hl]; exact k3
  · have hl : ¬ H.length = 4 := by omega
    rw [← h3]
    refine sp_lay hH hN ho (i := H.length) rfl (by omega) (fun G2 k3 k4 => ?_)
    refine h G2 ?_ k4
    unfold push
    rw [if_neg hl]; exact k3
theorem sp_takeBack {G : Mm} {a b : Nat} {H : List Ms} {o : Option Ms} {Q : dp_Ps} (hH : HV G a H) (hN : KC G b o) (ho : b + 30 ≤ a ∨ a + 122 ≤ b)
    (h0 : H = [] → Q (jI 0) G) (h : ∀ G' L N, H = L ++ [N] → KC G' b (some N) → HV G' a L → (∀ q, ¬ (b ≤ q ∧ q < b + 30) → q ≠ a → G'.1 q = G.1 q ∧ G'.2 q = G.2 q) → Q (jI 0) G') : Sp 48 2 [vR 4 a, vR 2 b] G Q := by
  obtain ⟨s, h0', h1, h2, h3, h4, h5⟩ := hH
  apply vcX4_takeBack
  rw [h3, jI_le (inR_n (by omega)) (inR_s (by omega) (by omega))]
  refine ⟨fun q => h0 (List.eq_nil_of_length_eq_zero (by omega)), fun q => ?_⟩
  rintro _ rfl
  have hne : H ≠ [] := fun z => by rw [z] at q; simp at q
  obtain ⟨L, N, rfl⟩ : ∃ L N, H = L ++ [N] := ⟨H.dropLast, H.getLast hne, (List.dropLast_concat_getLast hne).symm⟩
  have hL : ((L ++ [N]).length : Int) - 1 = (L.length : Int) := by rw [List.length_append]; simp
  have hL4 : L.length < 4 := by rw [List.length_append] at h4; simp at h4; omega
  rw [jI_sub, hL, wI_s, wI_2, h0', jI_cln (by omega), (h1 L.length hL4).2]
  refine ⟨jI_in (by omega) (by omega) (by omega), ?_⟩
  have k0 : FR a 1 G (wI G a 1 (jI (L.length : Int))) := FR.wI (by omega)
  have hsL := (h1 L.length hL4).1
  have hk : KC G (a + 2 + 30 * s L.length) (some N) := by
    have := h5 L.length hL4
    rw [List.getElem?_append_right (Nat.le_refl _), Nat.sub_self] at this
    exact this
  refine sp_copyK (hN.off k0 (by omega)) (hk.off k0 (by omega)) (by omega) (fun G2 k1 k2 => ?_)
  refine h G2 L N rfl k1 ⟨s, ?_, fun j hj => ⟨(h1 j hj).1, ?_⟩, h2, ?_, by omega, fun j hj => ?_⟩ (fun q hq hqa => ⟨(k2 q (by omega)).1.trans (k0 q (by omega)).1, (k2 q (by omega)).2.trans (k0 q (by omega)).2⟩)
  · rw [(k2 a (by omega)).2]; exact h0'
  · rw [(k2 (a + 1) (by omega)).2]; exact (h1 j hj).2
  · rw [(k2 a (by omega)).1, wI_s]
  · have hsj := (h1 j hj).1
    have hkj := ((h5 j hj).off k0 (by omega)).off k2 (by omega)
    by_cases hjL : j < L.length
    · rw [List.getElem?_append_left hjL] at hkj
      exact hkj
    · rw [List.getElem?_eq_none (by omega)]
      exact hkj.no

