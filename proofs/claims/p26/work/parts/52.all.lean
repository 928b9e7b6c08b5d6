/-! ===== setAll: the class ===== -/
theorem shr_len {M M' : Ms} (t : shr M M') : M'.2.1.length = M.2.1.length := by
  obtain ⟨n, t, -⟩ := t
  induction n generalizing M with
  | zero => have t : M = M' := t; rw [t]
  | succ n ih =>
    obtain ⟨N, ⟨a, -, t1⟩, t2⟩ := t
    rw [ih t2]
    rcases t1 with ⟨c, -, -, -, rfl⟩ | ⟨c, -, -, -, -, rfl⟩ | ⟨c, -, -, -, -, -, -, rfl⟩
    · exact asg_len
    · exact asg_len
    · show (asg (uns M.2.1 c) a c).length = _
      rw [asg_len, uns_len]
theorem mAdd_len {M : Ms} {T K t p r : Int} (h : GI M T K) (hl : M.2.1.length + 1 ≤ 20) (he : M.1 6 + 1 ≤ 500) (ht : 0 ≤ t ∧ t ≤ T + 100000) (hp : 0 ≤ p ∧ p ≤ 9999) (hr : 0 ≤ r ∧ r ≤ 3) : (mAdd M t p r).2.1.length = M.2.1.length + 1 ∧ (mAdd M t p r).1 6 = M.1 6 + 1 := by
  have hI := mIns_MI (t := t) (p := p) (r := r) h.1 hl he ht hp hr
  constructor
  · have := shr_len (mSh_sp hI)
    show (mSh (mIns M t p r)).2.1.length = _
    rw [this]
    show (M.2.1 ++ [nAl (M.1 6) t p r]).length = _
    rw [List.length_append]; rfl
  · have e : (mAdd M t p r).1 6 = (mIns M t p r).1 6 := mSh_k hI (by decide) (by decide)
    rw [e]; exact aU_s M.1 6 _
noncomputable def adds : List Ar → Ms → Ms
  | [], M => M
  | e :: L, M => adds L (mAdd M (e 0) (e 1) (e 2))
theorem adds_GI {T K : Int} (hT : 0 ≤ T) : ∀ (L : List Ar) (M : Ms), GI M T K → (∀ e, e ∈ L → aOK e) → M.2.1.length + L.length ≤ 20 → M.1 6 + L.length ≤ 500 → GI (adds L M) T K
  | [], _, h, _, _, _ => h
  | e :: L, M, h, hok, h1, h2 => by
    obtain ⟨a1, a2, a3⟩ := hok e List.mem_cons_self
    rw [List.length_cons] at h1 h2
    have hg := mAdd_GI (t := e 0) (p := e 1) (r := e 2) h (by omega) (by omega) (by omega) a2 a3
    have hl := mAdd_len (t := e 0) (p := e 1) (r := e 2) h (by omega) (by omega) (by omega) a2 a3
    exact adds_GI hT L _ hg (fun x hx => hok x (List.mem_cons_of_mem _ hx)) (by omega) (by omega)
noncomputable def zAll (Z : Zst) : Int × Zst :=
  if (pLs Z.2.2.2.1 Z.2.2.2.2 31 0 []).1 ≠ -1 then (-1100 - (pLs Z.2.2.2.1 Z.2.2.2.2 31 0 []).1, Z)
  else if (pLs Z.2.2.2.1 Z.2.2.2.2 31 0 []).2.any (fun e => decide (e 0 < Z.1.1 0)) = true then (-1004, Z)
  else if ¬ (Z.1.2.1.length + (pLs Z.2.2.2.1 Z.2.2.2.2 31 0 []).2.length ≤ 20 ∧ Z.1.1 6 + (pLs Z.2.2.2.1 Z.2.2.2.2 31 0 []).2.length ≤ 500) then (-1003, Z)
  else (((adds (pLs Z.2.2.2.1 Z.2.2.2.2 31 0 []).2 Z.1).2.1.length : Int), adds (pLs Z.2.2.2.1 Z.2.2.2.2 31 0 []).2 Z.1, Z.2.1, push Z.2.2.1 Z.1, Z.2.2.2)
theorem XL.FR {G G' : Mm} {a : Nat} (h : XL G G' a) : FR a 5 G G' := fun q hq => ⟨by funext k; exact h.2 q k (by omega) (by omega), by rw [h.1]⟩
theorem LQ.off {G G' : Mm} {a d m : Nat} {L : List Ar} (h : LQ G a L) (hf : FR d m G G') (ho : a + 5 ≤ d ∨ d + m ≤ a) : LQ G' a L := by
  refine ⟨by rw [(hf a (by omega)).1]; exact h.1, fun i e he => ?_⟩
  rw [(hf (a + 2) (by omega)).1, (hf (a + 3) (by omega)).1, (hf (a + 4) (by omega)).1]
  exact h.2 i e he
theorem sp_allC {G : Mm} {B : Nat} {Z : Zst} {T K : Int} {Q : dp_Ps} (h : SysC G B Z) (hz : ZI Z T K)
    (hq : ∀ G', SysC G' B (zAll Z).2 → FR B 218 G G' → Q (jI (zAll Z).1) G') : Sp 56 3 [vR 7 B] G Q := by
  have hm := hz.1.1
  have hs := hm.1
  have hl := hm.2.1
  have h99 := hz.1.2.2
  unfold SI at hs
  obtain ⟨v, hc, hR⟩ := h.2.2.1.get
  have e0 : v 0 0 = Z.1.1 0 := hR.1.2.1 0 (by decide) (by decide)
  have e6 : v 0 6 = Z.1.1 6 := hR.1.2.1 6 (by decide) (by decide)
  have hT := h.2.2.2.2.2.2
  unfold zAll at hq
  apply vcX7_setAll
  rw [h.1.2.2.2.2]
  refine sp_readList hT (fun G1 x1 x2 x3 x4 x5 => ?_)
  generalize pLs Z.2.2.2.1 Z.2.2.2.2 31 0 [] = R at *
  have f1 := x1.FR
  have s1 : SysC G1 B Z := h.text f1 (hT.xl x1)
  have c1 : CV G1 (B + 1) v := hc.off f1 (by omega)
  rw [jI_inj ⟨by omega, by omega⟩ (inR_s (by omega) (by omega))]
  refine ⟨fun q => ?_, fun q => ?_⟩
  · rw [if_neg (fun z => z q)] at hq
    rw [s1.1.2.2.2.2]
    refine sp_least x2 x4 x3 (fun m m0 m9 ml mx r2 => ?_) s1.2.2.2.2.2.2.1.2.1
    rw [s1.1.1, c1.f, e0, jI_le ⟨by omega, by omega⟩ ⟨by clear mx; omega, by clear mx; omega⟩]
    have key : R.2.any (fun e => decide (e 0 < Z.1.1 0)) = true ↔ ¬ Z.1.1 0 ≤ m := by
      rw [List.any_eq_true]
      constructor
      · rintro ⟨e, he, hlt⟩
        have := ml e he
        have hlt : e 0 < Z.1.1 0 := of_decide_eq_true hlt
        clear mx; omega
      · intro hn
        rcases mx with z | ⟨e, he, hem⟩
        · omega
        · exact ⟨e, he, decide_eq_true (by omega)⟩
    refine ⟨fun q2 => ?_, fun q2 => ?_⟩
    · rw [if_neg (fun z => key.mp z q2)] at hq
      rw [s1.1.2.2.2.2, x2.1]
      clear key mx ml
      refine sp_hasRoom c1 hR.1.1 hl (by omega) (by omega) (fun hr => ⟨fun z => absurd z (by decide), fun _ => ?_⟩) (fun hr => ⟨fun _ => ?_, fun z => absurd rfl z⟩)
      · rw [if_neg (by omega)] at hq
        rw [s1.1.2.2.2.1, s1.1.1]
        refine sp_recC s1 (fun G2 k1 k2 => ?_)
        have c2 : CV G2 (B + 1) v := c1.off k2 (by omega)
        have q3 : LQ G2 (B + 213) R.2 := x2.off k2 (by omega)
        have loop : ∀ j i : Nat, ∀ (G3 : Mm) (w : Nat → Nat → Int) (M : Ms) (w1 : Option Vl), j = R.2.length - i → i ≤ R.2.length → CV G3 (B + 1) w → FR (B + 1) 30 G2 G3 → RepC w M → GI M T K → M.2.1.length + (R.2.length - i) ≤ 20 → M.1 6 + ((R.2.length - i : Nat) : Int) ≤ 500 → adds (R.2.drop i) M = adds R.2 Z.1 → Wp 56 74 [some (vR 7 B), w1, some (vI (jI (i : Int)))] [] G3 Q := by
          intro j
          induction j with
          | zero =>
            intro i G3 w M w1 hj hi hc3 hf3 hR3 hg h20 h500 he
            have k3 := k1.main hf3 (KC.mk hc3 hR3 hg.1.2.1)
            have hd : R.2.drop i = [] := List.drop_eq_nil_of_le (by omega)
            rw [hd] at he
            have he : M = adds R.2 Z.1 := he
            apply vcX7_setAll_74
            rw [k3.1.2.2.2.2, (q3.off hf3 (by omega)).1, jI_le (inR_n (by omega)) (inR_n (by omega))]
            refine ⟨fun _ => ?_, fun z => by omega⟩
            rw [k3.1.1, hc3.f, hR3.1.1]
            rw [he] at k3 ⊢
            exact hq G3 k3 ((f1.sub (by omega) (by omega)).tr ((k2.sub (by omega) (by omega)).tr (hf3.sub (by omega) (by omega))))
          | succ j ih =>
            intro i G3 w M w1 hj hi hc3 hf3 hR3 hg h20 h500 he
            have hi1 : i < R.2.length := by omega
            have k3 := k1.main hf3 (KC.mk hc3 hR3 hg.1.2.1)
            have q4 := q3.off hf3 (by omega)
            obtain ⟨t1, t2, t3⟩ := q4.2 i _ (List.getElem?_eq_getElem hi1)
            obtain ⟨a1, a2, a3⟩ := x3 _ (List.getElem_mem hi1)
            obtain ⟨r1, r2, r3, r4⟩ := k3.2.2.2.2.2.2.1
            apply vcX7_setAll_74
            rw [k3.1.2.2.2.2, q4.1, jI_le (inR_n (by omega)) (inR_n (by omega)), jI_le (inR_s (by omega) (by omega)) (inR_n (by omega)), jI_cln (by omega), r2, r3, r4, k3.1.1, jI_add, show ((i : Int) + 1) = ((i + 1 : Nat) : Int) by omega]
            refine ⟨fun z => by omega, fun _ => ⟨fun z => by omega, fun _ => ⟨jI_in (by omega) (by omega) (by omega), jI_in (by omega) (by omega) (by omega), jI_in (by omega) (by omega) (by omega), ?_⟩⟩⟩
            rw [t1, t2, t3]
            have hg2 := mAdd_GI (t := R.2[i] 0) (p := R.2[i] 1) (r := R.2[i] 2) hg (by omega) (by omega) (by omega) a2 a3
            have hl2 := mAdd_len (t := R.2[i] 0) (p := R.2[i] 1) (r := R.2[i] 2) hg (by omega) (by omega) (by omega) a2 a3
            refine sp_addA hc3 hR3 hg.1 (by omega) (by omega) (by omega) a2 a3 (fun G4 w4 k4 k5 k6 k7 k8 => ?_)
            rw [List.drop_eq_getElem_cons hi1] at he
            exact ih (i + 1) G4 w4 _ w1 (by omega) hi1 k4 (hf3.tr k5) k6 hg2 (by omega) (by omega) he
        have := loop R.2.length 0 G2 v Z.1 (some (vI (jI R.1))) (by omega) (by omega) c2 FR.rf hR hz.1 (by omega) (by omega) rfl
        exact this
      · rw [if_pos (by omega)] at hq
        exact hq G1 s1 (f1.sub (by omega) (by omega))
    · rw [if_pos (key.mpr q2)] at hq
      exact hq G1 s1 (f1.sub (by omega) (by omega))
  · rw [if_pos q] at hq
    rw [jI_sub]
    exact hq G1 s1 (f1.sub (by omega) (by omega))
theorem pLs_ok {t : Nat → Int} {n : Nat} : ∀ (k p : Nat) (L : List Ar), p ≤ n → (∀ e, e ∈ L → aOK e) → ∀ e, e ∈ (pLs t n k p L).2 → aOK e
  | 0, _, _, _, h => h
  | k + 1, p, L, hp, h => by
    have hb := pAl_b (t := t) hp
    rw [pLs_s]
    cases hf : (pAl t n p).2 with
    | none => exact h
    | some e =>
      dsimp only
      have hbe := hb.2.2 e hf
      split
      · next hsg => exact pLs_ok k _ _ (by have := hsg.1; omega) (aOK_app h hbe.2)
      · split
        · exact aOK_app h hbe.2
        · exact aOK_app h hbe.2
theorem zAll_ZI {Z : Zst} {T K : Int} (h : ZI Z T K) : ZI (zAll Z).2 T K := by
  have hs := h.1.1.1
  unfold SI at hs
  have hok := pLs_ok (t := Z.2.2.2.1) (n := Z.2.2.2.2) 31 0 [] (by omega) (fun e he => by cases he)
  unfold zAll
  split
  · exact h
  · split
    · exact h
    · split
      · exact h
      · exact h.rec (adds_GI (by omega) _ _ h.1 hok (by omega) (by omega))

