/-! ===== fewest: both ===== -/
noncomputable def zFs (M : Ms) (t : Nat) : Nat → Nat → Int → Int → Int
  | 0, _, b, _ => b
  | k + 1, m, b, x => if b = 0 ∨ ¬ (jI x ≤ jI ((wld M m t).1 9)) then zFs M t k (m + 1) (m : Int) ((wld M m t).1 9) else zFs M t k (m + 1) b x
noncomputable def zFew (Z : Zst) (t : Int) : Int := if ¬ (1 ≤ t ∧ t ≤ 500) then -1002 else zFs Z.1 t.toNat 4 1 0 0
theorem sp_fewC {G : Mm} {B : Nat} {Z : Zst} {T K t : Int} {Q : dp_Ps} (h : SysC G B Z) (hz : ZI Z T K) (hT : T + 2000 ≤ 100000000) (hK : K + 1000 ≤ 10000000) (it : inR t)
    (hq : ∀ G', SysC G' B Z → FR B 218 G G' → Q (jI (zFew Z t)) G') : Sp 75 5 [vR 7 B, vI (jI t)] G Q := by
  unfold zFew at hq
  apply vcX7_fewest
  refine sp_within it (inR_s (by omega) (by omega)) (inR_s (by omega) (by omega)) (fun t2 t3 => ⟨fun z => absurd z (by decide), fun _ => ?_⟩) (fun z => ⟨fun _ => ?_, fun z => absurd rfl z⟩)
  · rw [if_neg (by omega)] at hq
    obtain ⟨t, rfl⟩ := Int.eq_ofNat_of_zero_le (show 0 ≤ t by omega)
    rw [show ((t : Int)).toNat = t by omega] at hq
    have loop : ∀ k m : Nat, ∀ (G2 : Mm) (b x : Int), k + m = 5 → 1 ≤ m → 0 ≤ b → b ≤ 4 → SysC G2 B Z → FR B 218 G G2 → zFs Z.1 t k m b x = zFs Z.1 t 4 1 0 0 → Wp 75 22 [some (vR 7 B), some (vI (jI (t : Int))), some (vI (jI b)), some (vI (jI x)), some (vI (jI (m : Int)))] [] G2 Q := by
      intro k
      induction k with
      | zero =>
        intro m G2 b x hkm hm1 hb0 hb4 h2 hf he
        have he : b = zFs Z.1 t 4 1 0 0 := he
        apply vcX7_fewest_22
        rw [jI_lt (inR_s (by omega) (by omega)) (inR_n (by omega))]
        refine ⟨fun _ => ?_, fun z => by omega⟩
        rw [he]
        exact hq G2 h2 hf
      | succ k ih =>
        intro m G2 b x hkm hm1 hb0 hb4 h2 hf he
        apply vcX7_fewest_22
        rw [jI_lt (inR_s (by omega) (by omega)) (inR_n (by omega)), jI_s]
        refine ⟨fun z => by omega, fun _ => ?_⟩
        have hw := wld_C (m := m) (t := t) hz.1 (by omega) (by omega) (by omega) hT hK
        refine sp_tryC h2 hz (by omega) (by omega) (by omega) hT hK (fun G3 v3 k1 k2 k3 k4 => ?_)
        have e9 : v3 27 1 = (wld Z.1 m t).1 9 := by
          rw [k4.1.2.2.1 1 (by decide)]
          exact hw.2.1 9 (by decide) (by decide) (by decide)
        have f3 := hf.tr (k2.sub (b' := B) (n' := 218) (by omega) (by omega))
        have he : (if b = 0 ∨ ¬ (jI x ≤ jI ((wld Z.1 m t).1 9)) then zFs Z.1 t k (m + 1) (m : Int) ((wld Z.1 m t).1 9) else zFs Z.1 t k (m + 1) b x) = zFs Z.1 t 4 1 0 0 := he
        rw [k1.1.2.1, k3.r10, k3.to, e9, jI_inj (inR_s (by omega) (by omega)) (inR_s (by omega) (by omega))]
        refine ⟨fun q => ?_, fun q => ⟨fun q2 => ?_, fun q2 => ?_⟩⟩
        · rw [if_pos (Or.inl q)] at he
          exact ih (m + 1) G3 m _ (by omega) (by omega) (by omega) (by omega) k1 f3 he
        · rw [if_neg (fun z => z.elim q (fun z => z q2))] at he
          exact ih (m + 1) G3 b x (by omega) (by omega) hb0 hb4 k1 f3 he
        · rw [if_pos (Or.inr q2)] at he
          exact ih (m + 1) G3 m _ (by omega) (by omega) (by omega) (by omega) k1 f3 he
    exact loop 4 1 G 0 0 (by omega) (by omega) (by omega) (by omega) h FR.rf rfl
  · rw [if_pos z] at hq; exact hq G h FR.rf
