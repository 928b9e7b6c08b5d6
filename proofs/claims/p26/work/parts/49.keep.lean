/-! ===== keep, restore, undo, type, clearText: both ===== -/
def zKee (Z : Zst) : Int × Zst := (Z.1.1 0, Z.1, some Z.1, Z.2.2)
def zRes (Z : Zst) : Int × Zst := match Z.2.1 with
  | none => (-1005, Z)
  | some M => (M.1 0, M, Z.2.1, push Z.2.2.1 Z.1, Z.2.2.2)
def zUnd (Z : Zst) : Int × Zst := match Z.2.2.1.getLast? with
  | none => (-1005, Z)
  | some N => ((Z.2.2.1.dropLast.length : Int), N, Z.2.1, Z.2.2.1.dropLast, Z.2.2.2)
def zTyp (Z : Zst) (c : Int) : Int × Zst := if Z.2.2.2.2 = 60 then (-1003, Z) else (((Z.2.2.2.2 + 1 : Nat) : Int), Z.1, Z.2.1, Z.2.2.1, (fun k => if k = Z.2.2.2.2 then c else Z.2.2.2.1 k), Z.2.2.2.2 + 1)
def zClr (Z : Zst) : Int × Zst := ((Z.2.2.2.2 : Int), Z.1, Z.2.1, Z.2.2.1, Z.2.2.2.1, 0)
theorem zKee_ZI {Z : Zst} {T K : Int} (h : ZI Z T K) : ZI (zKee Z).2 T K := ⟨h.1, fun M hM => by rw [← Option.some.inj hM]; exact h.1, h.2.2⟩
theorem zRes_ZI {Z : Zst} {T K : Int} (h : ZI Z T K) : ZI (zRes Z).2 T K := by
  unfold zRes
  cases hf : Z.2.1 with
  | none => exact h
  | some M =>
    have := h.rec (h.2.1 M hf)
    rw [hf] at this
    exact this
theorem zUnd_ZI {Z : Zst} {T K : Int} (h : ZI Z T K) : ZI (zUnd Z).2 T K := by
  unfold zUnd
  cases hf : Z.2.2.1.getLast? with
  | none => exact h
  | some N => exact ⟨h.2.2 N (List.mem_of_getLast? hf), h.2.1, fun M hM => h.2.2 M ((List.dropLast_sublist _).subset hM)⟩
theorem zTyp_ZI {Z : Zst} {T K c : Int} (h : ZI Z T K) : ZI (zTyp Z c).2 T K := by
  unfold zTyp
  split
  · exact h
  · exact h
theorem zClr_ZI {Z : Zst} {T K : Int} (h : ZI Z T K) : ZI (zClr Z).2 T K := h
theorem SysC.text {G G' : Mm} {B n : Nat} {t : Nat → Int} {Z : Zst} (h : SysC G B Z) (hf : FR (B + 213) 5 G G') (hT : TX G' (B + 213) t n) : SysC G' B (Z.1, Z.2.1, Z.2.2.1, t, n) := by
  obtain ⟨h1, h2, h3, h4, h5, h6, h7⟩ := h
  exact ⟨by rw [(hf B (by omega)).2]; exact h1, by rw [(hf B (by omega)).1]; exact h2, h3.off hf (by omega), h4.off hf (by omega), h5.off hf (by omega), h6.off hf (by omega), hT⟩
theorem sp_typC {G : Mm} {B : Nat} {Z : Zst} {c : Int} {Q : dp_Ps} (h : SysC G B Z) (hc : 0 ≤ c ∧ c ≤ 65535)
    (hq : ∀ G', SysC G' B (zTyp Z c).2 → FR B 218 G G' → Q (jI (zTyp Z c).1) G') : Sp 65 2 [vR 7 B, vI (jI c)] G Q := by
  unfold zTyp at hq
  apply vcX7_type
  rw [h.1.2.2.2.2]
  refine sp_append h.2.2.2.2.2.2 hc (fun hn => ⟨fun _ => ?_, fun z => absurd rfl z⟩) (fun hn G1 k1 k2 k3 => ⟨fun z => absurd z (by decide), fun _ => ?_⟩)
  · rw [if_pos hn] at hq; exact hq G h FR.rf
  · rw [if_neg (by omega)] at hq
    have k4 := h.text k2 k1
    rw [k4.1.2.2.2.2, k1.2.1]
    exact hq G1 k4 (k2.sub (by omega) (by omega))
theorem sp_clrC {G : Mm} {B : Nat} {Z : Zst} {Q : dp_Ps} (h : SysC G B Z)
    (hq : ∀ G', SysC G' B (zClr Z).2 → FR B 218 G G' → Q (jI (zClr Z).1) G') : Sp 66 2 [vR 7 B] G Q := by
  obtain ⟨t1, t2, t3, t4⟩ := h.2.2.2.2.2.2
  apply vcX7_clearText
  rw [h.1.2.2.2.2, t2]
  rintro _ rfl
  have kf : FR (B + 213) 5 G (wI G (B + 213) 1 (jI 0)) := FR.wI (by omega)
  exact hq _ (h.text kf ⟨t1, wI_s _ _ _ _, by omega, fun i hi => by omega⟩) (kf.sub (by omega) (by omega))
theorem sp_undC {G : Mm} {B : Nat} {Z : Zst} {Q : dp_Ps} (h : SysC G B Z)
    (hq : ∀ G', SysC G' B (zUnd Z).2 → FR B 218 G G' → Q (jI (zUnd Z).1) G') : Sp 67 1 [vR 7 B] G Q := by
  have hH := h.2.2.2.2.2.1
  obtain ⟨s, -, -, -, h3, h4, -⟩ := id hH
  unfold zUnd at hq
  apply vcX7_undo
  rw [h.1.2.2.2.1, h3, jI_inj (inR_n (by omega)) (inR_s (by omega) (by omega))]
  refine ⟨fun q => ?_, fun q => ?_⟩
  · have e : Z.2.2.1 = [] := List.eq_nil_of_length_eq_zero (by omega)
    rw [e] at hq
    have := hq G
    dsimp only [List.getLast?] at this
    exact this h FR.rf
  · rw [h.1.1]
    refine sp_takeBack hH h.2.2.1 (by omega) (fun z => absurd (by rw [z]; rfl) q) (fun G1 L N hL k1 k2 k3 => ?_)
    rw [hL] at hq
    rw [List.getLast?_append, List.dropLast_concat] at hq
    have hq : ∀ G', SysC G' B (N, Z.2.1, L, Z.2.2.2) → FR B 218 G G' → Q (jI (L.length : Int)) G' := hq
    obtain ⟨h1, h2, -, h4', h5, h6, h7⟩ := h
    have hr : ∀ q, ¬ (B + 1 ≤ q ∧ q < B + 1 + 30) → q ≠ B + 91 → G1.1 q = G.1 q ∧ G1.2 q = G.2 q := k3
    have e2 : G1.2 B = G.2 B := (hr B (by omega) (by omega)).2
    have kk : SysC G1 B (N, Z.2.1, L, Z.2.2.2) := by
      refine ⟨by rw [e2]; exact h1, by rw [(hr B (by omega) (by omega)).1]; exact h2, k1, ?_, ?_, k2, ?_⟩
      · obtain ⟨v, g1, g2⟩ := h4'
        exact ⟨v, g1.fr (fun a g3 g4 => hr a (by omega) (by omega)), g2⟩
      · obtain ⟨v, g1, g2⟩ := h5
        exact ⟨v, g1.fr (fun a g3 g4 => hr a (by omega) (by omega)), g2⟩
      · obtain ⟨t1, t2, t3, t4⟩ := h7
        refine ⟨by rw [(hr (B + 213) (by omega) (by omega)).2]; exact t1, by rw [(hr (B + 213) (by omega) (by omega)).1]; exact t2, t3, fun i hi => ?_⟩
        rw [(hr (B + 213 + 1) (by omega) (by omega)).1]
        exact t4 i hi
    obtain ⟨s', -, -, -, g3, -, -⟩ := k2
    rw [kk.1.2.2.2.1, g3]
    exact hq G1 kk (fun a ha => hr a (by omega) (by omega))
theorem sp_keeC {G : Mm} {B : Nat} {Z : Zst} {T K : Int} {Q : dp_Ps} (h : SysC G B Z) (hz : ZI Z T K)
    (hq : ∀ G', SysC G' B (zKee Z).2 → FR B 218 G G' → Q (jI (zKee Z).1) G') : Sp 68 1 [vR 7 B] G Q := by
  obtain ⟨h1, h2, h3, h4, h5, h6, h7⟩ := h
  obtain ⟨v, hc, hR⟩ := h3.get
  apply vcX7_keep
  rw [h1.1, h1.2.2.1]
  refine sp_copyK h5 h3 (by omega) (fun G1 k1 k2 => ?_)
  rintro _ rfl
  have k3 : FR B 1 G1 (wI G1 B 5 (jI 1)) := FR.wI (by omega)
  have e2 : G1.2 B = G.2 B := (k2 B (by omega)).2
  have hcm : CV (wI G1 B 5 (jI 1)) (B + 1) v := (hc.off k2 (by omega)).off k3 (by omega)
  have e0 : (wI G1 B 5 (jI 1)).2 B 0 = B + 1 := by show G1.2 B 0 = _; rw [e2]; exact h1.1
  rw [e0, hcm.f, hR.1.2.1 0 (by decide) (by decide)]
  refine hq _ ⟨by show G1.2 B 0 = B + 1 ∧ G1.2 B 1 = B + 31 ∧ G1.2 B 2 = B + 61 ∧ G1.2 B 3 = B + 91 ∧ G1.2 B 4 = B + 213; rw [e2]; exact h1, by rw [wI_s]; rfl, (h3.off k2 (by omega)).off k3 (by omega), (h4.off k2 (by omega)).off k3 (by omega), k1.off k3 (by omega), (h6.off k2 (by omega)).off k3 (by omega), (h7.off k2 (by omega)).off k3 (by omega)⟩ ((k2.sub (by omega) (by omega)).tr (k3.sub (by omega) (by omega)))
theorem sp_resC {G : Mm} {B : Nat} {Z : Zst} {Q : dp_Ps} (h : SysC G B Z)
    (hq : ∀ G', SysC G' B (zRes Z).2 → FR B 218 G G' → Q (jI (zRes Z).1) G') : Sp 69 1 [vR 7 B] G Q := by
  unfold zRes at hq
  apply vcX7_restore
  rw [h.2.1]
  cases hf : Z.2.1 with
  | none =>
    rw [hf] at hq
    exact ⟨fun _ => hq G h FR.rf, fun z => absurd rfl z⟩
  | some M =>
    rw [hf] at hq
    refine ⟨fun z => absurd z (show ¬ jI 1 = jI 0 by decide), fun _ => ?_⟩
    rw [h.1.2.2.2.1, h.1.1]
    refine sp_recC h (fun G1 k1 k2 => ?_)
    obtain ⟨g1, g2, g3, g4, g5, g6, g7⟩ := id k1
    have g5' : KC G1 (B + 61) (some M) := by rw [← hf]; exact g5
    rw [g1.1, g1.2.2.1]
    refine sp_copyK g3 g5' (by omega) (fun G2 k3 k4 => ?_)
    have k5 := k1.main k4 k3
    obtain ⟨w, hw, hRw⟩ := k3.get
    rw [k5.1.1, hw.f, hRw.1.2.1 0 (by decide) (by decide)]
    have k6 : SysC G2 B (M, some M, push Z.2.2.1 Z.1, Z.2.2.2) := by
      have := k5
      dsimp only at this
      rw [hf] at this
      exact this
    exact hq G2 k6 ((k2.sub (by omega) (by omega)).tr (k4.sub (by omega) (by omega)))

