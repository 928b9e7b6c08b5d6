/-! ===== both classes as wholes: now, kept state, past, text ===== -/
abbrev Zst : Type := Ms × Option Ms × List Ms × (Nat → Int) × Nat
def flg (S : Option Ms) : Int := if S.isSome then 1 else 0
def SysC (G : Mm) (B : Nat) (Z : Zst) : Prop := (G.2 B 0 = B + 1 ∧ G.2 B 1 = B + 31 ∧ G.2 B 2 = B + 61 ∧ G.2 B 3 = B + 91 ∧ G.2 B 4 = B + 213) ∧ G.1 B 5 = jI (flg Z.2.1) ∧ KC G (B + 1) (some Z.1) ∧ KC G (B + 31) none ∧ KC G (B + 61) Z.2.1 ∧ HV G (B + 91) Z.2.2.1 ∧ TX G (B + 213) Z.2.2.2.1 Z.2.2.2.2
def SysR (G : Mm) (A : Nat) (Z : Zst) : Prop := (G.2 A 0 = A + 1 ∧ G.2 A 1 = A + 2 ∧ G.2 A 4 = A + 4) ∧ G.1 A 5 = jI (flg Z.2.1) ∧ KR G (A + 1) (some Z.1) ∧ KR G (A + 4) Z.2.1 ∧ HR G A Z.2.2.1 ∧ TR G A Z.2.2.2.1 Z.2.2.2.2
/-- one state is good -/
def GI (M : Ms) (T K : Int) : Prop := MI M T K ∧ stk M ∧ M.1 0 ≤ 99999
def ZI (Z : Zst) (T K : Int) : Prop := GI Z.1 T K ∧ (∀ M, Z.2.1 = some M → GI M T K) ∧ ∀ M, M ∈ Z.2.2.1 → GI M T K
theorem TX.off {G G' : Mm} {a n d m : Nat} {t : Nat → Int} (h : TX G a t n) (hf : FR d m G G') (ho : a + 2 ≤ d ∨ d + m ≤ a) : TX G' a t n := by
  obtain ⟨h1, h2, h3, h4⟩ := h
  refine ⟨by rw [(hf a (by omega)).2]; exact h1, by rw [(hf a (by omega)).1]; exact h2, h3, fun i hi => ?_⟩
  rw [(hf (a + 1) (by omega)).1]
  exact h4 i hi
theorem SysC.main {G G' : Mm} {B : Nat} {Z : Zst} {N : Ms} (h : SysC G B Z) (hf : FR (B + 1) 30 G G') (hN : KC G' (B + 1) (some N)) : SysC G' B (N, Z.2) := by
  obtain ⟨h1, h2, -, h4, h5, h6, h7⟩ := h
  exact ⟨by rw [(hf B (by omega)).2]; exact h1, by rw [(hf B (by omega)).1]; exact h2, hN, h4.off hf (by omega), h5.off hf (by omega), h6.off hf (by omega), h7.off hf (by omega)⟩
theorem SysC.hist {G G' : Mm} {B : Nat} {Z : Zst} {H : List Ms} (h : SysC G B Z) (hf : FR (B + 91) 122 G G') (hH : HV G' (B + 91) H) : SysC G' B (Z.1, Z.2.1, H, Z.2.2.2) := by
  obtain ⟨h1, h2, h3, h4, h5, h6, h7⟩ := h
  exact ⟨by rw [(hf B (by omega)).2]; exact h1, by rw [(hf B (by omega)).1]; exact h2, h3.off hf (by omega), h4.off hf (by omega), h5.off hf (by omega), hH, h7.off hf (by omega)⟩
theorem SysC.trial {G G' : Mm} {B : Nat} {Z : Zst} (h : SysC G B Z) (hf : FR (B + 31) 30 G G') (hN : KC G' (B + 31) none) : SysC G' B Z := by
  obtain ⟨h1, h2, h3, h4, h5, h6, h7⟩ := h
  exact ⟨by rw [(hf B (by omega)).2]; exact h1, by rw [(hf B (by omega)).1]; exact h2, h3.off hf (by omega), hN, h5.off hf (by omega), h6.off hf (by omega), h7.off hf (by omega)⟩
theorem KC.get {G : Mm} {b : Nat} {M : Ms} (h : KC G b (some M)) : ∃ v, CV G b v ∧ RepC v M := by
  obtain ⟨v, h1, h2⟩ := h
  exact ⟨v, h1, (h2 M rfl).1⟩
theorem sp_within {G : Mm} {x lo hi : Int} {Q : dp_Ps} (hx : inR x) (hl : inR lo) (hh : inR hi) (h1 : lo ≤ x → x ≤ hi → Q (jI 1) G) (h0 : ¬ (lo ≤ x ∧ x ≤ hi) → Q (jI 0) G) : Sp 78 3 [vI (jI x), vI (jI lo), vI (jI hi)] G Q := by
  apply vcX7_isWithin
  rw [jI_lt hx hl, jI_lt hh hx]
  exact ⟨fun q => h0 (by omega), fun q => ⟨fun q2 => h0 (by omega), fun q2 => h1 (by omega) (by omega)⟩⟩
/-- the state is recorded -/
theorem sp_recC {G : Mm} {B : Nat} {Z : Zst} {Q : dp_Ps} (h : SysC G B Z) (hq : ∀ G', SysC G' B (Z.1, Z.2.1, push Z.2.2.1 Z.1, Z.2.2.2) → FR (B + 91) 122 G G' → Q (jI 0) G') : Sp 46 2 [vR 4 (B + 91), vR 2 (B + 1)] G Q :=
  sp_record h.2.2.2.2.2.1 h.2.2.1 (by omega) (fun G' k1 k2 => hq G' (h.hist k2 k1) k2)
theorem RZ.sysR {G G' : Mm} {A : Nat} {Z : Zst} {H : List Ms} (h : SysR G A Z) (hz : RZ G G' A) (hH : HR G' A H) : SysR G' A (Z.1, Z.2.1, H, Z.2.2.2) := by
  obtain ⟨h1, h2, h3, h4, h5, ⟨t1, t2, t3, t4⟩⟩ := h
  have hr : ∀ q, q ≠ A + 3 → q ≠ A → G'.1 q = G.1 q := fun q g1 g2 => by funext k; exact hz.2 q k g1 (by omega)
  refine ⟨by rw [hz.1]; exact h1, by rw [hz.2 A 5 (by omega) (by omega)]; exact h2, h3.fr (hr _ (by omega) (by omega)), h4.fr (hr _ (by omega) (by omega)), hH, ⟨by rw [hz.1]; exact t1, by rw [hz.2 A 7 (by omega) (by omega)]; exact t2, t3, fun i hi => ?_⟩⟩
  rw [hz.2 (A + 5) i (by omega) (by omega)]
  exact t4 i hi
theorem RZ.FR {G G' : Mm} {A : Nat} (h : RZ G G' A) : FR A 7 G G' := fun q hq => ⟨by funext k; exact h.2 q k (by omega) (by omega), by rw [h.1]⟩
theorem RO.FR {G G' : Mm} {A q : Nat} (h : RO G G' q) (h1 : A ≤ q ∧ q < A + 7) : FR A 7 G G' := fun r hr => ⟨h.2 r (by omega), by rw [h.1]⟩
/-- the row of the present changes -/
theorem SysR.main {G G' : Mm} {A : Nat} {Z : Zst} {N : Ms} (h : SysR G A Z) (hO : RO G G' (A + 1)) (hN : KR G' (A + 1) (some N)) : SysR G' A (N, Z.2) := by
  obtain ⟨h1, h2, -, h4, ⟨p1, p2, p3, p4⟩, ⟨t1, t2, t3, t4⟩⟩ := h
  have hr : ∀ q, q ≠ A + 1 → G'.1 q = G.1 q := hO.2
  refine ⟨by rw [hO.1]; exact h1, by rw [hr A (by omega)]; exact h2, hN, h4.fr (hr _ (by omega)), ⟨by rw [hO.1]; exact p1, by rw [hr A (by omega)]; exact p2, p3, fun i M hi => ?_⟩, ⟨by rw [hO.1]; exact t1, by rw [hr A (by omega)]; exact t2, t3, fun i hi => ?_⟩⟩
  · obtain ⟨⟨f, g1, g2⟩, g3⟩ := p4 i M hi
    exact ⟨⟨f, fun k hk => by rw [hr (A + 3) (by omega)]; exact g1 k hk, g2⟩, g3⟩
  · rw [hr (A + 5) (by omega)]
    exact t4 i hi
theorem SysR.then {G G' : Mm} {A : Nat} {Z : Zst} (h : SysR G A Z) (hO : RO G G' (A + 2)) : SysR G' A Z := by
  obtain ⟨h1, h2, h3, h4, ⟨p1, p2, p3, p4⟩, ⟨t1, t2, t3, t4⟩⟩ := h
  have hr : ∀ q, q ≠ A + 2 → G'.1 q = G.1 q := hO.2
  refine ⟨by rw [hO.1]; exact h1, by rw [hr A (by omega)]; exact h2, h3.fr (hr _ (by omega)), h4.fr (hr _ (by omega)), ⟨by rw [hO.1]; exact p1, by rw [hr A (by omega)]; exact p2, p3, fun i M hi => ?_⟩, ⟨by rw [hO.1]; exact t1, by rw [hr A (by omega)]; exact t2, t3, fun i hi => ?_⟩⟩
  · obtain ⟨⟨f, g1, g2⟩, g3⟩ := p4 i M hi
    exact ⟨⟨f, fun k hk => by rw [hr (A + 3) (by omega)]; exact g1 k hk, g2⟩, g3⟩
  · rw [hr (A + 5) (by omega)]
    exact t4 i hi
-- what each act does
noncomputable def zSet (Z : Zst) (t p r : Int) : Int × Zst :=
  if ¬ (0 ≤ t ∧ t ≤ 99999) ∨ ¬ (0 ≤ p ∧ p ≤ 9999) ∨ ¬ (0 ≤ r ∧ r ≤ 3) then (-1002, Z)
  else if t < Z.1.1 0 then (-1004, Z)
  else if ¬ (Z.1.2.1.length + 1 ≤ 20 ∧ Z.1.1 6 + 1 ≤ 500) then (-1003, Z)
  else (Z.1.1 6, mAdd Z.1 t p r, Z.2.1, push Z.2.2.1 Z.1, Z.2.2.2)
theorem push_mem {H : List Ms} {N M : Ms} (h : M ∈ push H N) : M ∈ H ∨ M = N := by
  unfold push at h
  split at h
  · rcases List.mem_append.mp h with q | q
    · exact Or.inl (List.mem_of_mem_tail q)
    · exact Or.inr (List.mem_singleton.mp q)
  · rcases List.mem_append.mp h with q | q
    · exact Or.inl q
    · exact Or.inr (List.mem_singleton.mp q)
theorem ZI.rec {Z : Zst} {T K : Int} {N : Ms} (h : ZI Z T K) (hN : GI N T K) : ZI (N, Z.2.1, push Z.2.2.1 Z.1, Z.2.2.2) T K :=
  ⟨hN, h.2.1, fun M hM => by
    rcases push_mem hM with q | q
    · exact h.2.2 M q
    · rw [q]; exact h.1⟩

