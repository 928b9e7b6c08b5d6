/-! ===== the other class: its row of numbers, and the state ===== -/
def RV (G : Mm) (a : Nat) (f : Ar) : Prop := ∀ k, G.1 a k = jI (f k)
/-- only row a has changed -/
def RO (G G' : Mm) (a : Nat) : Prop := G'.2 = G.2 ∧ ∀ q, q ≠ a → G'.1 q = G.1 q
theorem RO.rf {G : Mm} {a : Nat} : RO G G a := ⟨rfl, fun _ _ => rfl⟩
theorem RO.tr {G G1 G2 : Mm} {a : Nat} (h : RO G G1 a) (h' : RO G1 G2 a) : RO G G2 a := ⟨h'.1.trans h.1, fun q hq => (h'.2 q hq).trans (h.2 q hq)⟩
theorem RO.wr {G : Mm} {a k : Nat} {x : Int32} : RO G (wI G a k x) a := ⟨rfl, fun q hq => by funext j; exact wI_n (fun z => hq z.1)⟩
theorem RV.wr {G : Mm} {a : Nat} {f : Ar} (h : RV G a f) (k : Nat) (x : Int) : RV (wI G a k (jI x)) a (aU f k x) := by
  intro j
  by_cases hj : j = k
  · rw [hj, wI_s, aU_s]
  · rw [wI_n (fun z => hj z.2), aU_n hj]; exact h j
def rA (f : Ar) (i : Nat) : Ar := rc7 (fun k => f (14 + 7 * i + k))
theorem rA_k {f : Ar} {i k : Nat} (h : k < 7) : rA f i k = f (14 + 7 * i + k) := rc7_k (a := fun k => f (14 + 7 * i + k)) h
def RA (f : Ar) (L : List Ar) : Prop := ((List.range L.length).map (rA f)).Perm L ∧ ∀ i j, i < j → j < L.length → f (14 + 7 * i) < f (14 + 7 * j)
/-- which number of the state is at place k -/
def hix : Nat → Nat
  | 0 => 0
  | 1 => 1
  | 3 => 6
  | 10 => 7
  | 11 => 3
  | 12 => 4
  | 13 => 2
  | k => 4 + k
theorem hix_inj : ∀ m, m < 14 → ∀ k, k < 14 → m ≠ 2 → k ≠ 2 → hix m = hix k → m = k := by decide
def RepR (f : Ar) (M : Ms) : Prop :=
  (f 2 = (M.2.1.length : Int) ∧ ∀ m, m < 14 → m ≠ 2 → f m = M.1 (hix m)) ∧
  RA f M.2.1 ∧ (∀ c, c < 4 → f (154 + 2 * c) = M.2.2.1 c 0 ∧ f (154 + 2 * c + 1) = M.2.2.1 c 1) ∧
  f 194 = (M.2.2.2.length : Int) ∧ ∀ (j : Nat) (e : Ar), M.2.2.2[j]? = some e → ∀ q, q < 4 → f (162 + 4 * j + q) = e q
theorem RA.mem {f : Ar} {L : List Ar} (h : RA f L) {a : Ar} : a ∈ L ↔ ∃ i, i < L.length ∧ rA f i = a := by
  rw [← h.1.mem_iff]
  simp only [List.mem_map, List.mem_range]
theorem RA.at {f : Ar} {L : List Ar} (h : RA f L) {i : Nat} (hi : i < L.length) : rA f i ∈ L := h.mem.mpr ⟨i, hi, rfl⟩
/-- what both rounds have -/
def BI (M : Ms) (T K : Int) : Prop := SI M T K ∧ M.2.1.length ≤ 20 ∧ NI M.2.1 ∧ ∀ a, a ∈ M.2.1 → AI M T K a
theorem MI.B {M : Ms} {T K : Int} (h : MI M T K) : BI M T K := ⟨h.1, h.2.1, h.2.2.1, h.2.2.2.1⟩
theorem MJ.B {M : Ms} {T K : Int} {c : Nat} (h : MJ M T K c) : BI M T K := ⟨h.1, h.2.1, h.2.2.1, h.2.2.2.1⟩
/-- the alarm at place i, its numbers -/
theorem BI.v {M : Ms} {T K : Int} {f : Ar} {i : Nat} (h : BI M T K) (hR : RA f M.2.1) (hi : i < M.2.1.length) :
    (0 ≤ f (14 + 7 * i) ∧ f (14 + 7 * i) < 500) ∧ (0 ≤ f (14 + 7 * i + 1) ∧ f (14 + 7 * i + 1) ≤ 100100000) ∧ (0 ≤ f (14 + 7 * i + 2) ∧ f (14 + 7 * i + 2) ≤ 9999) ∧ (0 ≤ f (14 + 7 * i + 3) ∧ f (14 + 7 * i + 3) ≤ 3) ∧ (f (14 + 7 * i + 4) = -1005 ∨ (0 ≤ f (14 + 7 * i + 4) ∧ f (14 + 7 * i + 4) < M.1 7)) ∧ (0 ≤ f (14 + 7 * i + 5) ∧ f (14 + 7 * i + 5) ≤ K) ∧ (-1005 ≤ f (14 + 7 * i + 6) ∧ f (14 + 7 * i + 6) ≤ T) := by
  obtain ⟨hs, hl, hn, hA⟩ := h
  obtain ⟨a0, a1, a2, a3, a4, a5, a6, -⟩ := hA _ (hR.at hi)
  unfold SI at hs
  rw [rA_k (by decide)] at a0 a1 a2 a3 a4 a5 a6
  exact ⟨⟨a0.1, by have := a0.2; show f (14 + 7 * i + 0) < 500; omega⟩, ⟨a1.1, by omega⟩, a2, a3, a4, a5, a6⟩
