/-! ===== rows over whole numbers; the law's constants; a new object; small contracts ===== -/
theorem wk_7 : Cond.constant R_law 7 (jI 2147483647) ∈ lw_tb2 := by
  rw [show jI 2147483647 = (2147483647 : Int32) from by decide]
  exact wl_567
theorem wk_8 : Cond.constant R_law 8 (jI 2654435) ∈ lw_tb2 := by
  rw [show jI 2654435 = (2654435 : Int32) from by decide]
  exact wl_571
theorem wk_32 : Cond.constant R_law 32 (jI 100000) ∈ lw_tb2 := by
  rw [show jI 100000 = (100000 : Int32) from by decide]
  exact wl_605
theorem wk_39 : Cond.constant R_law 39 (jI 99999) ∈ lw_tb2 := by
  rw [show jI 99999 = (99999 : Int32) from by decide]
  exact wl_609
theorem wk_96 : Cond.constant R_law 96 (jI 99996) ∈ lw_tb2 := by
  rw [show jI 99996 = (99996 : Int32) from by decide]
  exact wl_644
theorem wk_97 : Cond.constant R_law 97 (jI 99990) ∈ lw_tb2 := by
  rw [show jI 99990 = (99990 : Int32) from by decide]
  exact wl_645
section LJR
variable {p : Program} {l : Launch} {e : Env} {R : Room} {s : State} {m : MethodId} {args : Array Value} {below : List Frame} {meth : Method} {c : Code} {H : Heap} {locs : List Loc} {cells slots : Nat} {Qw : State → Prop} {cc : ByteArray} {pc : Nat} {ls : Array Slot} {rest : List Value}
theorem lj_add (hx : p.tables.exec = Jvm.exec) (hb : c.code = cc) {a b v : Int} (hv : a + b = v) (hd : decode cc pc = .ok (.iadd, 1)) (kk : W p l e R s m args below meth c H locs cells slots Qw (F0 m (pc + 1) ls (.int (jI v) :: rest))) : W p l e R s m args below meth c H locs cells slots Qw (F0 m pc ls (.int (jI b) :: .int (jI a) :: rest)) := by
  refine lv_iadd hx hb hd ?_
  rw [jI_add, hv]
  exact kk
theorem lj_sub (hx : p.tables.exec = Jvm.exec) (hb : c.code = cc) {a b v : Int} (hv : a - b = v) (hd : decode cc pc = .ok (.isub, 1)) (kk : W p l e R s m args below meth c H locs cells slots Qw (F0 m (pc + 1) ls (.int (jI v) :: rest))) : W p l e R s m args below meth c H locs cells slots Qw (F0 m pc ls (.int (jI b) :: .int (jI a) :: rest)) := by
  refine lv_isub hx hb hd ?_
  rw [jI_sub, hv]
  exact kk
theorem lj_mul (hx : p.tables.exec = Jvm.exec) (hb : c.code = cc) {a b v : Int} (hv : a * b = v) (hd : decode cc pc = .ok (.imul, 1)) (kk : W p l e R s m args below meth c H locs cells slots Qw (F0 m (pc + 1) ls (.int (jI v) :: rest))) : W p l e R s m args below meth c H locs cells slots Qw (F0 m pc ls (.int (jI b) :: .int (jI a) :: rest)) := by
  refine lv_imul hx hb hd ?_
  rw [jI_mul, hv]
  exact kk
theorem lj_div (hx : p.tables.exec = Jvm.exec) (hb : c.code = cc) {a b v : Int} (h0 : 0 ≤ a) (h1 : a < 2147483648) (h2 : 0 < b) (h3 : b < 2147483648) (hv : a / b = v) (hd : decode cc pc = .ok (.idiv, 1)) (kk : W p l e R s m args below meth c H locs cells slots Qw (F0 m (pc + 1) ls (.int (jI v) :: rest))) : W p l e R s m args below meth c H locs cells slots Qw (F0 m pc ls (.int (jI b) :: .int (jI a) :: rest)) := by
  have hne : ¬ jI b = 0 := by
    intro q
    have q : jI b = jI 0 := q
    rw [jI_inj ⟨by omega, by omega⟩ ⟨by decide, by decide⟩] at q
    omega
  refine lv_idiv hx hb hd hne ?_
  rw [jI_div h0 h1 h2 h3, hv]
  exact kk
theorem lj_rem (hx : p.tables.exec = Jvm.exec) (hb : c.code = cc) {a b v : Int} (h0 : 0 ≤ a) (h1 : a < 2147483648) (h2 : 0 < b) (h3 : b < 2147483648) (hv : a % b = v) (hd : decode cc pc = .ok (.irem, 1)) (kk : W p l e R s m args below meth c H locs cells slots Qw (F0 m (pc + 1) ls (.int (jI v) :: rest))) : W p l e R s m args below meth c H locs cells slots Qw (F0 m pc ls (.int (jI b) :: .int (jI a) :: rest)) := by
  have hne : ¬ jI b = 0 := by
    intro q
    have q : jI b = jI 0 := q
    rw [jI_inj ⟨by omega, by omega⟩ ⟨by decide, by decide⟩] at q
    omega
  refine lv_irem hx hb hd hne ?_
  rw [jI_rem h0 h1 h2 h3, hv]
  exact kk
theorem lj_eq (hx : p.tables.exec = Jvm.exec) (hb : c.code = cc) {a b : Int} {off : Int} {tgt : Nat} (ha : inR a) (hc : inR b) (hd : decode cc pc = .ok (.if_icmp .eq off, 3)) (ht : (pc : Int) + off = (tgt : Int)) (kt : a = b → W p l e R s m args below meth c H locs cells slots Qw (F0 m tgt ls rest)) (kf : ¬ (a = b) → W p l e R s m args below meth c H locs cells slots Qw (F0 m (pc + 3) ls rest)) : W p l e R s m args below meth c H locs cells slots Qw (F0 m pc ls (.int (jI b) :: .int (jI a) :: rest)) := by
  refine lv_icmp_eq hx hb hd ht (fun q => kt ?_) (fun q => kf ?_)
  · rw [jI_inj ha hc] at q; exact q
  · rw [jI_inj ha hc] at q; exact q
theorem lj_if_eq (hx : p.tables.exec = Jvm.exec) (hb : c.code = cc) {a : Int} {off : Int} {tgt : Nat} (ha : inR a) (hd : decode cc pc = .ok (.ifCond .eq off, 3)) (ht : (pc : Int) + off = (tgt : Int)) (kt : a = 0 → W p l e R s m args below meth c H locs cells slots Qw (F0 m tgt ls rest)) (kf : ¬ (a = 0) → W p l e R s m args below meth c H locs cells slots Qw (F0 m (pc + 3) ls rest)) : W p l e R s m args below meth c H locs cells slots Qw (F0 m pc ls (.int (jI a) :: rest)) := by
  have h0 : inR 0 := ⟨by decide, by decide⟩
  refine lv_if_eq hx hb hd ht (fun q => kt ?_) (fun q => kf ?_)
  · have q : jI a = jI 0 := q
    rw [jI_inj ha h0] at q; exact q
  · have q : ¬ (jI a = jI 0) := q
    rw [jI_inj ha h0] at q; exact q
theorem lj_ne (hx : p.tables.exec = Jvm.exec) (hb : c.code = cc) {a b : Int} {off : Int} {tgt : Nat} (ha : inR a) (hc : inR b) (hd : decode cc pc = .ok (.if_icmp .ne off, 3)) (ht : (pc : Int) + off = (tgt : Int)) (kt : ¬ a = b → W p l e R s m args below meth c H locs cells slots Qw (F0 m tgt ls rest)) (kf : a = b → W p l e R s m args below meth c H locs cells slots Qw (F0 m (pc + 3) ls rest)) : W p l e R s m args below meth c H locs cells slots Qw (F0 m pc ls (.int (jI b) :: .int (jI a) :: rest)) := by
  refine lv_icmp_ne hx hb hd ht (fun q => kt ?_) (fun q => kf ?_)
  · rw [jI_inj ha hc] at q; exact q
  · rw [jI_inj ha hc] at q; exact q
theorem lj_if_ne (hx : p.tables.exec = Jvm.exec) (hb : c.code = cc) {a : Int} {off : Int} {tgt : Nat} (ha : inR a) (hd : decode cc pc = .ok (.ifCond .ne off, 3)) (ht : (pc : Int) + off = (tgt : Int)) (kt : ¬ a = 0 → W p l e R s m args below meth c H locs cells slots Qw (F0 m tgt ls rest)) (kf : a = 0 → W p l e R s m args below meth c H locs cells slots Qw (F0 m (pc + 3) ls rest)) : W p l e R s m args below meth c H locs cells slots Qw (F0 m pc ls (.int (jI a) :: rest)) := by
  have h0 : inR 0 := ⟨by decide, by decide⟩
  refine lv_if_ne hx hb hd ht (fun q => kt ?_) (fun q => kf ?_)
  · have q : ¬ jI a = jI 0 := q
    rw [jI_inj ha h0] at q; exact q
  · have q : jI a = jI 0 := q
    rw [jI_inj ha h0] at q; exact q
theorem lj_lt (hx : p.tables.exec = Jvm.exec) (hb : c.code = cc) {a b : Int} {off : Int} {tgt : Nat} (ha : inR a) (hc : inR b) (hd : decode cc pc = .ok (.if_icmp .lt off, 3)) (ht : (pc : Int) + off = (tgt : Int)) (kt : a < b → W p l e R s m args below meth c H locs cells slots Qw (F0 m tgt ls rest)) (kf : ¬ (a < b) → W p l e R s m args below meth c H locs cells slots Qw (F0 m (pc + 3) ls rest)) : W p l e R s m args below meth c H locs cells slots Qw (F0 m pc ls (.int (jI b) :: .int (jI a) :: rest)) := by
  refine lv_icmp_lt hx hb hd ht (fun q => kt ?_) (fun q => kf ?_)
  · rw [jI_lt ha hc] at q; exact q
  · rw [jI_lt ha hc] at q; exact q
theorem lj_if_lt (hx : p.tables.exec = Jvm.exec) (hb : c.code = cc) {a : Int} {off : Int} {tgt : Nat} (ha : inR a) (hd : decode cc pc = .ok (.ifCond .lt off, 3)) (ht : (pc : Int) + off = (tgt : Int)) (kt : a < 0 → W p l e R s m args below meth c H locs cells slots Qw (F0 m tgt ls rest)) (kf : ¬ (a < 0) → W p l e R s m args below meth c H locs cells slots Qw (F0 m (pc + 3) ls rest)) : W p l e R s m args below meth c H locs cells slots Qw (F0 m pc ls (.int (jI a) :: rest)) := by
  have h0 : inR 0 := ⟨by decide, by decide⟩
  refine lv_if_lt hx hb hd ht (fun q => kt ?_) (fun q => kf ?_)
  · have q : jI a < jI 0 := q
    rw [jI_lt ha h0] at q; exact q
  · have q : ¬ (jI a < jI 0) := q
    rw [jI_lt ha h0] at q; exact q
theorem lj_ge (hx : p.tables.exec = Jvm.exec) (hb : c.code = cc) {a b : Int} {off : Int} {tgt : Nat} (ha : inR a) (hc : inR b) (hd : decode cc pc = .ok (.if_icmp .ge off, 3)) (ht : (pc : Int) + off = (tgt : Int)) (kt : b ≤ a → W p l e R s m args below meth c H locs cells slots Qw (F0 m tgt ls rest)) (kf : ¬ (b ≤ a) → W p l e R s m args below meth c H locs cells slots Qw (F0 m (pc + 3) ls rest)) : W p l e R s m args below meth c H locs cells slots Qw (F0 m pc ls (.int (jI b) :: .int (jI a) :: rest)) := by
  refine lv_icmp_ge hx hb hd ht (fun q => kt ?_) (fun q => kf ?_)
  · rw [jI_le hc ha] at q; exact q
  · rw [jI_le hc ha] at q; exact q
theorem lj_if_ge (hx : p.tables.exec = Jvm.exec) (hb : c.code = cc) {a : Int} {off : Int} {tgt : Nat} (ha : inR a) (hd : decode cc pc = .ok (.ifCond .ge off, 3)) (ht : (pc : Int) + off = (tgt : Int)) (kt : 0 ≤ a → W p l e R s m args below meth c H locs cells slots Qw (F0 m tgt ls rest)) (kf : ¬ (0 ≤ a) → W p l e R s m args below meth c H locs cells slots Qw (F0 m (pc + 3) ls rest)) : W p l e R s m args below meth c H locs cells slots Qw (F0 m pc ls (.int (jI a) :: rest)) := by
  have h0 : inR 0 := ⟨by decide, by decide⟩
  refine lv_if_ge hx hb hd ht (fun q => kt ?_) (fun q => kf ?_)
  · have q : jI 0 ≤ jI a := q
    rw [jI_le h0 ha] at q; exact q
  · have q : ¬ (jI 0 ≤ jI a) := q
    rw [jI_le h0 ha] at q; exact q
theorem lj_gt (hx : p.tables.exec = Jvm.exec) (hb : c.code = cc) {a b : Int} {off : Int} {tgt : Nat} (ha : inR a) (hc : inR b) (hd : decode cc pc = .ok (.if_icmp .gt off, 3)) (ht : (pc : Int) + off = (tgt : Int)) (kt : b < a → W p l e R s m args below meth c H locs cells slots Qw (F0 m tgt ls rest)) (kf : ¬ (b < a) → W p l e R s m args below meth c H locs cells slots Qw (F0 m (pc + 3) ls rest)) : W p l e R s m args below meth c H locs cells slots Qw (F0 m pc ls (.int (jI b) :: .int (jI a) :: rest)) := by
  refine lv_icmp_gt hx hb hd ht (fun q => kt ?_) (fun q => kf ?_)
  · rw [jI_lt hc ha] at q; exact q
  · rw [jI_lt hc ha] at q; exact q
theorem lj_if_gt (hx : p.tables.exec = Jvm.exec) (hb : c.code = cc) {a : Int} {off : Int} {tgt : Nat} (ha : inR a) (hd : decode cc pc = .ok (.ifCond .gt off, 3)) (ht : (pc : Int) + off = (tgt : Int)) (kt : 0 < a → W p l e R s m args below meth c H locs cells slots Qw (F0 m tgt ls rest)) (kf : ¬ (0 < a) → W p l e R s m args below meth c H locs cells slots Qw (F0 m (pc + 3) ls rest)) : W p l e R s m args below meth c H locs cells slots Qw (F0 m pc ls (.int (jI a) :: rest)) := by
  have h0 : inR 0 := ⟨by decide, by decide⟩
  refine lv_if_gt hx hb hd ht (fun q => kt ?_) (fun q => kf ?_)
  · have q : jI 0 < jI a := q
    rw [jI_lt h0 ha] at q; exact q
  · have q : ¬ (jI 0 < jI a) := q
    rw [jI_lt h0 ha] at q; exact q
theorem lj_le (hx : p.tables.exec = Jvm.exec) (hb : c.code = cc) {a b : Int} {off : Int} {tgt : Nat} (ha : inR a) (hc : inR b) (hd : decode cc pc = .ok (.if_icmp .le off, 3)) (ht : (pc : Int) + off = (tgt : Int)) (kt : a ≤ b → W p l e R s m args below meth c H locs cells slots Qw (F0 m tgt ls rest)) (kf : ¬ (a ≤ b) → W p l e R s m args below meth c H locs cells slots Qw (F0 m (pc + 3) ls rest)) : W p l e R s m args below meth c H locs cells slots Qw (F0 m pc ls (.int (jI b) :: .int (jI a) :: rest)) := by
  refine lv_icmp_le hx hb hd ht (fun q => kt ?_) (fun q => kf ?_)
  · rw [jI_le ha hc] at q; exact q
  · rw [jI_le ha hc] at q; exact q
theorem lj_if_le (hx : p.tables.exec = Jvm.exec) (hb : c.code = cc) {a : Int} {off : Int} {tgt : Nat} (ha : inR a) (hd : decode cc pc = .ok (.ifCond .le off, 3)) (ht : (pc : Int) + off = (tgt : Int)) (kt : a ≤ 0 → W p l e R s m args below meth c H locs cells slots Qw (F0 m tgt ls rest)) (kf : ¬ (a ≤ 0) → W p l e R s m args below meth c H locs cells slots Qw (F0 m (pc + 3) ls rest)) : W p l e R s m args below meth c H locs cells slots Qw (F0 m pc ls (.int (jI a) :: rest)) := by
  have h0 : inR 0 := ⟨by decide, by decide⟩
  refine lv_if_le hx hb hd ht (fun q => kt ?_) (fun q => kf ?_)
  · have q : jI a ≤ jI 0 := q
    rw [jI_le ha h0] at q; exact q
  · have q : ¬ (jI a ≤ jI 0) := q
    rw [jI_le ha h0] at q; exact q
end LJR
