/-! how it begins -/
/-- who owns what, in the layout -/
def owB (b c : Nat) : Nat := if c = 0 then b else if c = 2 then b + 2 else if c = 3 then b + 3 else if c = 4 then b + 4 else if c = 6 then b + 6 else if c = 7 then b + 7 else if c = 9 ∨ c = 11 ∨ c = 13 ∨ c = 15 then b + 1 else if c = 17 then b + 16 else if c = 19 then b + 18 else 0
def owC (x q : Nat) : Nat := if q < x + 3 then 0 else if q < x + 83 then owB (q - (q - (x + 3)) % 20) ((q - (x + 3)) % 20) else if q < x + 115 then (if (q - (x + 83)) % 2 = 1 then q else 0) else if q < x + 139 then x + 115 else 0
theorem owC_b {x r c : Nat} (hr : r < 4) (hc : c < 20) : owC x (rb x r + c) = owB (rb x r) c := by
  have e : (rb x r + c - (x + 3)) % 20 = c := by unfold rb; omega
  unfold owC
  rw [if_neg (by unfold rb; omega), if_pos (by unfold rb; omega), e, Nat.add_sub_cancel]
theorem owC_w {x w : Nat} (hw : w < 16) : owC x (wl x w) = wl x w := by
  unfold owC
  rw [if_neg (by unfold wl; omega), if_neg (by unfold wl; omega), if_pos (by unfold wl; omega), if_pos (by unfold wl; omega)]
theorem owC_g {x k : Nat} (hk : k ≤ 23) : owC x (x + 115 + k) = x + 115 := by
  unfold owC
  rw [if_neg (by omega), if_neg (by omega), if_neg (by omega), if_pos (by omega)]
theorem Ls_nil {ow : Nat → Nat} {h : Hp} {a e : Nat} (k : kd h a = 11) (hs : a < sz h) (ho : ow a = a) (e1 : fR h 321 a = some e) (e2 : fI h 322 a = 0) (g1 : e = gc h 0) (g2 : e < sz h) (g3 : kd h e = 42) (g4 : ln h e = 0) : Ls ow h a [] := ⟨k, hs, ho, e2, e, e1, Or.inl ⟨g1, g2, g3, g4, rfl⟩⟩
theorem FixR_I {x r : Nat} {h : Hp} (hr : r < 4) (A : aR h (x + 1) r = some (rb x r)) (H : RI (rb x r) r h) : FixR x r (owC x) h := by
  obtain ⟨H1, H2, H3⟩ := H
  have o := fun c (hc : c < 20) => owC_b (x := x) (r := r) (c := c) hr hc
  refine ⟨A, H1.k0, H1.i0, H1.f1, H1.f2, H1.f3, H1.f4, H1.f5, H1.f6, H1.f7, H1.k1, H1.l1, ?_, H1.k2, H1.l2, ?_, H1.k4, H1.l4, ?_, H1.k5, H1.l5, ?_, ?_, fun i hi => ?_, fun t ht => ?_⟩
  · exact o 1 (by omega)
  · exact o 2 (by omega)
  · exact o 4 (by omega)
  · exact o 5 (by omega)
  · exact o 0 (by omega)
  · obtain ⟨c1, c2, c3, c4, c5, c6⟩ := H2 i hi
    refine ⟨c1, c2, c3, c4, c5, ?_⟩
    rw [Nat.add_assoc, o (9 + 2 * i) (by omega)]
    rcases (show i = 0 ∨ i = 1 ∨ i = 2 ∨ i = 3 by omega) with rfl | rfl | rfl | rfl <;> rfl
  · obtain ⟨c1, c2, c3, c4, c5, c6⟩ := H3 t ht
    refine ⟨c1, c2, c3, c4, c5, ?_⟩
    rw [Nat.add_assoc, o (17 + 2 * t) (by omega)]
    rcases (show t = 0 ∨ t = 1 by omega) with rfl | rfl <;> rfl
theorem dn_s0 (r : Nat) : sDn s0 r = [] := rfl
theorem cs_s0 (r : Nat) (c : Int32) : cs s0 r c = 0 := by
  rw [cs_eq]
  exact fold_none (fun b x => b + sVl s0 x) (isAdd s0 r c) (fun x => decide_eq_false (fun z => absurd z.1 List.not_mem_nil)) rg 0
theorem wr_s0 (r : Nat) (c : Int32) : wr s0 r c = none := by
  unfold wr
  rw [regF_eq]
  exact fold_none (wrG s0) (isWr s0 r c) (fun x => decide_eq_false (fun z => absurd z.1 List.not_mem_nil)) rg none
theorem chl_s0 (r t : Nat) (a : Option Nat) : chl s0 r t a = [] := by
  rw [chl_eq]
  exact fold_none (fun R x => insR s0 x R) (isCh s0 r t a) (fun x => decide_eq_false (fun z => absurd z.1 List.not_mem_nil)) rg []
theorem TL_s0 (r t : Nat) : TL s0 r t [] := by
  refine ⟨⟨?_, fun o ho => absurd ho List.not_mem_nil, Nat.zero_le _⟩, List.nodup_nil, fun o => ⟨fun z => absurd z List.not_mem_nil, fun z => absurd z.1 List.not_mem_nil⟩⟩
  exact chl_s0 r t none
theorem TA_s0 : TA s0 (fun _ _ => []) := fun r _ => ⟨TL_s0 r 0, TL_s0 r 1, by
  rw [chs_eq]
  exact (fold_none (fun b _ => b + 1) (fun x => decide (x ∈ sDn s0 r ∧ sKn s0 x = 4)) (fun x => decide_eq_false (fun z => absurd z.1 List.not_mem_nil)) rg 0).symm⟩
theorem mad_s0 (o : Nat) : ¬ mad s0 o := fun z => absurd z.2 (Nat.not_lt_zero _)
theorem GI_s0 : GI s0 := by
  refine ⟨⟨fun _ _ => Nat.zero_le _, fun o _ => ⟨Nat.zero_le _, Nat.zero_le _, Nat.zero_le _, fun p hp => ?_, fun _ _ => Nat.zero_le _⟩, fun r _ => ⟨Nat.zero_le _, Nat.zero_le _, Nat.zero_le _, fun o ho => absurd ho List.not_mem_nil, fun o ho => absurd ho List.not_mem_nil, fun _ _ => Nat.zero_le _, fun _ _ _ _ => Nat.zero_le _⟩, fun w _ => ⟨Nat.zero_le _, fun q hq => absurd hq List.not_mem_nil⟩⟩, fun _ _ => rfl, fun r _ o => ⟨fun z => absurd z List.not_mem_nil, fun z => absurd z.2 (Nat.not_lt_zero _)⟩, fun _ _ => List.nodup_nil, fun _ _ _ _ => Nat.zero_le _, fun _ _ => rfl, fun r _ o ho => absurd ho List.not_mem_nil, fun _ _ => List.nodup_nil, fun w _ q hq => absurd hq List.not_mem_nil, fun o ho => absurd ho (mad_s0 o), fun o p ho => absurd ho (mad_s0 o), fun r _ o ho => absurd ho List.not_mem_nil, fun r _ o ho => absurd ho List.not_mem_nil, ⟨fun _ _ => Nat.zero_le _, fun o ho => absurd ho (mad_s0 o)⟩, fun o p ho => absurd ho (mad_s0 o), fun o ho => absurd ho (mad_s0 o), fun o ho => absurd ho (mad_s0 o)⟩
  have : some 0 = some p := hp
  cases this
  decide
theorem WS_s0 : WS s0 := fun _ _ q hq => absurd hq List.not_mem_nil
theorem kno_s0 (r i j : Nat) : kno s0 r i j = 0 := by
  unfold kno
  split <;> rfl
theorem CR_s0 {x : Nat} {h : Hp} {oa : Nat → Nat} {la : Nat → Nat → Nat} (H1 : I1 x h) (H2 : I2 x 4 h) (H3 : I3 x 16 h) (hs : x + 115 ≤ sz h) (g2 : gc h 0 < sz h) (g3 : kd h (gc h 0) = 42) (g4 : ln h (gc h 0) = 0) : CR (owC x) oa la (fun _ _ => []) h x s0 := by
  obtain ⟨h1, h2, h3, h4, h5, h6, h7⟩ := H1
  have o0 : ∀ k, k < 3 → owC x (x + k) = 0 := fun k hk => by unfold owC; rw [if_pos (by omega)]
  refine ⟨⟨h1, h2, h3, h4, h5, o0 1 (by omega), h6, h7, o0 2 (by omega), hs, fun r hr => FixR_I hr (H2 r hr).1 (H2 r hr).2, fun w hw => ?_⟩, fun o ho => absurd ho (mad_s0 o), fun r hr => ?_, fun w hw => ?_⟩
  · obtain ⟨c1, c2, c3, c4, c5, c6⟩ := H3 w hw
    exact ⟨c1, c2, c3⟩
  · obtain ⟨-, R1_, R2_, R3_⟩ := H2 r hr
    have o := fun c (hc : c < 20) => owC_b (x := x) (r := r) (c := c) hr hc
    have hb : rb x r + 20 ≤ sz h := by unfold rb; omega
    refine ⟨R1_.i8, R1_.i9, fun i j hi hj => ?_, fun c hc => ?_, ?_, fun c hc => ?_, ?_, ?_, fun t ht => ?_⟩
    · rw [kno_s0]; exact (R2_ i hi).2.2.2.2.2 j
    · rw [cs_s0]; exact R1_.a2 c
    · exact Ls_nil R1_.k3 (by omega) (o 3 (by omega)) R1_.e3 R1_.s3 rfl g2 g3 g4
    · rw [wr_s0]; exact R1_.a4 c
    · exact Ls_nil R1_.k6 (by omega) (o 6 (by omega)) R1_.e6 R1_.s6 rfl g2 g3 g4
    · exact Ls_nil R1_.k7 (by omega) (o 7 (by omega)) R1_.e7 R1_.s7 rfl g2 g3 g4
    · exact (R3_ t ht).2.2.2.2.2
  · obtain ⟨c1, c2, c3, c4, c5, c6⟩ := H3 w hw
    exact ⟨[], Ls_nil c4 (by unfold wl; omega) (owC_w hw) c5 c6 rfl g2 g3 g4, rfl, fun k hk => absurd hk (Nat.not_lt_zero _)⟩
