/-! the reference's constructor -/
abbrev Le : Type := Nat × Nat × Nat × (Nat → Int32)
/-- from place i on the arrays of the reference stand as the list says -/
def LyE (g : Nat) (h : Hp) : Nat → List Le → Prop
  | _, [] => True
  | i, e :: L => (fR h e.1 g = some (g + i) ∧ kd h (g + i) = e.2.1 ∧ ln h (g + i) = e.2.2.1 ∧ aI h (g + i) = e.2.2.2) ∧ LyE g h (i + 1) L
theorem LyE_app {g : Nat} {h : Hp} {e : Le} : ∀ (L : List Le) (i : Nat), LyE g h i L → (fR h e.1 g = some (g + (i + L.length)) ∧ kd h (g + (i + L.length)) = e.2.1 ∧ ln h (g + (i + L.length)) = e.2.2.1 ∧ aI h (g + (i + L.length)) = e.2.2.2) → LyE g h i (L ++ [e]) := by
  intro L
  induction L with
  | nil => intro i _ H; exact ⟨H, trivial⟩
  | cons a L ih =>
    intro i h1 h2
    refine ⟨h1.1, ih (i + 1) h1.2 ?_⟩
    rw [show i + 1 + L.length = i + (a :: L).length by rw [List.length_cons]; omega]
    exact h2
theorem LyE_fr {g : Nat} {h h' : Hp} : ∀ (L : List Le) (i : Nat), (∀ e ∈ L, fR h' e.1 g = fR h e.1 g) → (∀ j, i ≤ j → j < i + L.length → kd h' (g + j) = kd h (g + j) ∧ ln h' (g + j) = ln h (g + j) ∧ aI h' (g + j) = aI h (g + j)) → LyE g h i L → LyE g h' i L := by
  intro L
  induction L with
  | nil => intro i _ _ _; trivial
  | cons a L ih =>
    intro i h1 h2 H
    have h3 := h2 i (Nat.le_refl _) (by rw [List.length_cons]; omega)
    refine ⟨⟨(h1 a List.mem_cons_self).trans H.1.1, h3.1.trans H.1.2.1, h3.2.1.trans H.1.2.2.1, h3.2.2.trans H.1.2.2.2⟩, ih (i + 1) (fun e he => h1 e (List.mem_cons_of_mem _ he)) (fun j hj1 hj2 => h2 j (by omega) (by rw [List.length_cons]; omega)) H.2⟩
/-- what lies below n is as it was -/
def Lo (n : Nat) (h h' : Hp) : Prop := gc h' = gc h ∧ ∀ q, q < n → kd h' q = kd h q ∧ ln h' q = ln h q ∧ (∀ f, fI h' f q = fI h f q) ∧ (∀ f, fR h' f q = fR h f q) ∧ aI h' q = aI h q ∧ aR h' q = aR h q
theorem Lo.rf {n : Nat} {h : Hp} : Lo n h h := ⟨rfl, fun _ _ => ⟨rfl, rfl, fun _ => rfl, fun _ => rfl, rfl, rfl⟩⟩
def Ly (g n : Nat) (h0 h : Hp) (L : List Le) : Prop := sz h = g + 1 + L.length ∧ kd h g = 10 ∧ Lo g h0 h ∧ sl h = sl h0 + n ∧ LyE g h 1 L
theorem Ly.step {g k m n f : Nat} {A : Nat → Int32} {h0 h h1 : Hp} {L : List Le} (H : Ly g n h0 h L) (hf : ∀ e ∈ L, e.1 ≠ f) (e1 : kd h1 = kd (hnew h k m m)) (e2 : ln h1 = ln (hnew h k m m)) (e3 : fI h1 = fI (hnew h k m m)) (e4 : fR h1 = fR (hnew h k m m)) (e5 : aR h1 = aR (hnew h k m m)) (e6 : gc h1 = gc (hnew h k m m)) (e7 : sz h1 = sz (hnew h k m m)) (e8 : sl h1 = sl (hnew h k m m)) (e9 : ∀ q j, aI h1 q j = if q = sz h then A j else aI h q j) : Ly g (n + m) h0 (wfR h1 f g (some (sz h))) (L ++ [(f, k, m, A)]) := by
  obtain ⟨s1, s2, s3, s4, s5⟩ := H
  refine ⟨?_, ?_, ⟨?_, fun q hq => ?_⟩, ?_, LyE_app L 1 (LyE_fr L 1 (fun e he => ?_) (fun j hj1 hj2 => ?_) s5) ?_⟩
  · rw [sz_wfR, e7, sz_hnew, s1, List.length_append]; rfl
  · rw [kd_wfR, e1, kd_hnew, if_neg (by omega)]; exact s2
  · rw [gc_wfR, e6, gc_hnew]; exact s3.1
  · obtain ⟨t1, t2, t3, t4, t5, t6⟩ := s3.2 q hq
    refine ⟨?_, ?_, fun y => ?_, fun y => ?_, ?_, ?_⟩
    · rw [kd_wfR, e1, kd_hnew, if_neg (by omega)]; exact t1
    · rw [ln_wfR, e2, ln_hnew, if_neg (by omega)]; exact t2
    · rw [fI_wfR, e3, fI_hnew, if_neg (by omega)]; exact t3 y
    · rw [fR_wfR, if_neg (by omega), e4, fR_hnew, if_neg (by omega)]; exact t4 y
    · funext j; rw [aI_wfR, e9, if_neg (by omega), t5]
    · funext j; rw [aR_wfR, e5, aR_hnew, if_neg (by omega), t6]
  · rw [sl_wfR, e8, sl_hnew, s4, Nat.add_assoc]
  · rw [fR_wfR, if_neg (fun z => hf e he z.1), e4, fR_hnew, if_neg (by omega)]
  · refine ⟨?_, ?_, ?_⟩
    · rw [kd_wfR, e1, kd_hnew, if_neg (by omega)]
    · rw [ln_wfR, e2, ln_hnew, if_neg (by omega)]
    · funext x; rw [aI_wfR, e9, if_neg (by omega)]
  · have hs : g + (1 + L.length) = sz h := by omega
    rw [hs]
    refine ⟨by rw [fR_wfR, if_pos ⟨rfl, rfl⟩], ?_, ?_, ?_⟩
    · rw [kd_wfR, e1, kd_hnew, if_pos rfl]
    · rw [ln_wfR, e2, ln_hnew, if_pos rfl]
    · funext x; rw [aI_wfR, e9, if_pos rfl]
theorem Ly.st {g k m n f : Nat} {h0 h : Hp} {L : List Le} (H : Ly g n h0 h L) (hf : ∀ e ∈ L, e.1 ≠ f) : Ly g (n + m) h0 (wfR (hnew h k m m) f g (some (sz h))) (L ++ [(f, k, m, fun _ => 0)]) := Ly.step H hf rfl rfl rfl rfl rfl rfl rfl rfl (fun q j => by rw [aI_hnew])
theorem lt_p (a : Nat) : sm_lit a 0 = nI a := rfl
theorem bl_iconst {g k m n f pc1 pc2 pc3 pc4 l2 l3 l4 i : Nat} {x : Int} {t : ArrayType} {h0 h : Hp} {L : List Le} {code : List Ent} {P : Option Value → Hp → Prop} (H : Ly g n h0 h L) (hf : ∀ e ∈ L, e.1 ≠ f) (hm : m ≤ 100000) (hP : ∀ h', Ly g (n + m) h0 h' (L ++ [(f, k, m, fun _ => 0)]) → Z M_X9_init code [some (.ref g)] [] h' P) : Z M_X9_init ((pc1, .aload_n 0, 1, 0, 0, 0) :: (pc2, .iconst x, l2, m, 0, 0) :: (pc3, .newarray t, l3, k, 0, 0) :: (pc4, .putfield i, l4, 10, f, 1) :: code) [some (.ref g)] [] h P := by
  have hg : sz h ≠ g := by have := H.1; omega
  rw [Z_aload0, Z_iconst, lt_p, Z_newarray, nI_clamp (by omega)]
  refine ⟨nI_pos (by omega), by omega, ?_⟩
  rw [Z_putR]
  exact ⟨by rw [kd_hnew, if_neg (fun z => hg z.symm)]; exact H.2.1, hP _ (H.st hf)⟩
theorem bl_bipush {g k m n f pc1 pc2 pc3 pc4 l2 l3 l4 i : Nat} {x : Int} {t : ArrayType} {h0 h : Hp} {L : List Le} {code : List Ent} {P : Option Value → Hp → Prop} (H : Ly g n h0 h L) (hf : ∀ e ∈ L, e.1 ≠ f) (hm : m ≤ 100000) (hP : ∀ h', Ly g (n + m) h0 h' (L ++ [(f, k, m, fun _ => 0)]) → Z M_X9_init code [some (.ref g)] [] h' P) : Z M_X9_init ((pc1, .aload_n 0, 1, 0, 0, 0) :: (pc2, .bipush x, l2, m, 0, 0) :: (pc3, .newarray t, l3, k, 0, 0) :: (pc4, .putfield i, l4, 10, f, 1) :: code) [some (.ref g)] [] h P := by
  have hg : sz h ≠ g := by have := H.1; omega
  rw [Z_aload0, Z_bipush, lt_p, Z_newarray, nI_clamp (by omega)]
  refine ⟨nI_pos (by omega), by omega, ?_⟩
  rw [Z_putR]
  exact ⟨by rw [kd_hnew, if_neg (fun z => hg z.symm)]; exact H.2.1, hP _ (H.st hf)⟩
theorem bl_sipush {g k m n f pc1 pc2 pc3 pc4 l2 l3 l4 i : Nat} {x : Int} {t : ArrayType} {h0 h : Hp} {L : List Le} {code : List Ent} {P : Option Value → Hp → Prop} (H : Ly g n h0 h L) (hf : ∀ e ∈ L, e.1 ≠ f) (hm : m ≤ 100000) (hP : ∀ h', Ly g (n + m) h0 h' (L ++ [(f, k, m, fun _ => 0)]) → Z M_X9_init code [some (.ref g)] [] h' P) : Z M_X9_init ((pc1, .aload_n 0, 1, 0, 0, 0) :: (pc2, .sipush x, l2, m, 0, 0) :: (pc3, .newarray t, l3, k, 0, 0) :: (pc4, .putfield i, l4, 10, f, 1) :: code) [some (.ref g)] [] h P := by
  have hg : sz h ≠ g := by have := H.1; omega
  rw [Z_aload0, Z_sipush, lt_p, Z_newarray, nI_clamp (by omega)]
  refine ⟨nI_pos (by omega), by omega, ?_⟩
  rw [Z_putR]
  exact ⟨by rw [kd_hnew, if_neg (fun z => hg z.symm)]; exact H.2.1, hP _ (H.st hf)⟩
def A1_ (j : Nat) : Int32 := if j = 3 then nI 1 else if j = 2 then nI 1 else if j = 1 then nI 1 else if j = 0 then nI 1 else 0
def LL : List Le := [(288, 20, 4, fun _ => 0), (289, 20, 240, fun _ => 0), (290, 20, 240, fun _ => 0), (291, 20, 240, fun _ => 0), (292, 20, 240, fun _ => 0), (293, 20, 240, fun _ => 0), (294, 20, 960, fun _ => 0), (295, 21, 4, A1_), (296, 20, 16, fun _ => 0), (297, 20, 4, fun _ => 0), (298, 20, 4, fun _ => 0), (299, 20, 960, fun _ => 0), (300, 21, 960, fun _ => 0), (301, 20, 4, fun _ => 0), (302, 20, 960, fun _ => 0), (303, 20, 64, fun _ => 0), (304, 20, 16, fun _ => 0), (305, 20, 480, fun _ => 0), (306, 20, 480, fun _ => 0), (307, 20, 1920, fun _ => 0), (308, 20, 240, fun _ => 0), (310, 20, 480, fun _ => 0), (311, 20, 4, fun _ => 0)]
theorem c_init0 {g : Nat} {h : Hp} {P : Option Value → Hp → Prop} (hk : kd h g = 10) (hs : sz h = g + 1) (hP : ∀ h', Ly g 8760 h h' LL → Z M_X9_init [(212, .aload_n 0, 1, 0, 0, 0), (213, .iconst 0, 1, 0, 0, 0), (214, .putfield 80, 3, 10, 309, 0), (217, .return_, 1, 0, 0, 0)] [some (.ref g)] [] h' P) : Ev M_X9_init [.ref g] h P := by
  have l0 : Ly g 0 h h [] := ⟨by rw [hs]; rfl, hk, Lo.rf, rfl, trivial⟩
  rw [E_X9_init, k_X9_init_0, Z_aload0, Z_objInit]
  refine ⟨by decide, ?_⟩
  refine bl_iconst l0 (by decide) (by decide) (fun h1 l1 => ?_)
  refine bl_sipush l1 (by decide) (by decide) (fun h2 l2 => ?_)
  refine bl_sipush l2 (by decide) (by decide) (fun h3 l3 => ?_)
  refine bl_sipush l3 (by decide) (by decide) (fun h4 l4 => ?_)
  refine bl_sipush l4 (by decide) (by decide) (fun h5 l5 => ?_)
  refine bl_sipush l5 (by decide) (by decide) (fun h6 l6 => ?_)
  refine bl_sipush l6 (by decide) (by decide) (fun h7 l7 => ?_)
  have hn7 : ¬ g = sz h7 := by have := l7.1; omega
  rw [Z_aload0, Z_iconst, lt_p, Z_newarray, nI_clamp (by decide)]
  refine ⟨nI_pos (by decide), by decide, ?_⟩
  have kA : kd (hnew h7 21 4 4) (sz h7) = 21 := by rw [kd_hnew, if_pos rfl]
  have lA : ln (hnew h7 21 4 4) (sz h7) = 4 := by rw [ln_hnew, if_pos rfl]
  rw [Z_dup, Z_iconst, Z_iconst, lt_p, lt_p, Z_bastore (j := 0) (by rw [lA]; exact ix_nI (by decide) (by decide))]
  refine ⟨⟨kA, Or.inr rfl⟩, ?_⟩
  rw [Z_dup, Z_iconst, Z_iconst, lt_p, Z_bastore (j := 1) (by rw [ln_waI, lA]; exact ix_nI (by decide) (by decide))]
  refine ⟨⟨by rw [kd_waI]; exact kA, Or.inr rfl⟩, ?_⟩
  rw [Z_dup, Z_iconst, Z_iconst, lt_p, lt_p, Z_bastore (j := 2) (by rw [ln_waI, ln_waI, lA]; exact ix_nI (by decide) (by decide))]
  refine ⟨⟨by rw [kd_waI, kd_waI]; exact kA, Or.inr rfl⟩, ?_⟩
  rw [Z_dup, Z_iconst, Z_iconst, lt_p, lt_p, Z_bastore (j := 3) (by rw [ln_waI, ln_waI, ln_waI, lA]; exact ix_nI (by decide) (by decide))]
  refine ⟨⟨by rw [kd_waI, kd_waI, kd_waI]; exact kA, Or.inr rfl⟩, ?_⟩
  rw [Z_putR]
  refine ⟨by rw [kd_waI, kd_waI, kd_waI, kd_waI, kd_hnew, if_neg hn7]; exact l7.2.1, ?_⟩
  have l8 := Ly.step (A := A1_) (f := 295) (k := 21) (m := 4) (h1 := waI (waI (waI (waI (hnew h7 21 4 4) (sz h7) 0 (nI 1)) (sz h7) 1 (nI 1)) (sz h7) 2 (nI 1)) (sz h7) 3 (nI 1)) l7 (by decide) (by simp only [kd_waI']) (by simp only [ln_waI']) (by simp only [fI_waI']) (by simp only [fR_waI']) (by simp only [aR_waI']) (by simp only [gc_waI']) (by simp only [sz_waI']) (by simp only [sl_waI']) (fun q j => by
    simp only [aI_waI', aI_hnew']
    unfold A1_
    by_cases hq : q = sz h7
    · simp only [hq, true_and, if_true]
    · simp only [hq, false_and, if_false])
  generalize wfR (waI (waI (waI (waI (hnew h7 21 4 4) (sz h7) 0 (nI 1)) (sz h7) 1 (nI 1)) (sz h7) 2 (nI 1)) (sz h7) 3 (nI 1)) 295 g (some (sz h7)) = h8 at l8 ⊢
  refine bl_bipush l8 (by decide) (by decide) (fun h9 l9 => ?_)
  refine bl_iconst l9 (by decide) (by decide) (fun h10 l10 => ?_)
  refine bl_iconst l10 (by decide) (by decide) (fun h11 l11 => ?_)
  refine bl_sipush l11 (by decide) (by decide) (fun h12 l12 => ?_)
  refine bl_sipush l12 (by decide) (by decide) (fun h13 l13 => ?_)
  refine bl_iconst l13 (by decide) (by decide) (fun h14 l14 => ?_)
  refine bl_sipush l14 (by decide) (by decide) (fun h15 l15 => ?_)
  refine bl_bipush l15 (by decide) (by decide) (fun h16 l16 => ?_)
  refine bl_bipush l16 (by decide) (by decide) (fun h17 l17 => ?_)
  refine bl_sipush l17 (by decide) (by decide) (fun h18 l18 => ?_)
  refine bl_sipush l18 (by decide) (by decide) (fun h19 l19 => ?_)
  refine bl_sipush l19 (by decide) (by decide) (fun h20 l20 => ?_)
  refine bl_sipush l20 (by decide) (by decide) (fun h21 l21 => ?_)
  refine bl_sipush l21 (by decide) (by decide) (fun h22 l22 => ?_)
  refine bl_iconst l22 (by decide) (by decide) (fun h23 l23 => ?_)
  exact hP h23 l23
/-- nothing was done yet -/
def s0 : St := ((fun _ => 0), (fun _ => 0), (fun _ => 0), (fun _ => 0), (fun _ => some 0), (fun _ => 0), (fun _ _ => 0), (fun _ => true), (fun _ _ => 0), (fun _ => 0), (fun _ => []), (fun _ => []), (fun _ _ _ => 0), (fun _ => []))
theorem c_init {g : Nat} {h : Hp} {P : Option Value → Hp → Prop} (hk : kd h g = 10) (hs : sz h = g + 1) (hP : ∀ h', ML g h' → MR g h' s0 → Lo g h h' → sz h' = g + 24 → sl h' = sl h + 8760 → P none h') : Ev M_X9_init [.ref g] h P := by
  refine c_init0 hk hs (fun h1 l => ?_)
  obtain ⟨t1, t2, t3, t4, t5⟩ := l
  rw [Z_aload0, Z_iconst, lt_p, Z_putI]
  refine ⟨t2, ?_⟩
  obtain ⟨⟨f1, k1, n1, a1⟩, ⟨f2, k2, n2, a2⟩, ⟨f3, k3, n3, a3⟩, ⟨f4, k4, n4, a4⟩, ⟨f5, k5, n5, a5⟩, ⟨f6, k6, n6, a6⟩, ⟨f7, k7, n7, a7⟩, ⟨f8, k8, n8, a8⟩, ⟨f9, k9, n9, a9⟩, ⟨f10, k10, n10, a10⟩, ⟨f11, k11, n11, a11⟩, ⟨f12, k12, n12, a12⟩, ⟨f13, k13, n13, a13⟩, ⟨f14, k14, n14, a14⟩, ⟨f15, k15, n15, a15⟩, ⟨f16, k16, n16, a16⟩, ⟨f17, k17, n17, a17⟩, ⟨f18, k18, n18, a18⟩, ⟨f19, k19, n19, a19⟩, ⟨f20, k20, n20, a20⟩, ⟨f21, k21, n21, a21⟩, ⟨f22, k22, n22, a22⟩, ⟨f23, k23, n23, a23⟩, -⟩ := t5
  have hML : ML g h1 := ⟨t2, by rw [t1]; exact Nat.le_refl _, ⟨f1, k1, n1⟩, ⟨f2, k2, n2⟩, ⟨f3, k3, n3⟩, ⟨f4, k4, n4⟩, ⟨f5, k5, n5⟩, ⟨f6, k6, n6⟩, ⟨f7, k7, n7⟩, ⟨f8, k8, n8⟩, ⟨f9, k9, n9⟩, ⟨f10, k10, n10⟩, ⟨f11, k11, n11⟩, ⟨f12, k12, n12⟩, ⟨f13, k13, n13⟩, ⟨f14, k14, n14⟩, ⟨f15, k15, n15⟩, ⟨f16, k16, n16⟩, ⟨f17, k17, n17⟩, ⟨f18, k18, n18⟩, ⟨f19, k19, n19⟩, ⟨f20, k20, n20⟩, ⟨f21, k21, n21⟩, ⟨f22, k22, n22⟩, ⟨f23, k23, n23⟩⟩
  have hMR : MR g h1 s0 := by
    refine ⟨?_, ?_, ?_, ?_, ?_, ?_, ?_, ?_, ?_, ?_, ?_, ?_, ?_, ?_, ?_, ?_, ?_, ?_, ?_, ?_⟩
    · intro r hr; rw [a1]; rfl
    · intro r hr; rw [a2]; rfl
    · intro r hr; rw [a3]; rfl
    · intro r hr; rw [a4]; rfl
    · intro r hr; rw [a5]; rfl
    · intro r hr; rw [a6]; rfl
    · intro r j hr hj; rw [a7]; rfl
    · intro r hr
      rw [a8]
      rcases (show r = 0 ∨ r = 1 ∨ r = 2 ∨ r = 3 by omega) with rfl | rfl | rfl | rfl <;> rfl
    · intro r j hr hj; rw [a9]; rfl
    · intro r hr; rw [a10]; rfl
    · intro r hr; rw [a11]; rfl
    · intro r k hr hk; cases hk
    · intro r o hr ho; rw [a13]; rfl
    · intro r hr; rw [a14]; rfl
    · intro r k hr hk; cases hk
    · intro r i j hr hi hj; rw [a16]; rfl
    · intro w hw; rw [a17]; rfl
    · intro w k hw hk; cases hk
    · intro w k hw hk; cases hk
    · intro w k j hw hk hj; cases hk
  have hfp : Fp g h1 (wfI h1 309 g (nI 0)) := Fp.rf.wo
  rw [Z_ret rfl]
  refine hP _ (hfp.1.ml hML) (hfp.mr hMR) ⟨?_, fun q hq => ?_⟩ ?_ ?_
  · rw [gc_wfI]; exact t3.1
  · obtain ⟨u1, u2, u3, u4, u5, u6⟩ := t3.2 q hq
    refine ⟨?_, ?_, fun f => ?_, fun f => ?_, ?_, ?_⟩
    · rw [kd_wfI]; exact u1
    · rw [ln_wfI]; exact u2
    · rw [fI_wfI, if_neg (by omega)]; exact u3 f
    · rw [fR_wfI]; exact u4 f
    · rw [aI_wfI]; exact u5
    · rw [aR_wfI]; exact u6
  · rw [sz_wfI, t1]; rfl
  · rw [sl_wfI, t4]
