/-! a new operation is written down before it is done -/
def rec1 (s : St) (r k t : Nat) (v : Int32) (b : Option Nat) : St := w_sCk (rec_ s r k t v b) (fu (sCk s) (60 * r + sMk s r) (fu (sOw s r) r (sOw s r r + 1)))
theorem doo_rec1 {s : St} {r k t : Nat} {v : Int32} {b : Option Nat} (hm : sMk s r < 60) : doo (rec1 s r k t v b) r (60 * r + sMk s r) = nw1 s r k t v b := by
  have od : (60 * r + sMk s r) / 60 = r := by omega
  unfold nw1 clk_ doo rec1 rec_
  simp only [sMk_wsMk, sKn_wsMk, sTg_wsMk, sVl_wsMk, sBh_wsMk, sTm_wsMk, sCk_wsMk, sUp_wsMk, sOw_wsMk, sTi_wsMk, sDn_wsMk, sWt_wsMk, sKw_wsMk, sWy_wsMk, sMk_wsKn, sKn_wsKn, sTg_wsKn, sVl_wsKn, sBh_wsKn, sTm_wsKn, sCk_wsKn, sUp_wsKn, sOw_wsKn, sTi_wsKn, sDn_wsKn, sWt_wsKn, sKw_wsKn, sWy_wsKn, sMk_wsTg, sKn_wsTg, sTg_wsTg, sVl_wsTg, sBh_wsTg, sTm_wsTg, sCk_wsTg, sUp_wsTg, sOw_wsTg, sTi_wsTg, sDn_wsTg, sWt_wsTg, sKw_wsTg, sWy_wsTg, sMk_wsVl, sKn_wsVl, sTg_wsVl, sVl_wsVl, sBh_wsVl, sTm_wsVl, sCk_wsVl, sUp_wsVl, sOw_wsVl, sTi_wsVl, sDn_wsVl, sWt_wsVl, sKw_wsVl, sWy_wsVl, sMk_wsBh, sKn_wsBh, sTg_wsBh, sVl_wsBh, sBh_wsBh, sTm_wsBh, sCk_wsBh, sUp_wsBh, sOw_wsBh, sTi_wsBh, sDn_wsBh, sWt_wsBh, sKw_wsBh, sWy_wsBh, sMk_wsTm, sKn_wsTm, sTg_wsTm, sVl_wsTm, sBh_wsTm, sTm_wsTm, sCk_wsTm, sUp_wsTm, sOw_wsTm, sTi_wsTm, sDn_wsTm, sWt_wsTm, sKw_wsTm, sWy_wsTm, sMk_wsCk, sKn_wsCk, sTg_wsCk, sVl_wsCk, sBh_wsCk, sTm_wsCk, sCk_wsCk, sUp_wsCk, sOw_wsCk, sTi_wsCk, sDn_wsCk, sWt_wsCk, sKw_wsCk, sWy_wsCk, sMk_wsUp, sKn_wsUp, sTg_wsUp, sVl_wsUp, sBh_wsUp, sTm_wsUp, sCk_wsUp, sUp_wsUp, sOw_wsUp, sTi_wsUp, sDn_wsUp, sWt_wsUp, sKw_wsUp, sWy_wsUp, sMk_wsOw, sKn_wsOw, sTg_wsOw, sVl_wsOw, sBh_wsOw, sTm_wsOw, sCk_wsOw, sUp_wsOw, sOw_wsOw, sTi_wsOw, sDn_wsOw, sWt_wsOw, sKw_wsOw, sWy_wsOw, sMk_wsTi, sKn_wsTi, sTg_wsTi, sVl_wsTi, sBh_wsTi, sTm_wsTi, sCk_wsTi, sUp_wsTi, sOw_wsTi, sTi_wsTi, sDn_wsTi, sWt_wsTi, sKw_wsTi, sWy_wsTi, sMk_wsDn, sKn_wsDn, sTg_wsDn, sVl_wsDn, sBh_wsDn, sTm_wsDn, sCk_wsDn, sUp_wsDn, sOw_wsDn, sTi_wsDn, sDn_wsDn, sWt_wsDn, sKw_wsDn, sWy_wsDn, sMk_wsWt, sKn_wsWt, sTg_wsWt, sVl_wsWt, sBh_wsWt, sTm_wsWt, sCk_wsWt, sUp_wsWt, sOw_wsWt, sTi_wsWt, sDn_wsWt, sWt_wsWt, sKw_wsWt, sWy_wsWt, sMk_wsKw, sKn_wsKw, sTg_wsKw, sVl_wsKw, sBh_wsKw, sTm_wsKw, sCk_wsKw, sUp_wsKw, sOw_wsKw, sTi_wsKw, sDn_wsKw, sWt_wsKw, sKw_wsKw, sWy_wsKw, sMk_wsWy, sKn_wsWy, sTg_wsWy, sVl_wsWy, sBh_wsWy, sTm_wsWy, sCk_wsWy, sUp_wsWy, sOw_wsWy, sTi_wsWy, sDn_wsWy, sWt_wsWy, sKw_wsWy, sWy_wsWy, od, w_sTi, w_sOw, w_sDn, w_sCk, w_sMk, w_sKn, w_sTg, w_sVl, w_sBh, w_sTm, fu_at, if_true]
  simp only [sMk, sKn, sTg, sVl, sBh, sTm, sCk, sUp, sOw, sTi, sDn, sWt, sKw, sWy, fu, if_true]
/-- the states differ in operation o alone -/
def Eo (o : Nat) (s s1 : St) : Prop := (∀ q, q ≠ o → sKn s1 q = sKn s q ∧ sTg s1 q = sTg s q ∧ sVl s1 q = sVl s q ∧ sBh s1 q = sBh s q ∧ sTm s1 q = sTm s q ∧ sCk s1 q = sCk s q) ∧ sUp s1 = sUp s ∧ sOw s1 = sOw s ∧ sTi s1 = sTi s ∧ sDn s1 = sDn s ∧ sWt s1 = sWt s ∧ sKw s1 = sKw s ∧ sWy s1 = sWy s
theorem Eo_rec1 (s : St) (r k t : Nat) (v : Int32) (b : Option Nat) : Eo (60 * r + sMk s r) s (rec1 s r k t v b) := by
  refine ⟨fun q hq => ?_, rfl, rfl, rfl, rfl, rfl, rfl, rfl⟩
  unfold rec1 rec_
  simp only [sMk_wsMk, sKn_wsMk, sTg_wsMk, sVl_wsMk, sBh_wsMk, sTm_wsMk, sCk_wsMk, sUp_wsMk, sOw_wsMk, sTi_wsMk, sDn_wsMk, sWt_wsMk, sKw_wsMk, sWy_wsMk, sMk_wsKn, sKn_wsKn, sTg_wsKn, sVl_wsKn, sBh_wsKn, sTm_wsKn, sCk_wsKn, sUp_wsKn, sOw_wsKn, sTi_wsKn, sDn_wsKn, sWt_wsKn, sKw_wsKn, sWy_wsKn, sMk_wsTg, sKn_wsTg, sTg_wsTg, sVl_wsTg, sBh_wsTg, sTm_wsTg, sCk_wsTg, sUp_wsTg, sOw_wsTg, sTi_wsTg, sDn_wsTg, sWt_wsTg, sKw_wsTg, sWy_wsTg, sMk_wsVl, sKn_wsVl, sTg_wsVl, sVl_wsVl, sBh_wsVl, sTm_wsVl, sCk_wsVl, sUp_wsVl, sOw_wsVl, sTi_wsVl, sDn_wsVl, sWt_wsVl, sKw_wsVl, sWy_wsVl, sMk_wsBh, sKn_wsBh, sTg_wsBh, sVl_wsBh, sBh_wsBh, sTm_wsBh, sCk_wsBh, sUp_wsBh, sOw_wsBh, sTi_wsBh, sDn_wsBh, sWt_wsBh, sKw_wsBh, sWy_wsBh, sMk_wsTm, sKn_wsTm, sTg_wsTm, sVl_wsTm, sBh_wsTm, sTm_wsTm, sCk_wsTm, sUp_wsTm, sOw_wsTm, sTi_wsTm, sDn_wsTm, sWt_wsTm, sKw_wsTm, sWy_wsTm, sMk_wsCk, sKn_wsCk, sTg_wsCk, sVl_wsCk, sBh_wsCk, sTm_wsCk, sCk_wsCk, sUp_wsCk, sOw_wsCk, sTi_wsCk, sDn_wsCk, sWt_wsCk, sKw_wsCk, sWy_wsCk, sMk_wsUp, sKn_wsUp, sTg_wsUp, sVl_wsUp, sBh_wsUp, sTm_wsUp, sCk_wsUp, sUp_wsUp, sOw_wsUp, sTi_wsUp, sDn_wsUp, sWt_wsUp, sKw_wsUp, sWy_wsUp, sMk_wsOw, sKn_wsOw, sTg_wsOw, sVl_wsOw, sBh_wsOw, sTm_wsOw, sCk_wsOw, sUp_wsOw, sOw_wsOw, sTi_wsOw, sDn_wsOw, sWt_wsOw, sKw_wsOw, sWy_wsOw, sMk_wsTi, sKn_wsTi, sTg_wsTi, sVl_wsTi, sBh_wsTi, sTm_wsTi, sCk_wsTi, sUp_wsTi, sOw_wsTi, sTi_wsTi, sDn_wsTi, sWt_wsTi, sKw_wsTi, sWy_wsTi, sMk_wsDn, sKn_wsDn, sTg_wsDn, sVl_wsDn, sBh_wsDn, sTm_wsDn, sCk_wsDn, sUp_wsDn, sOw_wsDn, sTi_wsDn, sDn_wsDn, sWt_wsDn, sKw_wsDn, sWy_wsDn, sMk_wsWt, sKn_wsWt, sTg_wsWt, sVl_wsWt, sBh_wsWt, sTm_wsWt, sCk_wsWt, sUp_wsWt, sOw_wsWt, sTi_wsWt, sDn_wsWt, sWt_wsWt, sKw_wsWt, sWy_wsWt, sMk_wsKw, sKn_wsKw, sTg_wsKw, sVl_wsKw, sBh_wsKw, sTm_wsKw, sCk_wsKw, sUp_wsKw, sOw_wsKw, sTi_wsKw, sDn_wsKw, sWt_wsKw, sKw_wsKw, sWy_wsKw, sMk_wsWy, sKn_wsWy, sTg_wsWy, sVl_wsWy, sBh_wsWy, sTm_wsWy, sCk_wsWy, sUp_wsWy, sOw_wsWy, sTi_wsWy, sDn_wsWy, sWt_wsWy, sKw_wsWy, sWy_wsWy, fu_at, if_neg hq, and_self]
/-- .. as far as operations and what was done go -/
def Ed (o : Nat) (s s1 : St) : Prop := (∀ q, q ≠ o → sKn s1 q = sKn s q ∧ sTg s1 q = sTg s q ∧ sVl s1 q = sVl s q ∧ sBh s1 q = sBh s q ∧ sTm s1 q = sTm s q ∧ sCk s1 q = sCk s q) ∧ sDn s1 = sDn s
theorem Eo.ed {o : Nat} {s s1 : St} (E : Eo o s s1) : Ed o s s1 := ⟨E.1, E.2.2.2.2.1⟩
theorem gt_eta {s s1 : St} (h1 : sKn s1 = sKn s) (h2 : sTg s1 = sTg s) (h3 : sVl s1 = sVl s) (h4 : sBh s1 = sBh s) (h5 : sTm s1 = sTm s) (h6 : sCk s1 = sCk s) (h7 : sDn s1 = sDn s) : Ed 240 s s1 := ⟨fun q _ => ⟨by rw [h1], by rw [h2], by rw [h3], by rw [h4], by rw [h5], by rw [h6]⟩, h7⟩
theorem dn_240 {s : St} (hB : Bd s) {r : Nat} (hr : r < 4) : 240 ∉ sDn s r := fun z => absurd ((hB.2.2.1 r hr).2.2.2.1 240 z) (by decide)
theorem Ed.xcs {o r : Nat} {s s1 : St} (E : Ed o s s1) (hd : o ∉ sDn s r) (c : Int32) : cs s1 r c = cs s r c := by
  unfold cs
  congr 1
  funext a x
  unfold addF isAdd
  rw [E.2]
  by_cases hx : x = o
  · subst hx
    simp only [hd, false_and, decide_false, Bool.false_eq_true, if_false]
  · obtain ⟨e1, e2, e3, e4, e5, e6⟩ := E.1 x hx
    simp only [e1, e2, e3]
theorem Ed.xgtm {o a b : Nat} {s s1 : St} (E : Ed o s s1) (ha : a ≠ o) (hb : b ≠ o) : gtm s1 a b = gtm s a b := by
  unfold gtm
  simp only [(E.1 a ha).2.2.2.2.1, (E.1 b hb).2.2.2.2.1]
theorem Ed.xisWr {o r x : Nat} {s s1 : St} (E : Ed o s s1) (hd : o ∉ sDn s r) (c : Int32) : isWr s1 r c x = isWr s r c x := by
  unfold isWr
  rw [E.2]
  by_cases hx : x = o
  · subst hx
    simp only [hd, false_and, decide_false]
  · obtain ⟨e1, e2, e3, e4, e5, e6⟩ := E.1 x hx
    simp only [e1, e2]
theorem Ed.xwr {o r : Nat} {s s1 : St} (E : Ed o s s1) (hd : o ∉ sDn s r) (c : Int32) : wr s1 r c = wr s r c := by
  unfold wr
  have : ∀ (l : List Nat) (b : Option Nat), b ≠ some o → l.foldl (regF s1 r c) b = l.foldl (regF s r c) b := by
    intro l
    induction l with
    | nil => intro b _; rfl
    | cons x l ih =>
      intro b hb
      rw [List.foldl_cons, List.foldl_cons]
      have e : regF s1 r c b x = regF s r c b x ∧ regF s r c b x ≠ some o := by
        unfold regF
        rw [E.xisWr hd]
        cases hw : isWr s r c x with
        | false =>
          rw [Bool.false_and, Bool.false_and]
          exact ⟨rfl, by rw [if_neg Bool.false_ne_true]; exact hb⟩
        | true =>
          have hxo : x ≠ o := fun z => hd (z ▸ (of_decide_eq_true hw).1)
          have eg : gtO s1 x b = gtO s x b := by
            cases b with
            | none => rfl
            | some q => exact E.xgtm hxo (fun z => hb (by rw [z]))
          rw [eg]
          refine ⟨rfl, ?_⟩
          split
          · exact fun z => hxo (Option.some.inj z)
          · exact hb
      rw [e.1]
      exact ih _ e.2
  exact this rg none (fun z => by cases z)
theorem Ed.xtak {o r p : Nat} {s s1 : St} (E : Ed o s s1) (hd : o ∉ sDn s r) (hp : p ≠ o) : tak s1 r p = tak s r p := by
  unfold tak
  congr 1
  funext x
  unfold tkn bef
  rw [E.2]
  by_cases hx : x = o
  · subst hx
    simp only [hd, false_and, decide_false]
  · obtain ⟨e1, e2, e3, e4, e5, e6⟩ := E.1 x hx
    obtain ⟨f1, f2, f3, f4, f5, f6⟩ := E.1 p hp
    simp only [e1, e2, e3, e6, f2, f3]
theorem Ed.xsp {o r : Nat} {s s1 : St} (E : Ed o s s1) (hd : o ∉ sDn s r) : sp s1 r = sp s r := by
  unfold sp
  rw [E.2]
  apply List.filter_congr
  intro p hp
  have hpo : p ≠ o := fun z => hd (z ▸ hp)
  rw [E.xtak hd hpo, (E.1 p hpo).1]
theorem Ed.xrmd {o r : Nat} {s s1 : St} (E : Ed o s s1) (hd : o ∉ sDn s r) (p : Nat) : rmd s1 r p = rmd s r p := by
  unfold rmd
  congr 1
  funext x
  rw [E.2]
  by_cases hx : x = o
  · subst hx
    simp only [hd, false_and, decide_false]
  · obtain ⟨e1, e2, e3, e4, e5, e6⟩ := E.1 x hx
    simp only [e1, e4]
theorem Ed.xchs {o r : Nat} {s s1 : St} (E : Ed o s s1) (hd : o ∉ sDn s r) : chs s1 r = chs s r := by
  unfold chs
  congr 1
  funext n x
  unfold chrF
  rw [E.2]
  by_cases hx : x = o
  · subst hx
    simp only [hd, false_and, if_false]
  · obtain ⟨e1, e2, e3, e4, e5, e6⟩ := E.1 x hx
    simp only [e1]
theorem Ed.xinsR {o x : Nat} {s s1 : St} (E : Ed o s s1) (hx : x ≠ o) : ∀ R : List Nat, o ∉ R → insR s1 x R = insR s x R := by
  intro R
  induction R with
  | nil => intro _; rfl
  | cons y R ih =>
    intro h
    have hy : y ≠ o := fun z => h (by rw [z]; exact List.mem_cons_self)
    show (if gtm s1 y x = true then y :: insR s1 x R else x :: y :: R) = (if gtm s y x = true then y :: insR s x R else x :: y :: R)
    rw [E.xgtm hy hx, ih (fun z => h (List.mem_cons_of_mem _ z))]
theorem Ed.xchl {o r t : Nat} {a : Option Nat} {s s1 : St} (E : Ed o s s1) (hd : o ∉ sDn s r) : chl s1 r t a = chl s r t a := by
  unfold chl
  have : ∀ (l R : List Nat), o ∉ R → l.foldl (chF s1 r t a) R = l.foldl (chF s r t a) R := by
    intro l
    induction l with
    | nil => intro R _; rfl
    | cons x l ih =>
      intro R hR
      rw [List.foldl_cons, List.foldl_cons]
      have e : chF s1 r t a R x = chF s r t a R x ∧ o ∉ chF s r t a R x := by
        unfold chF isCh
        rw [E.2]
        by_cases hx : x = o
        · subst hx
          simp only [hd, false_and, decide_false, Bool.false_eq_true, if_false, true_and]
          exact hR
        · obtain ⟨e1, e2, e3, e4, e5, e6⟩ := E.1 x hx
          simp only [e1, e2, e4, E.xinsR hx R hR, true_and]
          split
          · intro z
            rcases (insR_m2 R).mp z with q | q
            · exact hx q.symm
            · exact hR q
          · exact hR
      rw [e.1]
      exact ih _ e.2
  exact this rg [] List.not_mem_nil
theorem Ed.xTL {o r t : Nat} {l : List Nat} {s s1 : St} (E : Ed o s s1) (hd : o ∉ sDn s r) (H : TL s r t l) : TL s1 r t l := H.same (fun a => E.xchl hd) (fun q => by
  rw [E.2]
  by_cases hq : q = o
  · subst hq
    simp only [hd, false_and]
  · rw [(E.1 q hq).1, (E.1 q hq).2.1])
theorem Ed.xTA {o : Nat} {tx : Nat → Nat → List Nat} {s s1 : St} (E : Ed o s s1) (hd : ∀ r, r < 4 → o ∉ sDn s r) (H : TA s tx) : TA s1 tx := fun r hr => ⟨E.xTL (hd r hr) (H r hr).1, E.xTL (hd r hr) (H r hr).2.1, by rw [E.xchs (hd r hr)]; exact (H r hr).2.2⟩
theorem Eo.xkno {o r i j : Nat} {s s1 : St} (E : Eo o s s1) : kno s1 r i j = kno s r i j := by
  unfold kno
  rw [E.2.2.1, E.2.2.2.2.2.2.1]
theorem Eo.xlg {o r : Nat} {s s1 : St} (E : Eo o s s1) : lg s1 r = lg s r := by
  unfold lg
  rw [E.2.2.2.2.1]
  apply List.filter_congr
  intro p _
  unfold lgd
  simp only [E.xkno]
/-- another row of addresses, the same where it counts -/
theorem rp_oa {ow oa oa' : Nat → Nat} {la : Nat → Nat → Nat} {tx : Nat → Nat → List Nat} {h : Hp} {x r : Nat} {s : St} (H : RpR ow oa la tx h x s r) (e : ∀ q, q ∈ sDn s r ∨ q ∈ sWt s r → oa' q = oa q) (T0 : TL s r 0 (tx r 0)) (T1 : TL s r 1 (tx r 1)) : RpR ow oa' la tx h x s r := by
  have mp : ∀ l : List Nat, (∀ q, q ∈ l → q ∈ sDn s r ∨ q ∈ sWt s r) → l.map oa' = l.map oa := fun l hl => List.map_congr_left (fun q hq => e q (hl q hq))
  refine ⟨H.ti, H.up, H.kn, H.sm, ?_, fun c hc => ?_, ?_, ?_, fun t ht => ?_⟩
  · rw [mp _ (fun q hq => Or.inl (sp_mem hq))]; exact H.sp
  · rw [H.wr c hc]
    cases hw : wr s r (nI c) with
    | none => rfl
    | some q => exact congrArg some (e q (Or.inl (wr_mem hw).1)).symm
  · rw [mp (lg s r) (fun q hq => Or.inl (List.mem_filter.mp hq).1)]; exact H.lg
  · rw [mp _ (fun q hq => Or.inr hq)]; exact H.wt
  · refine Sgm.cg _ _ (fun q hq => ⟨e q (Or.inl ?_), rfl, rfl⟩) (H.tx t ht)
    rcases (show t = 0 ∨ t = 1 by omega) with rfl | rfl
    · exact ((T0.2.2 q).mp hq).1
    · exact ((T1.2.2 q).mp hq).1
theorem mad_rec1 {s : St} {r k t : Nat} {v : Int32} {b : Option Nat} (hm : sMk s r < 60) {q : Nat} (h : mad (rec1 s r k t v b) q) : q = 60 * r + sMk s r ∨ (mad s q ∧ q ≠ 60 * r + sMk s r) := by
  by_cases hq : q = 60 * r + sMk s r
  · exact Or.inl hq
  · refine Or.inr ⟨⟨h.1, ?_⟩, hq⟩
    have h2 : q % 60 < fu (sMk s) r (sMk s r + 1) (q / 60) := h.2
    rw [fu_at] at h2
    split at h2
    · rename_i h3
      rw [h3]
      omega
    · exact h2
theorem nmad {s : St} {r : Nat} (hm : sMk s r < 60) : ¬ mad s (60 * r + sMk s r) := fun z => by
  have h1 := z.2
  rw [show (60 * r + sMk s r) / 60 = r by omega] at h1
  omega
theorem Dk_rec1 {s : St} {r k t : Nat} {v : Int32} {b : Option Nat} (G : GI s) (hr : r < 4) (hm : sMk s r < 60) (hk : k ≤ 5) (ht : t ≤ 1) (hb : nOk s r k t v b) : Dk (rec1 s r k t v b) r (60 * r + sMk s r) := by
  have od : (60 * r + sMk s r) / 60 = r := by omega
  have E := Eo_rec1 s r k t v b
  have hno : ∀ r', r' < 4 → 60 * r + sMk s r ∉ sDn s r' := fun r' hr' z => nmad hm (mad_dn G.2 hr' z)
  refine ⟨hr, by omega, ?_, fun p hp j hj => ?_, ?_, ?_⟩
  · rw [E.2.2.1, od, G.2.i1 r hr]; omega
  · rw [E.2.2.2.2.1] at hp
    rw [E.2.2.1, (E.1 p (fun z => hno r hr (z ▸ hp))).2.2.2.2.2]
    exact G.2.i11 r hr p hp j hj
  · rw [E.2.2.2.2.1]; exact hno r hr
  · rw [doo_rec1 hm]
    exact G.xnw1 hr hm hk ht hb
theorem Bd_rec1 {s : St} {r k t : Nat} {v : Int32} {b : Option Nat} (G : GI s) (hr : r < 4) (hm : sMk s r < 60) (hk : k ≤ 5) (ht : t ≤ 1) (hb : nOk s r k t v b) : Bd (rec1 s r k t v b) := by
  have hd := G.2.rd G.1 r hr
  have hb2 : ∀ p, b = some p → p < 240 := fun p e => (mad_dn G.2 hr (hb.1 p e).1).1
  have B := Bd_rec (v := v) G.1 hm hk ht hb2 hd.1
  refine ⟨B.1, fun o ho => ⟨(B.2.1 o ho).1, (B.2.1 o ho).2.1, (B.2.1 o ho).2.2.1, (B.2.1 o ho).2.2.2.1, fun j hj => ?_⟩, B.2.2.1, B.2.2.2⟩
  show fu (sCk s) (60 * r + sMk s r) (fu (sOw s r) r (sOw s r r + 1)) o j ≤ 60
  rw [fu_at]
  split
  · rw [fu_at]
    split
    · rw [hd.2.1]; omega
    · exact (G.1.2.2.1 r hr).2.2.2.2.2.1 j hj
  · exact (G.1.2.1 o ho).2.2.2.2 j hj
