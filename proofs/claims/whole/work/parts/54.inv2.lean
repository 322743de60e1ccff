/-! a new operation keeps the invariant -/
/-- what a new operation must be -/
def nOk (s : St) (r k t : Nat) (v : Int32) (b : Option Nat) : Prop := (∀ p, b = some p → p ∈ sDn s r ∧ sKn s p = 4 ∧ sTg s p = t) ∧ (k = 5 → ∃ p, b = some p) ∧ (k = 1 → ∃ x, x < 32 ∧ v = nI x)
def nw1 (s : St) (r k t : Nat) (v : Int32) (b : Option Nat) : St := clk_ (doo (rec_ s r k t v b) r (60 * r + sMk s r)) r (60 * r + sMk s r)
theorem Inv.xnw1 {s : St} (H : Inv s) {r k t : Nat} {v : Int32} {b : Option Nat} (hr : r < 4) (hm : sMk s r < 60) (hb : nOk s r k t v b) : Inv (nw1 s r k t v b) := by
  obtain ⟨o, ho⟩ : ∃ o, o = 60 * r + sMk s r := ⟨_, rfl⟩
  have od : o / 60 = r := by omega
  have om : o % 60 = sMk s r := by omega
  have o240 : o < 240 := by omega
  have eMk : ∀ j, sMk (nw1 s r k t v b) j = if j = r then sMk s r + 1 else sMk s j := fun _ => rfl
  have eKn : ∀ j, sKn (nw1 s r k t v b) j = if j = o then k else sKn s j := fun _ => by rw [ho]; rfl
  have eTg : ∀ j, sTg (nw1 s r k t v b) j = if j = o then t else sTg s j := fun _ => by rw [ho]; rfl
  have eVl : ∀ j, sVl (nw1 s r k t v b) j = if j = o then v else sVl s j := fun _ => by rw [ho]; rfl
  have eBh : ∀ j, sBh (nw1 s r k t v b) j = if j = o then b else sBh s j := fun _ => by rw [ho]; rfl
  have eTm : ∀ j, sTm (nw1 s r k t v b) j = if j = o then sTi s r + 1 else sTm s j := fun _ => by rw [ho]; rfl
  have eOw : ∀ r' j, sOw (nw1 s r k t v b) r' j = if r' = r ∧ j = r then sOw s r r + 1 else sOw s r' j := fun r' j => by
    show fu (sOw s) r (fu (sOw s r) ((60 * r + sMk s r) / 60) (sOw s r ((60 * r + sMk s r) / 60) + 1)) r' j = _
    rw [← ho, od, fu_at]
    by_cases h1 : r' = r
    · rw [if_pos h1, fu_at]
      by_cases h2 : j = r
      · rw [if_pos h2, if_pos ⟨h1, h2⟩]
      · rw [if_neg h2, if_neg (fun z => h2 z.2), h1]
    · rw [if_neg h1, if_neg (fun z => h1 z.1)]
  have eCk : ∀ x, sCk (nw1 s r k t v b) x = if x = o then sOw (nw1 s r k t v b) r else sCk s x := fun x => by
    unfold nw1 clk_
    rw [sCk_wsCk, sOw_wsCk, fu_at, ← ho]
    unfold doo rec_
    simp only [sMk_wsMk, sKn_wsMk, sTg_wsMk, sVl_wsMk, sBh_wsMk, sTm_wsMk, sCk_wsMk, sUp_wsMk, sOw_wsMk, sTi_wsMk, sDn_wsMk, sWt_wsMk, sKw_wsMk, sWy_wsMk, sMk_wsKn, sKn_wsKn, sTg_wsKn, sVl_wsKn, sBh_wsKn, sTm_wsKn, sCk_wsKn, sUp_wsKn, sOw_wsKn, sTi_wsKn, sDn_wsKn, sWt_wsKn, sKw_wsKn, sWy_wsKn, sMk_wsTg, sKn_wsTg, sTg_wsTg, sVl_wsTg, sBh_wsTg, sTm_wsTg, sCk_wsTg, sUp_wsTg, sOw_wsTg, sTi_wsTg, sDn_wsTg, sWt_wsTg, sKw_wsTg, sWy_wsTg, sMk_wsVl, sKn_wsVl, sTg_wsVl, sVl_wsVl, sBh_wsVl, sTm_wsVl, sCk_wsVl, sUp_wsVl, sOw_wsVl, sTi_wsVl, sDn_wsVl, sWt_wsVl, sKw_wsVl, sWy_wsVl, sMk_wsBh, sKn_wsBh, sTg_wsBh, sVl_wsBh, sBh_wsBh, sTm_wsBh, sCk_wsBh, sUp_wsBh, sOw_wsBh, sTi_wsBh, sDn_wsBh, sWt_wsBh, sKw_wsBh, sWy_wsBh, sMk_wsTm, sKn_wsTm, sTg_wsTm, sVl_wsTm, sBh_wsTm, sTm_wsTm, sCk_wsTm, sUp_wsTm, sOw_wsTm, sTi_wsTm, sDn_wsTm, sWt_wsTm, sKw_wsTm, sWy_wsTm, sMk_wsCk, sKn_wsCk, sTg_wsCk, sVl_wsCk, sBh_wsCk, sTm_wsCk, sCk_wsCk, sUp_wsCk, sOw_wsCk, sTi_wsCk, sDn_wsCk, sWt_wsCk, sKw_wsCk, sWy_wsCk, sMk_wsUp, sKn_wsUp, sTg_wsUp, sVl_wsUp, sBh_wsUp, sTm_wsUp, sCk_wsUp, sUp_wsUp, sOw_wsUp, sTi_wsUp, sDn_wsUp, sWt_wsUp, sKw_wsUp, sWy_wsUp, sMk_wsOw, sKn_wsOw, sTg_wsOw, sVl_wsOw, sBh_wsOw, sTm_wsOw, sCk_wsOw, sUp_wsOw, sOw_wsOw, sTi_wsOw, sDn_wsOw, sWt_wsOw, sKw_wsOw, sWy_wsOw, sMk_wsTi, sKn_wsTi, sTg_wsTi, sVl_wsTi, sBh_wsTi, sTm_wsTi, sCk_wsTi, sUp_wsTi, sOw_wsTi, sTi_wsTi, sDn_wsTi, sWt_wsTi, sKw_wsTi, sWy_wsTi, sMk_wsDn, sKn_wsDn, sTg_wsDn, sVl_wsDn, sBh_wsDn, sTm_wsDn, sCk_wsDn, sUp_wsDn, sOw_wsDn, sTi_wsDn, sDn_wsDn, sWt_wsDn, sKw_wsDn, sWy_wsDn, sMk_wsWt, sKn_wsWt, sTg_wsWt, sVl_wsWt, sBh_wsWt, sTm_wsWt, sCk_wsWt, sUp_wsWt, sOw_wsWt, sTi_wsWt, sDn_wsWt, sWt_wsWt, sKw_wsWt, sWy_wsWt, sMk_wsKw, sKn_wsKw, sTg_wsKw, sVl_wsKw, sBh_wsKw, sTm_wsKw, sCk_wsKw, sUp_wsKw, sOw_wsKw, sTi_wsKw, sDn_wsKw, sWt_wsKw, sKw_wsKw, sWy_wsKw, sMk_wsWy, sKn_wsWy, sTg_wsWy, sVl_wsWy, sBh_wsWy, sTm_wsWy, sCk_wsWy, sUp_wsWy, sOw_wsWy, sTi_wsWy, sDn_wsWy, sWt_wsWy, sKw_wsWy, sWy_wsWy]
  have eTi : ∀ r', sTi (nw1 s r k t v b) r' = if r' = r then sTi s r + 1 else sTi s r' := fun r' => by
    show fu (sTi s) r (max (sTi s r) (fu (sTm s) (60 * r + sMk s r) (sTi s r + 1) (60 * r + sMk s r))) r' = _
    rw [fu_at, fu_at, if_pos rfl, Nat.max_eq_right (by omega)]
  have eDn : ∀ r', sDn (nw1 s r k t v b) r' = if r' = r then sDn s r ++ [o] else sDn s r' := fun _ => by rw [ho]; rfl
  have eWt : sWt (nw1 s r k t v b) = sWt s := rfl
  have eWy : sWy (nw1 s r k t v b) = sWy s := rfl
  generalize nw1 s r k t v b = s1 at *
  have hno : ¬ mad s o := fun z => by have := z.2; rw [od] at this; omega
  have mup : ∀ x, mad s x → mad s1 x ∧ x ≠ o := fun x hx => ⟨⟨hx.1, by
    rw [eMk]
    split
    · rename_i h; have := hx.2; rw [h] at this; omega
    · exact hx.2⟩, fun z => hno (z ▸ hx)⟩
  have mdn : ∀ x, mad s1 x → x = o ∨ (mad s x ∧ x ≠ o) := fun x hx => by
    by_cases h : x = o
    · exact Or.inl h
    · refine Or.inr ⟨⟨hx.1, ?_⟩, h⟩
      have h1 := hx.2
      rw [eMk] at h1
      split at h1
      · rename_i h2
        rw [h2]
        have : x % 60 ≠ o % 60 := fun z => h (op_eq (by omega) z)
        omega
      · exact h1
  have mono : ∀ r' j, sOw s r' j ≤ sOw s1 r' j := fun r' j => by
    rw [eOw]
    split
    · rename_i h; rw [h.1, h.2]; omega
    · exact Nat.le_refl _
  have mok : ∀ j, sMk s j ≤ sMk s1 j := fun j => by
    rw [eMk]
    split
    · rename_i h; rw [h]; omega
    · exact Nat.le_refl _
  have hnd : ∀ r', r' < 4 → o ∉ sDn s r' := fun r' hr' z => hno (mad_dn H hr' z)
  have how : sOw s1 r r = sMk s r + 1 := by rw [eOw, if_pos ⟨rfl, rfl⟩, H.i1 r hr]
  refine ⟨fun r' hr' => ?_, fun r' hr' x => ?_, fun r' hr' => ?_, fun r' hr' j hj => ?_, fun r' hr' => ?_, fun r' hr' x hx => ?_, fun r' hr' => ?_, fun w hw q hq h0 => ?_, fun x hx => ?_, fun x p hx hp hb2 => ?_, fun r' hr' x hx j hj => ?_, fun r' hr' x hx => ?_, ⟨fun r' hr' => ?_, fun x hx => ?_⟩, fun x p hx hp => ?_, fun x hx h5 => ?_, fun x hx h1 => ?_⟩
  · rw [eOw, eMk]
    by_cases h : r' = r
    · rw [if_pos ⟨h, h⟩, if_pos h, H.i1 r hr]
    · rw [if_neg (fun z => h z.1), if_neg h]; exact H.i1 r' hr'
  · rw [eDn, eOw]
    by_cases h1 : r' = r
    · subst h1
      rw [if_pos rfl, List.mem_append, List.mem_singleton, H.i2 r' hr' x]
      by_cases h2 : x / 60 = r'
      · rw [if_pos ⟨rfl, h2⟩, H.i1 r' hr']
        constructor
        · rintro (⟨h4, h5⟩ | h4)
          · rw [h2, H.i1 r' hr'] at h5
            exact ⟨h4, by omega⟩
          · rw [h4]; exact ⟨o240, by omega⟩
        · rintro ⟨h4, h5⟩
          by_cases h6 : x = o
          · exact Or.inr h6
          · rw [h2, H.i1 r' hr']
            have : x % 60 ≠ o % 60 := fun z => h6 (op_eq (by omega) z)
            exact Or.inl ⟨h4, by omega⟩
      · rw [if_neg (fun z => h2 z.2)]
        constructor
        · rintro (h4 | h4)
          · exact h4
          · rw [h4] at h2; exact absurd od h2
        · exact Or.inl
    · rw [if_neg h1, if_neg (fun z => h1 z.1)]
      exact H.i2 r' hr' x
  · rw [eDn]
    split
    · exact List.nodup_append.mpr ⟨H.i3 r hr, List.nodup_cons.mpr ⟨List.not_mem_nil, List.nodup_nil⟩, fun a ha b hb => by
        rw [List.mem_singleton.mp hb]
        rintro rfl
        exact hnd r hr ha⟩
    · exact H.i3 r' hr'
  · rw [eOw]
    split
    · rename_i h
      rw [h.2, H.i1 r hr, eMk, if_pos rfl]
      exact Nat.le_refl _
    · exact Nat.le_trans (H.i4 r' hr' j hj) (mok j)
  · rw [eDn]
    have e4 : sOw s1 r' = if r' = r then fu (sOw s r) r (sOw s r r + 1) else sOw s r' := by
      funext j
      rw [eOw]
      by_cases h1 : r' = r
      · rw [if_pos h1, fu_at]
        by_cases h2 : j = r
        · rw [if_pos ⟨h1, h2⟩, if_pos h2]
        · rw [if_neg (fun z => h2 z.2), if_neg h2, h1]
      · rw [if_neg (fun z => h1 z.1), if_neg h1]
    rw [e4]
    split
    · rw [List.length_append, H.i5 r hr, s4_fu _ _ hr]
      rfl
    · exact H.i5 r' hr'
  · rw [eWt] at hx
    obtain ⟨h1, h2⟩ := H.i6 r' hr' x hx
    refine ⟨(mup x h1).1, ?_⟩
    rw [eDn]
    split
    · rename_i h
      subst h
      intro z
      rcases List.mem_append.mp z with z | z
      · exact h2 z
      · exact (mup x h1).2 (List.mem_singleton.mp z)
    · exact h2
  · rw [eWt]; exact H.i7 r' hr'
  · rw [eWy] at hq
    obtain ⟨h1, h2⟩ := H.i8 w hw q hq h0
    refine ⟨(mup _ h1).1, fun j hj => ?_⟩
    rw [eCk, if_neg (mup _ h1).2]
    exact h2 j hj
  · rw [eCk]
    rcases mdn x hx with h | ⟨h, hne⟩
    · rw [if_pos h, h, od, om, how]
      refine ⟨rfl, fun j hj => ?_⟩
      rw [eOw, eMk]
      by_cases h2 : j = r
      · rw [if_pos ⟨rfl, h2⟩, if_pos h2, H.i1 r hr]; exact Nat.le_refl _
      · rw [if_neg (fun z => h2 z.2), if_neg h2]; exact H.i4 r hr j hj
    · rw [if_neg hne]
      exact ⟨(H.i9 x h).1, fun j hj => Nat.le_trans ((H.i9 x h).2 j hj) (mok j)⟩
  · rw [eCk] at hb2
    rcases mdn x hx with h | ⟨h, hne⟩
    · rw [if_pos h] at hb2
      rcases mdn p hp with hp2 | ⟨hp2, hpne⟩
      · rw [h, hp2]
        exact ⟨fun j _ => Nat.le_refl _, fun z => absurd rfl z⟩
      · have hpd : p ∈ sDn s r := by
          rw [H.i2 r hr]
          refine ⟨hp2.1, ?_⟩
          rw [eOw] at hb2
          by_cases h3 : p / 60 = r
          · have h4 := hp2.2
            rw [h3] at h4 ⊢
            rw [H.i1 r hr]; exact h4
          · rw [if_neg (fun z => h3 z.2)] at hb2; exact hb2
        refine ⟨fun j hj => ?_, fun _ => ?_⟩
        · rw [eCk, eCk, if_neg hpne, if_pos h]
          exact Nat.le_trans (H.i11 r hr p hpd j hj) (mono r j)
        · rw [eTm, eTm, if_neg hpne, if_pos h]
          have := H.i12 r hr p hpd
          omega
    · rw [if_neg hne] at hb2
      rcases mdn p hp with hp2 | ⟨hp2, hpne⟩
      · rw [hp2, od, om] at hb2
        have := (H.i9 x h).2 r hr
        omega
      · obtain ⟨g1, g2⟩ := H.i10 x p h hp2 hb2
        refine ⟨fun j hj => ?_, fun z => ?_⟩
        · rw [eCk, eCk, if_neg hpne, if_neg hne]; exact g1 j hj
        · rw [eTm, eTm, if_neg hpne, if_neg hne]; exact g2 z
  · rw [eDn] at hx
    have go : ∀ y, y ∈ sDn s r' → sCk s1 y j ≤ sOw s1 r' j := fun y hy => by
      rw [eCk, if_neg (mup y (mad_dn H hr' hy)).2]
      exact Nat.le_trans (H.i11 r' hr' y hy j hj) (mono r' j)
    split at hx
    · rename_i h
      subst h
      rcases List.mem_append.mp hx with z | z
      · exact go x z
      · rw [List.mem_singleton.mp z, eCk, if_pos rfl]
        exact Nat.le_refl _
    · exact go x hx
  · rw [eDn] at hx
    rw [eTi]
    split at hx
    · rename_i h
      rw [if_pos h]
      rcases List.mem_append.mp hx with z | z
      · rw [eTm, if_neg (mup x (mad_dn H hr z)).2]
        have := H.i12 r hr x z
        omega
      · rw [List.mem_singleton.mp z, eTm, if_pos rfl]
        exact Nat.le_refl _
    · rename_i h
      rw [if_neg h, eTm, if_neg (mup x (mad_dn H hr' hx)).2]
      exact H.i12 r' hr' x hx
  · have e4 : s4 (sMk s1) = s4 (sMk s) + 1 := by
      rw [show sMk s1 = fu (sMk s) r (sMk s r + 1) from funext eMk, s4_fu _ _ hr]
    rw [e4, eTi]
    split
    · have := H.i13.1 r hr; omega
    · have := H.i13.1 r' hr'; omega
  · have e4 : s4 (sMk s1) = s4 (sMk s) + 1 := by
      rw [show sMk s1 = fu (sMk s) r (sMk s r + 1) from funext eMk, s4_fu _ _ hr]
    rw [e4, eTm]
    rcases mdn x hx with h | ⟨h, hne⟩
    · rw [if_pos h]; have := H.i13.1 r hr; omega
    · rw [if_neg hne]; have := H.i13.2 x h; omega
  · rw [eBh] at hp
    rcases mdn x hx with h | ⟨h, hne⟩
    · rw [if_pos h] at hp
      obtain ⟨g1, g2, g3⟩ := hb.1 p hp
      have hpm := mad_dn H hr g1
      have hpne := (mup p hpm).2
      refine ⟨(mup p hpm).1, ?_, by rw [h]; exact hpne, by rw [eKn, if_neg hpne]; exact g2, by rw [eTg, eTg, if_neg hpne, if_pos h]; exact g3⟩
      rw [eCk, if_pos h]
      exact Nat.lt_of_lt_of_le ((H.i2 r hr p).mp g1).2 (mono r _)
    · rw [if_neg hne] at hp
      obtain ⟨g1, g2, g3, g4, g5⟩ := H.i14 x p h hp
      have hpne := (mup p g1).2
      exact ⟨(mup p g1).1, by rw [eCk, if_neg hne]; exact g2, g3, by rw [eKn, if_neg hpne]; exact g4, by rw [eTg, eTg, if_neg hpne, if_neg hne]; exact g5⟩
  · rw [eKn] at h5
    rw [eBh]
    rcases mdn x hx with h | ⟨h, hne⟩
    · rw [if_pos h] at h5 ⊢; exact hb.2.1 h5
    · rw [if_neg hne] at h5 ⊢; exact H.i15 x h h5
  · rw [eKn] at h1
    rw [eVl]
    rcases mdn x hx with h | ⟨h, hne⟩
    · rw [if_pos h] at h1 ⊢; exact hb.2.2 h1
    · rw [if_neg hne] at h1 ⊢; exact H.i16 x h h1
theorem mad_snd {s : St} {w o : Nat} {q : Mg} : mad (snd s w q) o = mad s o := by unfold mad; rw [mk_snd]
theorem Inv.xsdo {r o : Nat} : ∀ (n t : Nat) (s : St), Inv s → mad s o → Inv (sdoF r o n t s) := by
  intro n
  induction n with
  | zero => intro t s H _; exact H
  | succ n ih =>
    intro t s H ho
    refine ih (t + 1) _ ?_ ?_
    · unfold sdo
      split
      · exact H
      · exact H.xsnd (fun _ => ⟨ho, fun _ _ => rfl⟩)
    · unfold sdo
      split
      · exact ho
      · rw [mad_snd]; exact ho
theorem Bd.xsdo {r o : Nat} (ho : o < 240) : ∀ (n t : Nat) (s : St), Bd s → Bd (sdoF r o n t s) := by
  intro n
  induction n with
  | zero => intro t s H; exact H
  | succ n ih => intro t s H; exact ih (t + 1) _ (Bd_sdo H ho)
theorem nwo_nw1 (s : St) (r k t : Nat) (v : Int32) (b : Option Nat) : nwo s r k t v b = sdoF r (60 * r + sMk s r) 4 0 (nw1 s r k t v b) := rfl
/-- both at once -/
def GI (s : St) : Prop := Bd s ∧ Inv s
theorem GI.xnw1 {s : St} (H : GI s) {r k t : Nat} {v : Int32} {b : Option Nat} (hr : r < 4) (hm : sMk s r < 60) (hk : k ≤ 5) (ht : t ≤ 1) (hb : nOk s r k t v b) : GI (nw1 s r k t v b) := by
  refine ⟨?_, H.2.xnw1 hr hm hb⟩
  have hd := H.2.rd H.1 r hr
  have hb2 : ∀ p, b = some p → p < 240 := fun p e => (mad_dn H.2 hr (hb.1 p e).1).1
  have od : (60 * r + sMk s r) / 60 = r := by omega
  have B1 := Bd_rec (v := v) H.1 hm hk ht hb2 hd.1
  refine Bd_clk (Bd_doo B1 (by omega) ?_ ?_) hr
  · rw [od]
    show sOw s r r < 60
    rw [hd.2.1]; exact hm
  · exact hd.2.2 hm
theorem GI.xnwo {s : St} (H : GI s) {r k t : Nat} {v : Int32} {b : Option Nat} (hr : r < 4) (hm : sMk s r < 60) (hk : k ≤ 5) (ht : t ≤ 1) (hb : nOk s r k t v b) : GI (nwo s r k t v b) := by
  rw [nwo_nw1]
  have h1 := H.xnw1 hr hm hk ht hb
  refine ⟨Bd.xsdo (by omega) 4 0 _ h1.1, Inv.xsdo 4 0 _ h1.2 ⟨by omega, ?_⟩⟩
  show (60 * r + sMk s r) % 60 < fu (sMk s) r (sMk s r + 1) ((60 * r + sMk s r) / 60)
  rw [fu_at, if_pos (by omega)]
  omega
theorem GI.xnwS {s : St} (H : GI s) {r k t : Nat} {v : Int32} {b : Option Nat} (hr : r < 4) (hk : k ≤ 5) (ht : t ≤ 1) (hb : nOk s r k t v b) : GI (nwS s r k t v b) := by
  unfold nwS
  split
  · rename_i h
    exact H.xnwo hr (by have := H.1.1 r hr; omega) hk ht hb
  · exact H
theorem fri_mem {s : St} {r k : Nat} (h : fri s r (sWt s r) 0 = some k) : k < (sWt s r).length ∧ rdy s r ((sWt s r).getD k 0) = true := by
  have := fri_some _ _ _ h
  rw [Nat.sub_zero] at this
  exact ⟨by omega, this.2.2⟩
/-- one waiting operation is done -/
def stp1 (s : St) (r k : Nat) : St := doo (wto s r k) r ((sWt s r).getD k 0)
theorem GI.xstp1 {s : St} (H : GI s) {r k : Nat} (hr : r < 4) (hk : k < (sWt s r).length) (hy : rdy s r ((sWt s r).getD k 0) = true) : GI (stp1 s r k) := by
  obtain ⟨h1, h2⟩ := H.2.xwto hr hk
  have hm := (H.2.i6 r hr _ (getD_mem hk)).1
  have hy2 := rdy_iff.mp hy
  refine ⟨Bd_doo (Bd_wto H.1) hm.1 ?_ ?_, h1.xdoo hr hm hy h2⟩
  · show sOw s r _ < 60
    rw [← hy2.1]; omega
  · show (sDn s r).length < 240
    rw [H.2.i5 r hr]
    refine s4_lt (r := (sWt s r).getD k 0 / 60) (by have := hm.1; omega) (H.1.2.2.1 r hr).2.2.2.2.2.1 ?_
    rw [← hy2.1]; omega
theorem GI.xtkF {r : Nat} (hr : r < 4) : ∀ (n c : Nat) (s : St), GI s → GI (tkF r n c s).2 := by
  intro n
  induction n with
  | zero => intro c s H; exact H
  | succ n ih =>
    intro c s H
    unfold tkF
    cases hf : fri s r (sWt s r) 0 with
    | none => exact H
    | some k =>
      obtain ⟨h1, h2⟩ := fri_mem hf
      exact ih (c + 1) _ (H.xstp1 hr h1 h2)
theorem GI.xwpu {s : St} (H : GI s) {r o : Nat} (hr : r < 4) (ho : mad s o) (hd : o ∉ sDn s r) (hw : o ∉ sWt s r) : GI (wpu s r o) := ⟨Bd_wpu H.1 ho.1 (H.2.wlen hr ho.1 hw), H.2.xwpu hr ho hd hw⟩
theorem GI.xtk {s : St} (H : GI s) {r o : Nat} (hr : r < 4) (ho : mad s o) : GI (tk s r o).2 := by
  unfold tk
  split
  · exact H
  · rename_i h
    exact GI.xtkF hr _ _ _ (H.xwpu hr ho (fun z => h (Or.inl z)) (fun z => h (Or.inr z)))
theorem GI.xsnd {s : St} (H : GI s) {w : Nat} {q : Mg} (h1 : q.1 ≤ 2 ∧ (q.1 = 0 → q.2.1 < 240) ∧ (q.1 ≠ 0 → q.2.1 < 4) ∧ ∀ j, j < 4 → q.2.2 j ≤ 60) (h2 : q.1 = 0 → mad s q.2.1 ∧ ∀ j, j < 4 → q.2.2 j = sCk s q.2.1 j) : GI (snd s w q) := ⟨Bd_snd H.1 h1, H.2.xsnd h2⟩
theorem GI.xsndO {s : St} (H : GI s) {w o : Nat} (ho : mad s o) : GI (snd s w (0, o, sCk s o)) := H.xsnd ⟨Nat.zero_le _, fun _ => ho.1, fun z => absurd rfl z, fun j hj => (H.1.2.1 o ho.1).2.2.2.2 j hj⟩ (fun _ => ⟨ho, fun _ _ => rfl⟩)
theorem GI.xsndC {s : St} (H : GI s) {w r k : Nat} (hr : r < 4) (hk : k = 1 ∨ k = 2) : GI (snd s w (k, r, sOw s r)) := H.xsnd ⟨by omega, fun z => by simp only at z; omega, fun _ => hr, fun j hj => (H.1.2.2.1 r hr).2.2.2.2.2.1 j hj⟩ (fun z => by simp only at z; omega)
theorem GI.xansF {r t : Nat} {q : Nat → Nat} : ∀ (l : List Nat) (s : St), GI s → (∀ o ∈ l, mad s o) → GI (ansF r t q l s) := by
  intro l
  induction l with
  | nil => intro s H _; exact H
  | cons o l ih =>
    intro s H hl
    refine ih _ ?_ ?_
    · split
      · exact H.xsndO (hl o List.mem_cons_self)
      · exact H
    · intro x hx
      split
      · rw [mad_snd]; exact hl x (List.mem_cons_of_mem _ hx)
      · exact hl x (List.mem_cons_of_mem _ hx)
theorem GI.xans {s : St} (H : GI s) {r t : Nat} {q : Nat → Nat} (hr : r < 4) : GI (ans s r t q) := by
  unfold ans
  have h1 := GI.xansF (r := r) (t := t) (q := q) (sDn s r) s H (fun o ho => mad_dn H.2 hr ho)
  have := GI.xsndC h1 (w := 4 * r + t) (k := 1) hr (Or.inl rfl)
  rw [ow_ansF] at this
  exact this
theorem GI.xdrp {s : St} (H : GI s) {w k : Nat} (hw : w < 16) : GI (drp s w k) := ⟨Bd_drp H.1, H.2.xdrp hw⟩
theorem GI.xkwn {s : St} (H : GI s) {t q n : Nat} {c : Nat → Nat} (ht : t < 4) (hq : q < 4) (hc : ∀ j, j < 4 → c j ≤ 60) : GI (kwn s t q c n) := ⟨Bd_kwn H.1 ht hq hc, H.2⟩
