/-! both at once: what holds after every call -/
theorem WS.snd_ {s : St} {w : Nat} {q : Mg} (W : WS s) (hq : q.1 ≠ 0 → q.2.1 = w / 4) : WS (snd s w q) := by
  unfold snd
  split
  · exact W
  · intro w' hw' z hz h0
    have hz : z ∈ fu (sWy s) w (sWy s w ++ [q]) w' := hz
    rw [fu_at] at hz
    split at hz
    · rename_i h
      rcases List.mem_append.mp hz with k | k
      · rw [h]; exact W w (h ▸ hw') z k h0
      · rw [List.mem_singleton.mp k] at h0 ⊢
        rw [h]; exact hq h0
    · exact W w' hw' z hz h0
theorem WS.drp_ {s : St} {w j : Nat} (W : WS s) : WS (drp s w j) := by
  intro w' hw' z hz h0
  have hz : z ∈ fu (sWy s) w ((sWy s w).eraseIdx j) w' := hz
  rw [fu_at] at hz
  split at hz
  · rename_i h
    rw [h]
    exact W w (h ▸ hw') z (List.mem_of_mem_eraseIdx hz) h0
  · exact W w' hw' z hz h0
theorem WS.of {s s' : St} (W : WS s) (h : sWy s' = sWy s) : WS s' := by
  intro w hw z hz h0
  rw [h] at hz
  exact W w hw z hz h0
theorem wy_doo (s : St) (r o : Nat) : sWy (doo s r o) = sWy s := rfl
theorem wy_tkF {r : Nat} : ∀ (n c : Nat) (s : St), sWy (tkF r n c s).2 = sWy s := by
  intro n
  induction n with
  | zero => intro c s; rfl
  | succ n ih =>
    intro c s
    unfold tkF
    split
    · rfl
    · rw [ih]; rfl
theorem wy_tk {s : St} {r o : Nat} : sWy (tk s r o).2 = sWy s := by
  unfold tk
  split
  · rfl
  · rw [wy_tkF]; rfl
theorem WS.ansF_ {r t : Nat} {q : Nat → Nat} : ∀ (l : List Nat) (s : St), WS s → WS (ansF r t q l s) := by
  intro l
  induction l with
  | nil => intro s W; exact W
  | cons o l ih =>
    intro s W
    refine ih _ ?_
    split
    · exact W.snd_ (fun z => absurd rfl z)
    · exact W
theorem WS.sdoF_ {r o : Nat} : ∀ (n t : Nat) (s : St), WS s → WS (sdoF r o n t s) := by
  intro n
  induction n with
  | zero => intro t s W; exact W
  | succ n ih =>
    intro t s W
    refine ih (t + 1) _ ?_
    unfold sdo
    split
    · exact W
    · exact W.snd_ (fun z => absurd rfl z)
theorem wy_nw1 (s : St) (r k t : Nat) (v : Int32) (b : Option Nat) : sWy (nw1 s r k t v b) = sWy s := rfl
theorem WS.nwS_ {s : St} {r k t : Nat} {v : Int32} {b : Option Nat} (W : WS s) : WS (nwS s r k t v b) := by
  unfold nwS
  split
  · rw [nwo_nw1]
    exact WS.sdoF_ 4 0 _ (W.of (wy_nw1 ..))
  · exact W
def GJ (s : St) : Prop := GI s ∧ WS s
theorem GJ.nwS_ {s : St} {r k t : Nat} {v : Int32} {b : Option Nat} (H : GJ s) (hr : r < 4) (hk : k ≤ 5) (ht : t ≤ 1) (hb : nOk s r k t v b) : GJ (nwS s r k t v b) := ⟨H.1.xnwS hr hk ht hb, H.2.nwS_⟩
theorem GJ.add_ {s : St} {r c v : Int32} (H : GJ s) : GJ (a_add s r c v).2 := by
  unfold a_add
  rcases twI_cases (r := r) (c := c) with ⟨a, b, e, e1, e2⟩ | ⟨e, e1⟩ <;> rw [e]
  · obtain ⟨rfl, rfl, ha, hb⟩ := twI_of e
    exact H.nwS_ ha (by omega) (by omega) (nOk_none (by decide) (fun z => absurd z (by decide)))
  · exact H
theorem GJ.write_ {s : St} {r c v : Int32} (H : GJ s) : GJ (a_write s r c v).2 := by
  unfold a_write
  rcases twI_cases (r := r) (c := c) with ⟨a, b, e, e1, e2⟩ | ⟨e, e1⟩ <;> rw [e]
  · obtain ⟨rfl, rfl, ha, hb⟩ := twI_of e
    exact H.nwS_ ha (by omega) (by omega) (nOk_none (by decide) (fun z => absurd z (by decide)))
  · exact H
theorem GJ.put_ {s : St} {r c v : Int32} (H : GJ s) : GJ (a_put s r c v).2 := by
  unfold a_put
  rcases elI_cases (r := r) (c := c) (e := v) with ⟨a, b, y, e, e1, e2, e3⟩ | ⟨e, e1⟩ <;> rw [e]
  · obtain ⟨rfl, rfl, rfl, ha, hb, hy⟩ := elI_of e
    exact H.nwS_ ha (by omega) (by omega) (nOk_none (by decide) (fun _ => ⟨y, hy, rfl⟩))
  · exact H
theorem GJ.take_ {s : St} {r c v : Int32} (H : GJ s) : GJ (a_take s r c v).2 := by
  unfold a_take
  rcases elI_cases (r := r) (c := c) (e := v) with ⟨a, b, y, e, e1, e2, e3⟩ | ⟨e, e1⟩ <;> rw [e]
  · obtain ⟨rfl, rfl, rfl, ha, hb, hy⟩ := elI_of e
    exact H.nwS_ ha (by omega) (by omega) (nOk_none (by decide) (fun z => absurd z (by decide)))
  · exact H
theorem vt_mem {s : St} {tx : Nat → Nat → List Nat} (T : TA s tx) {a b i : Nat} (ha : a < 4) (hb : b < 2) (hi : i < (vtx s tx a b).length) : (vtx s tx a b).getD i 0 ∈ sDn s a ∧ sKn s ((vtx s tx a b).getD i 0) = 4 ∧ sTg s ((vtx s tx a b).getD i 0) = b := vs_mem (T.at ha hb) hi
theorem GJ.remove_ {s : St} {tx : Nat → Nat → List Nat} {r t p : Int32} (H : GJ s) (T : TA s tx) : GJ (a_remove s (vtx s tx) r t p).2 := by
  unfold a_remove
  rcases twI_cases (r := r) (c := t) with ⟨a, b, e, e1, e2⟩ | ⟨e, e1⟩ <;> rw [e]
  · obtain ⟨rfl, rfl, ha, hb⟩ := twI_of e
    show GJ (match sm_ix p (vtx s tx a b).length with | some q => (nwR s a, nwS s a 5 b (nI 0) (some ((vtx s tx a b).getD q 0))) | none => (- nI 2, s)).2
    cases hq : sm_ix p (vtx s tx a b).length with
    | none => exact H
    | some q => exact H.nwS_ ha (by omega) (by omega) ⟨fun p z => by (cases z; exact vt_mem T ha hb (ix_of hq).2), fun _ => ⟨_, rfl⟩, fun z => absurd z (by decide)⟩
  · exact H
theorem GJ.insert_ {s : St} {tx : Nat → Nat → List Nat} {r t p c : Int32} (H : GJ s) (T : TA s tx) : GJ (a_insert s (vtx s tx) r t p c).2 := by
  unfold a_insert
  rcases twI_cases (r := r) (c := t) with ⟨a, b, e, e1, e2⟩ | ⟨e, e1⟩ <;> rw [e]
  · obtain ⟨rfl, rfl, ha, hb⟩ := twI_of e
    show GJ (if nI 1 ≤ c ∧ c ≤ nI 127 then (match sm_ix p ((vtx s tx a b).length + 1) with | some q => (nwR s a, nwS s a 4 b c (if q = 0 then none else some ((vtx s tx a b).getD (q - 1) 0))) | none => (- nI 2, s)) else (- nI 2, s)).2
    split
    · cases hq : sm_ix p ((vtx s tx a b).length + 1) with
      | none => exact H
      | some q =>
        show GJ (nwS s a 4 b c (if q = 0 then none else some ((vtx s tx a b).getD (q - 1) 0)))
        have hq2 := (ix_of hq).2
        split
        · exact H.nwS_ ha (by omega) (by omega) (nOk_none (by decide) (fun z => absurd z (by decide)))
        · exact H.nwS_ ha (by omega) (by omega) ⟨fun p z => by (cases z; exact vt_mem T ha hb (by omega)), fun z => absurd z (by decide), fun z => absurd z (by decide)⟩
    · exact H
  · exact H
theorem GJ.lose_ {s : St} {f t k : Int32} (H : GJ s) : GJ (a_lose s f t k).2 := by
  unfold a_lose
  cases hj : mgI s f t k with
  | none => exact H
  | some abj =>
    obtain ⟨a, b, j⟩ := abj
    obtain ⟨rfl, rfl, rfl, ha, hb, hab, hjl⟩ := mgI_of hj
    exact ⟨H.1.xdrp (by omega), H.2.drp_⟩
theorem GJ.copy_ {s : St} {f t k : Int32} (H : GJ s) : GJ (a_copy s f t k).2 := by
  unfold a_copy
  cases hj : mgI s f t k with
  | none => exact H
  | some abj =>
    obtain ⟨a, b, j⟩ := abj
    obtain ⟨rfl, rfl, rfl, ha, hb, hab, hjl⟩ := mgI_of hj
    have hw16 : 4 * a + b < 16 := by omega
    show GJ (if (sWy s (4 * a + b)).length = 30 then (- nI 3, s) else (nI ((sWy s (4 * a + b)).length + 1), snd s (4 * a + b) ((sWy s (4 * a + b)).getD j (0, 0, fun _ => 0)))).2
    split
    · exact H
    · have hm := getM_mem hjl
      exact ⟨H.1.xsnd ((H.1.1.2.2.2 _ hw16).2 _ hm) (H.1.2.i8 _ hw16 _ hm), H.2.snd_ (H.2 _ hw16 _ hm)⟩
theorem GJ.speak_ {s : St} {f t : Int32} {k : Nat} (hk : k = 1 ∨ k = 2) (H : GJ s) : GJ (a_speak s f t k).2 := by
  unfold a_speak
  cases hj : wyI f t with
  | none => exact H
  | some ab =>
    obtain ⟨a, b⟩ := ab
    obtain ⟨rfl, rfl, ha, hb, hab⟩ := wyI_of hj
    show GJ (if sUp s a = true then (if (sWy s (4 * a + b)).length = 30 then (- nI 3, s) else (nI ((sWy s (4 * a + b)).length + 1), snd s (4 * a + b) (k, a, sOw s a))) else (- nI 4, s)).2
    split
    · split
      · exact H
      · exact ⟨H.1.xsndC ha hk, H.2.snd_ (fun _ => by show a = (4 * a + b) / 4; omega)⟩
    · exact H
theorem GJ.power_ {s : St} {r : Int32} {u : Bool} (H : GJ s) : GJ (a_power s r u).2 := by
  unfold a_power
  cases sm_ix r 4 with
  | none => exact H
  | some a => exact ⟨⟨H.1.1, H.1.2.up⟩, H.2.of rfl⟩
theorem GJ.deliver_ {s : St} {f t k : Int32} (H : GJ s) : GJ (a_deliver s f t k).2 := by
  unfold a_deliver
  cases hj : mgI s f t k with
  | none => exact H
  | some abj =>
    obtain ⟨a, b, j⟩ := abj
    obtain ⟨rfl, rfl, rfl, ha, hb, hab, hjl⟩ := mgI_of hj
    have hw16 : 4 * a + b < 16 := by omega
    show GJ (if sUp s b = true then dlv s a b ((sWy s (4 * a + b)).getD j (0, 0, fun _ => 0)) j else (- nI 4, s)).2
    split
    · have hm := getM_mem hjl
      have hbm := (H.1.1.2.2.2 _ hw16).2 _ hm
      have him := H.1.2.i8 _ hw16 _ hm
      generalize (sWy s (4 * a + b)).getD j (0, 0, fun _ => 0) = q at *
      unfold dlv
      split
      · rename_i h0
        have h240 := hbm.2.1 h0
        have G1 : GI (drp (kwn s b (q.2.1 / 60) q.2.2 4) (4 * a + b) j) := (H.1.xkwn hb (by omega) hbm.2.2.2).xdrp hw16
        exact ⟨G1.xtk hb (him h0).1, (WS.drp_ (H.2.of (s' := kwn s b (q.2.1 / 60) q.2.2 4) rfl)).of wy_tk⟩
      · have G1 : GI (drp (kwn s b a q.2.2 4) (4 * a + b) j) := (H.1.xkwn hb ha hbm.2.2.2).xdrp hw16
        have W1 : WS (drp (kwn s b a q.2.2 4) (4 * a + b) j) := WS.drp_ (H.2.of (s' := kwn s b a q.2.2 4) rfl)
        show GJ (if q.1 = 2 then ans (drp (kwn s b a q.2.2 4) (4 * a + b) j) b a q.2.2 else drp (kwn s b a q.2.2 4) (4 * a + b) j)
        split
        · refine ⟨G1.xans hb, ?_⟩
          unfold ans
          exact (WS.ansF_ _ _ W1).snd_ (fun _ => by show b = (4 * b + a) / 4; omega)
        · exact ⟨G1, W1⟩
    · exact H
/-! frames of the pair -/
theorem ML_fz {S : Nat → Prop} {ow : Nat → Nat} {g : Nat} {h h' : Hp} (M : ML g h) (F : Fz S ow h h') : ML g h' := by
  have hs := M.sz
  have hz := F.1
  have k_ := fun (q : Nat) (hq : q < sz h) => (F.kp hq).1
  have l_ := fun (q : Nat) (hq : q < sz h) => (F.kp hq).2
  have f_ := fun (f : Nat) (hf : ¬ muF f) => (F.im (q := g) (f := f) (by omega) hf).2
  unfold ML at *
  simp only [k_ g (by omega), k_ (g + 1) (by omega), k_ (g + 2) (by omega), k_ (g + 3) (by omega), k_ (g + 4) (by omega), k_ (g + 5) (by omega), k_ (g + 6) (by omega), k_ (g + 7) (by omega), k_ (g + 8) (by omega), k_ (g + 9) (by omega), k_ (g + 10) (by omega), k_ (g + 11) (by omega), k_ (g + 12) (by omega), k_ (g + 13) (by omega), k_ (g + 14) (by omega), k_ (g + 15) (by omega), k_ (g + 16) (by omega), k_ (g + 17) (by omega), k_ (g + 18) (by omega), k_ (g + 19) (by omega), k_ (g + 20) (by omega), k_ (g + 21) (by omega), k_ (g + 22) (by omega), k_ (g + 23) (by omega), l_ (g + 1) (by omega), l_ (g + 2) (by omega), l_ (g + 3) (by omega), l_ (g + 4) (by omega), l_ (g + 5) (by omega), l_ (g + 6) (by omega), l_ (g + 7) (by omega), l_ (g + 8) (by omega), l_ (g + 9) (by omega), l_ (g + 10) (by omega), l_ (g + 11) (by omega), l_ (g + 12) (by omega), l_ (g + 13) (by omega), l_ (g + 14) (by omega), l_ (g + 15) (by omega), l_ (g + 16) (by omega), l_ (g + 17) (by omega), l_ (g + 18) (by omega), l_ (g + 19) (by omega), l_ (g + 20) (by omega), l_ (g + 21) (by omega), l_ (g + 22) (by omega), l_ (g + 23) (by omega), f_ 288 (nmu (by decide)), f_ 289 (nmu (by decide)), f_ 290 (nmu (by decide)), f_ 291 (nmu (by decide)), f_ 292 (nmu (by decide)), f_ 293 (nmu (by decide)), f_ 294 (nmu (by decide)), f_ 295 (nmu (by decide)), f_ 296 (nmu (by decide)), f_ 297 (nmu (by decide)), f_ 298 (nmu (by decide)), f_ 299 (nmu (by decide)), f_ 300 (nmu (by decide)), f_ 301 (nmu (by decide)), f_ 302 (nmu (by decide)), f_ 303 (nmu (by decide)), f_ 304 (nmu (by decide)), f_ 305 (nmu (by decide)), f_ 306 (nmu (by decide)), f_ 307 (nmu (by decide)), f_ 308 (nmu (by decide)), f_ 310 (nmu (by decide)), f_ 311 (nmu (by decide))]
  exact ⟨M.1, by omega, M.2.2⟩
theorem CR_fz {x : Nat} {S : Nat → Prop} {ow oa : Nat → Nat} {la : Nat → Nat → Nat} {tx : Nat → Nat → List Nat} {h h' : Hp} {s : St} (C : CR ow oa la tx h x s) (F : Fz S ow h h') (h0 : ¬ S 0) (hc : ∀ q, Cb x q → ¬ S q) : CR ow oa la tx h' x s := ⟨C.fx.fz F Og.rf h0, fun o ho => (C.op o ho).fz F Og.rf h0, fun r hr => (C.rp r hr).fz (C.fx.r r hr) F Og.rf (fun q hq => hc q (bk_cb hr hq)) (rb_sz C.fx hr), fun w hw => (C.wy w hw).fz F Og.rf h0 (hc _ (wl_cb hw rfl))⟩
/-- the script -/
def Scr (bs L : Nat) (xs : Nat → Int32) (ow : Nat → Nat) (h : Hp) : Prop := bs < sz h ∧ ow bs = 0 ∧ kd h bs = 41 ∧ ln h bs = L ∧ aI h bs = xs
theorem Scr.fz {S : Nat → Prop} {bs L : Nat} {xs : Nat → Int32} {ow ow' : Nat → Nat} {h h' : Hp} (H : Scr bs L xs ow h) (F : Fz S ow h h') (O : Og (sz h) ow ow') (h0 : ¬ S 0) : Scr bs L xs ow' h' := by
  obtain ⟨h1, h2, h3, h4, h5⟩ := H
  have := F.1
  exact ⟨by omega, (O bs h1).trans h2, (F.kp h1).1.trans h3, (F.kp h1).2.trans h4, by rw [(F.un h1 (by rw [h2]; exact h0)).2.1]; exact h5⟩
/-- all that holds when c calls have been made -/
def LJ (bs x L c : Nat) (xs : Nat → Int32) (ow oa : Nat → Nat) (la : Nat → Nat → Nat) (tx : Nat → Nat → List Nat) (h : Hp) (s : St) : Prop := CR ow oa la tx h x s ∧ GJ s ∧ TA s tx ∧ ML (x + 115) h ∧ MR (x + 115) h s ∧ (∀ k, k ≤ 23 → ow (x + 115 + k) = x + 115) ∧ Scr bs L xs ow h ∧ sz h ≤ x + 139 + 64 * c + 2 * Ph s ∧ sl h ≤ 9098 + 12529 * c + 800 * Ph s
def LI (bs x L c : Nat) (xs : Nat → Int32) (h : Hp) : Prop := ∃ ow oa la tx s, LJ bs x L c xs ow oa la tx h s
theorem cb_0 {x : Nat} : ¬ Cb x 0 := by unfold Cb; omega
/-- after the class's call: the reference stands as it stood -/
theorem LJ.mid {bs x L c : Nat} {xs : Nat → Int32} {ow ow' oa : Nat → Nat} {la : Nat → Nat → Nat} {tx : Nat → Nat → List Nat} {h h' : Hp} {s s' : St} {K M : Nat} (H : LJ bs x L c xs ow oa la tx h s) (N : Nx x (Cb x) ow ow' h h' s s' K M) : ML (x + 115) h' ∧ MR (x + 115) h' s ∧ (∀ k, k ≤ 23 → ow' (x + 115 + k) = x + 115) ∧ Scr bs L xs ow' h' := by
  obtain ⟨h1, h2, h3, h4, h5, h6, h7, h8, h9⟩ := H
  obtain ⟨n1, n2, n3, n4⟩ := N
  have hs := h4.sz
  refine ⟨ML_fz h4 n1, MR_ext h5 (fun k k1 k2 => (n1.un (by omega) (by rw [h6 k (by omega)]; unfold Cb; omega)).2.1), fun k hk => (n2 _ (by omega)).trans (h6 k hk), h7.fz n1 n2 cb_0⟩
/-- after both calls -/
theorem LJ.nxt {bs x L c : Nat} {xs : Nat → Int32} {ow ow' oa oa' : Nat → Nat} {la la' : Nat → Nat → Nat} {tx tx' : Nat → Nat → List Nat} {h h' h'' : Hp} {s s' : St} (H : LJ bs x L c xs ow oa la tx h s) (N : Nx x (Cb x) ow ow' h h' s s' 64 12529) (C' : CR ow' oa' la' tx' h' x s') (T' : TA s' tx') (G' : GJ s') (F : Fr (x + 115) h' h'') (R : MR (x + 115) h'' s') : LI bs x L (c + 1) xs h'' := by
  obtain ⟨m1, m2, m3, m4⟩ := H.mid N
  obtain ⟨h1, h2, h3, h4, h5, h6, h7, h8, h9⟩ := H
  obtain ⟨n1, n2, n3, n4⟩ := N
  have FF : Fz (fun q => q = x + 115) ow' h' h'' := Fz_Fr F (fun k hk => m3 k hk)
  have z0 : ¬ ((fun q => q = x + 115) 0) := by show ¬ (0 = x + 115); omega
  refine ⟨ow', oa', la', tx', s', CR_fz C' FF z0 (fun q hq => by unfold Cb at hq; omega), G', T', F.ml m1, R, m3, m4.fz FF Og.rf z0, ?_, ?_⟩
  · rw [F.2.2.2.2.2.1]; omega
  · rw [F.2.2.2.2.2.2.1]; omega
/-- after two calls that only tell -/
theorem LJ.tld {bs x L c : Nat} {xs : Nat → Int32} {ow oa : Nat → Nat} {la : Nat → Nat → Nat} {tx : Nat → Nat → List Nat} {h h'' : Hp} {s : St} (H : LJ bs x L c xs ow oa la tx h s) (F : Fr (x + 115) h h'') (R : MR (x + 115) h'' s) : LI bs x L (c + 1) xs h'' := H.nxt (s' := s) (h' := h) (oa' := oa) (la' := la) (tx' := tx) (ow' := ow) Nx.rf H.1 H.2.2.1 H.2.1 F R
theorem LJ.up {bs x L c : Nat} {xs : Nat → Int32} {ow oa : Nat → Nat} {la : Nat → Nat → Nat} {tx : Nat → Nat → List Nat} {h : Hp} {s : St} (H : LJ bs x L c xs ow oa la tx h s) : LI bs x L (c + 1) xs h := H.tld Fr.rf H.2.2.2.2.1
