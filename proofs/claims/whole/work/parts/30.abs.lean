abbrev Mg : Type := Nat × Nat × (Nat → Nat)
abbrev St : Type := (Nat → Nat) × (Nat → Nat) × (Nat → Nat) × (Nat → Int32) × (Nat → Option Nat) × (Nat → Nat) × (Nat → Nat → Nat) × (Nat → Bool) × (Nat → Nat → Nat) × (Nat → Nat) × (Nat → List Nat) × (Nat → List Nat) × (Nat → Nat → Nat → Nat) × (Nat → List Mg)
def sMk (s : St) : Nat → Nat := s.1
def sKn (s : St) : Nat → Nat := s.2.1
def sTg (s : St) : Nat → Nat := s.2.2.1
def sVl (s : St) : Nat → Int32 := s.2.2.2.1
def sBh (s : St) : Nat → Option Nat := s.2.2.2.2.1
def sTm (s : St) : Nat → Nat := s.2.2.2.2.2.1
def sCk (s : St) : Nat → Nat → Nat := s.2.2.2.2.2.2.1
def sUp (s : St) : Nat → Bool := s.2.2.2.2.2.2.2.1
def sOw (s : St) : Nat → Nat → Nat := s.2.2.2.2.2.2.2.2.1
def sTi (s : St) : Nat → Nat := s.2.2.2.2.2.2.2.2.2.1
def sDn (s : St) : Nat → List Nat := s.2.2.2.2.2.2.2.2.2.2.1
def sWt (s : St) : Nat → List Nat := s.2.2.2.2.2.2.2.2.2.2.2.1
def sKw (s : St) : Nat → Nat → Nat → Nat := s.2.2.2.2.2.2.2.2.2.2.2.2.1
def sWy (s : St) : Nat → List Mg := s.2.2.2.2.2.2.2.2.2.2.2.2.2
def w_sMk (s : St) (v : Nat → Nat) : St := (v, sKn s, sTg s, sVl s, sBh s, sTm s, sCk s, sUp s, sOw s, sTi s, sDn s, sWt s, sKw s, sWy s)
def w_sKn (s : St) (v : Nat → Nat) : St := (sMk s, v, sTg s, sVl s, sBh s, sTm s, sCk s, sUp s, sOw s, sTi s, sDn s, sWt s, sKw s, sWy s)
def w_sTg (s : St) (v : Nat → Nat) : St := (sMk s, sKn s, v, sVl s, sBh s, sTm s, sCk s, sUp s, sOw s, sTi s, sDn s, sWt s, sKw s, sWy s)
def w_sVl (s : St) (v : Nat → Int32) : St := (sMk s, sKn s, sTg s, v, sBh s, sTm s, sCk s, sUp s, sOw s, sTi s, sDn s, sWt s, sKw s, sWy s)
def w_sBh (s : St) (v : Nat → Option Nat) : St := (sMk s, sKn s, sTg s, sVl s, v, sTm s, sCk s, sUp s, sOw s, sTi s, sDn s, sWt s, sKw s, sWy s)
def w_sTm (s : St) (v : Nat → Nat) : St := (sMk s, sKn s, sTg s, sVl s, sBh s, v, sCk s, sUp s, sOw s, sTi s, sDn s, sWt s, sKw s, sWy s)
def w_sCk (s : St) (v : Nat → Nat → Nat) : St := (sMk s, sKn s, sTg s, sVl s, sBh s, sTm s, v, sUp s, sOw s, sTi s, sDn s, sWt s, sKw s, sWy s)
def w_sUp (s : St) (v : Nat → Bool) : St := (sMk s, sKn s, sTg s, sVl s, sBh s, sTm s, sCk s, v, sOw s, sTi s, sDn s, sWt s, sKw s, sWy s)
def w_sOw (s : St) (v : Nat → Nat → Nat) : St := (sMk s, sKn s, sTg s, sVl s, sBh s, sTm s, sCk s, sUp s, v, sTi s, sDn s, sWt s, sKw s, sWy s)
def w_sTi (s : St) (v : Nat → Nat) : St := (sMk s, sKn s, sTg s, sVl s, sBh s, sTm s, sCk s, sUp s, sOw s, v, sDn s, sWt s, sKw s, sWy s)
def w_sDn (s : St) (v : Nat → List Nat) : St := (sMk s, sKn s, sTg s, sVl s, sBh s, sTm s, sCk s, sUp s, sOw s, sTi s, v, sWt s, sKw s, sWy s)
def w_sWt (s : St) (v : Nat → List Nat) : St := (sMk s, sKn s, sTg s, sVl s, sBh s, sTm s, sCk s, sUp s, sOw s, sTi s, sDn s, v, sKw s, sWy s)
def w_sKw (s : St) (v : Nat → Nat → Nat → Nat) : St := (sMk s, sKn s, sTg s, sVl s, sBh s, sTm s, sCk s, sUp s, sOw s, sTi s, sDn s, sWt s, v, sWy s)
def w_sWy (s : St) (v : Nat → List Mg) : St := (sMk s, sKn s, sTg s, sVl s, sBh s, sTm s, sCk s, sUp s, sOw s, sTi s, sDn s, sWt s, sKw s, v)
theorem sMk_wsMk (s : St) (v : Nat → Nat) : sMk (w_sMk s v) = v := rfl
theorem sKn_wsMk (s : St) (v : Nat → Nat) : sKn (w_sMk s v) = sKn s := rfl
theorem sTg_wsMk (s : St) (v : Nat → Nat) : sTg (w_sMk s v) = sTg s := rfl
theorem sVl_wsMk (s : St) (v : Nat → Nat) : sVl (w_sMk s v) = sVl s := rfl
theorem sBh_wsMk (s : St) (v : Nat → Nat) : sBh (w_sMk s v) = sBh s := rfl
theorem sTm_wsMk (s : St) (v : Nat → Nat) : sTm (w_sMk s v) = sTm s := rfl
theorem sCk_wsMk (s : St) (v : Nat → Nat) : sCk (w_sMk s v) = sCk s := rfl
theorem sUp_wsMk (s : St) (v : Nat → Nat) : sUp (w_sMk s v) = sUp s := rfl
theorem sOw_wsMk (s : St) (v : Nat → Nat) : sOw (w_sMk s v) = sOw s := rfl
theorem sTi_wsMk (s : St) (v : Nat → Nat) : sTi (w_sMk s v) = sTi s := rfl
theorem sDn_wsMk (s : St) (v : Nat → Nat) : sDn (w_sMk s v) = sDn s := rfl
theorem sWt_wsMk (s : St) (v : Nat → Nat) : sWt (w_sMk s v) = sWt s := rfl
theorem sKw_wsMk (s : St) (v : Nat → Nat) : sKw (w_sMk s v) = sKw s := rfl
theorem sWy_wsMk (s : St) (v : Nat → Nat) : sWy (w_sMk s v) = sWy s := rfl
theorem sMk_wsKn (s : St) (v : Nat → Nat) : sMk (w_sKn s v) = sMk s := rfl
theorem sKn_wsKn (s : St) (v : Nat → Nat) : sKn (w_sKn s v) = v := rfl
theorem sTg_wsKn (s : St) (v : Nat → Nat) : sTg (w_sKn s v) = sTg s := rfl
theorem sVl_wsKn (s : St) (v : Nat → Nat) : sVl (w_sKn s v) = sVl s := rfl
theorem sBh_wsKn (s : St) (v : Nat → Nat) : sBh (w_sKn s v) = sBh s := rfl
theorem sTm_wsKn (s : St) (v : Nat → Nat) : sTm (w_sKn s v) = sTm s := rfl
theorem sCk_wsKn (s : St) (v : Nat → Nat) : sCk (w_sKn s v) = sCk s := rfl
theorem sUp_wsKn (s : St) (v : Nat → Nat) : sUp (w_sKn s v) = sUp s := rfl
theorem sOw_wsKn (s : St) (v : Nat → Nat) : sOw (w_sKn s v) = sOw s := rfl
theorem sTi_wsKn (s : St) (v : Nat → Nat) : sTi (w_sKn s v) = sTi s := rfl
theorem sDn_wsKn (s : St) (v : Nat → Nat) : sDn (w_sKn s v) = sDn s := rfl
theorem sWt_wsKn (s : St) (v : Nat → Nat) : sWt (w_sKn s v) = sWt s := rfl
theorem sKw_wsKn (s : St) (v : Nat → Nat) : sKw (w_sKn s v) = sKw s := rfl
theorem sWy_wsKn (s : St) (v : Nat → Nat) : sWy (w_sKn s v) = sWy s := rfl
theorem sMk_wsTg (s : St) (v : Nat → Nat) : sMk (w_sTg s v) = sMk s := rfl
theorem sKn_wsTg (s : St) (v : Nat → Nat) : sKn (w_sTg s v) = sKn s := rfl
theorem sTg_wsTg (s : St) (v : Nat → Nat) : sTg (w_sTg s v) = v := rfl
theorem sVl_wsTg (s : St) (v : Nat → Nat) : sVl (w_sTg s v) = sVl s := rfl
theorem sBh_wsTg (s : St) (v : Nat → Nat) : sBh (w_sTg s v) = sBh s := rfl
theorem sTm_wsTg (s : St) (v : Nat → Nat) : sTm (w_sTg s v) = sTm s := rfl
theorem sCk_wsTg (s : St) (v : Nat → Nat) : sCk (w_sTg s v) = sCk s := rfl
theorem sUp_wsTg (s : St) (v : Nat → Nat) : sUp (w_sTg s v) = sUp s := rfl
theorem sOw_wsTg (s : St) (v : Nat → Nat) : sOw (w_sTg s v) = sOw s := rfl
theorem sTi_wsTg (s : St) (v : Nat → Nat) : sTi (w_sTg s v) = sTi s := rfl
theorem sDn_wsTg (s : St) (v : Nat → Nat) : sDn (w_sTg s v) = sDn s := rfl
theorem sWt_wsTg (s : St) (v : Nat → Nat) : sWt (w_sTg s v) = sWt s := rfl
theorem sKw_wsTg (s : St) (v : Nat → Nat) : sKw (w_sTg s v) = sKw s := rfl
theorem sWy_wsTg (s : St) (v : Nat → Nat) : sWy (w_sTg s v) = sWy s := rfl
theorem sMk_wsVl (s : St) (v : Nat → Int32) : sMk (w_sVl s v) = sMk s := rfl
theorem sKn_wsVl (s : St) (v : Nat → Int32) : sKn (w_sVl s v) = sKn s := rfl
theorem sTg_wsVl (s : St) (v : Nat → Int32) : sTg (w_sVl s v) = sTg s := rfl
theorem sVl_wsVl (s : St) (v : Nat → Int32) : sVl (w_sVl s v) = v := rfl
theorem sBh_wsVl (s : St) (v : Nat → Int32) : sBh (w_sVl s v) = sBh s := rfl
theorem sTm_wsVl (s : St) (v : Nat → Int32) : sTm (w_sVl s v) = sTm s := rfl
theorem sCk_wsVl (s : St) (v : Nat → Int32) : sCk (w_sVl s v) = sCk s := rfl
theorem sUp_wsVl (s : St) (v : Nat → Int32) : sUp (w_sVl s v) = sUp s := rfl
theorem sOw_wsVl (s : St) (v : Nat → Int32) : sOw (w_sVl s v) = sOw s := rfl
theorem sTi_wsVl (s : St) (v : Nat → Int32) : sTi (w_sVl s v) = sTi s := rfl
theorem sDn_wsVl (s : St) (v : Nat → Int32) : sDn (w_sVl s v) = sDn s := rfl
theorem sWt_wsVl (s : St) (v : Nat → Int32) : sWt (w_sVl s v) = sWt s := rfl
theorem sKw_wsVl (s : St) (v : Nat → Int32) : sKw (w_sVl s v) = sKw s := rfl
theorem sWy_wsVl (s : St) (v : Nat → Int32) : sWy (w_sVl s v) = sWy s := rfl
theorem sMk_wsBh (s : St) (v : Nat → Option Nat) : sMk (w_sBh s v) = sMk s := rfl
theorem sKn_wsBh (s : St) (v : Nat → Option Nat) : sKn (w_sBh s v) = sKn s := rfl
theorem sTg_wsBh (s : St) (v : Nat → Option Nat) : sTg (w_sBh s v) = sTg s := rfl
theorem sVl_wsBh (s : St) (v : Nat → Option Nat) : sVl (w_sBh s v) = sVl s := rfl
theorem sBh_wsBh (s : St) (v : Nat → Option Nat) : sBh (w_sBh s v) = v := rfl
theorem sTm_wsBh (s : St) (v : Nat → Option Nat) : sTm (w_sBh s v) = sTm s := rfl
theorem sCk_wsBh (s : St) (v : Nat → Option Nat) : sCk (w_sBh s v) = sCk s := rfl
theorem sUp_wsBh (s : St) (v : Nat → Option Nat) : sUp (w_sBh s v) = sUp s := rfl
theorem sOw_wsBh (s : St) (v : Nat → Option Nat) : sOw (w_sBh s v) = sOw s := rfl
theorem sTi_wsBh (s : St) (v : Nat → Option Nat) : sTi (w_sBh s v) = sTi s := rfl
theorem sDn_wsBh (s : St) (v : Nat → Option Nat) : sDn (w_sBh s v) = sDn s := rfl
theorem sWt_wsBh (s : St) (v : Nat → Option Nat) : sWt (w_sBh s v) = sWt s := rfl
theorem sKw_wsBh (s : St) (v : Nat → Option Nat) : sKw (w_sBh s v) = sKw s := rfl
theorem sWy_wsBh (s : St) (v : Nat → Option Nat) : sWy (w_sBh s v) = sWy s := rfl
theorem sMk_wsTm (s : St) (v : Nat → Nat) : sMk (w_sTm s v) = sMk s := rfl
theorem sKn_wsTm (s : St) (v : Nat → Nat) : sKn (w_sTm s v) = sKn s := rfl
theorem sTg_wsTm (s : St) (v : Nat → Nat) : sTg (w_sTm s v) = sTg s := rfl
theorem sVl_wsTm (s : St) (v : Nat → Nat) : sVl (w_sTm s v) = sVl s := rfl
theorem sBh_wsTm (s : St) (v : Nat → Nat) : sBh (w_sTm s v) = sBh s := rfl
theorem sTm_wsTm (s : St) (v : Nat → Nat) : sTm (w_sTm s v) = v := rfl
theorem sCk_wsTm (s : St) (v : Nat → Nat) : sCk (w_sTm s v) = sCk s := rfl
theorem sUp_wsTm (s : St) (v : Nat → Nat) : sUp (w_sTm s v) = sUp s := rfl
theorem sOw_wsTm (s : St) (v : Nat → Nat) : sOw (w_sTm s v) = sOw s := rfl
theorem sTi_wsTm (s : St) (v : Nat → Nat) : sTi (w_sTm s v) = sTi s := rfl
theorem sDn_wsTm (s : St) (v : Nat → Nat) : sDn (w_sTm s v) = sDn s := rfl
theorem sWt_wsTm (s : St) (v : Nat → Nat) : sWt (w_sTm s v) = sWt s := rfl
theorem sKw_wsTm (s : St) (v : Nat → Nat) : sKw (w_sTm s v) = sKw s := rfl
theorem sWy_wsTm (s : St) (v : Nat → Nat) : sWy (w_sTm s v) = sWy s := rfl
theorem sMk_wsCk (s : St) (v : Nat → Nat → Nat) : sMk (w_sCk s v) = sMk s := rfl
theorem sKn_wsCk (s : St) (v : Nat → Nat → Nat) : sKn (w_sCk s v) = sKn s := rfl
theorem sTg_wsCk (s : St) (v : Nat → Nat → Nat) : sTg (w_sCk s v) = sTg s := rfl
theorem sVl_wsCk (s : St) (v : Nat → Nat → Nat) : sVl (w_sCk s v) = sVl s := rfl
theorem sBh_wsCk (s : St) (v : Nat → Nat → Nat) : sBh (w_sCk s v) = sBh s := rfl
theorem sTm_wsCk (s : St) (v : Nat → Nat → Nat) : sTm (w_sCk s v) = sTm s := rfl
theorem sCk_wsCk (s : St) (v : Nat → Nat → Nat) : sCk (w_sCk s v) = v := rfl
theorem sUp_wsCk (s : St) (v : Nat → Nat → Nat) : sUp (w_sCk s v) = sUp s := rfl
theorem sOw_wsCk (s : St) (v : Nat → Nat → Nat) : sOw (w_sCk s v) = sOw s := rfl
theorem sTi_wsCk (s : St) (v : Nat → Nat → Nat) : sTi (w_sCk s v) = sTi s := rfl
theorem sDn_wsCk (s : St) (v : Nat → Nat → Nat) : sDn (w_sCk s v) = sDn s := rfl
theorem sWt_wsCk (s : St) (v : Nat → Nat → Nat) : sWt (w_sCk s v) = sWt s := rfl
theorem sKw_wsCk (s : St) (v : Nat → Nat → Nat) : sKw (w_sCk s v) = sKw s := rfl
theorem sWy_wsCk (s : St) (v : Nat → Nat → Nat) : sWy (w_sCk s v) = sWy s := rfl
theorem sMk_wsUp (s : St) (v : Nat → Bool) : sMk (w_sUp s v) = sMk s := rfl
theorem sKn_wsUp (s : St) (v : Nat → Bool) : sKn (w_sUp s v) = sKn s := rfl
theorem sTg_wsUp (s : St) (v : Nat → Bool) : sTg (w_sUp s v) = sTg s := rfl
theorem sVl_wsUp (s : St) (v : Nat → Bool) : sVl (w_sUp s v) = sVl s := rfl
theorem sBh_wsUp (s : St) (v : Nat → Bool) : sBh (w_sUp s v) = sBh s := rfl
theorem sTm_wsUp (s : St) (v : Nat → Bool) : sTm (w_sUp s v) = sTm s := rfl
theorem sCk_wsUp (s : St) (v : Nat → Bool) : sCk (w_sUp s v) = sCk s := rfl
theorem sUp_wsUp (s : St) (v : Nat → Bool) : sUp (w_sUp s v) = v := rfl
theorem sOw_wsUp (s : St) (v : Nat → Bool) : sOw (w_sUp s v) = sOw s := rfl
theorem sTi_wsUp (s : St) (v : Nat → Bool) : sTi (w_sUp s v) = sTi s := rfl
theorem sDn_wsUp (s : St) (v : Nat → Bool) : sDn (w_sUp s v) = sDn s := rfl
theorem sWt_wsUp (s : St) (v : Nat → Bool) : sWt (w_sUp s v) = sWt s := rfl
theorem sKw_wsUp (s : St) (v : Nat → Bool) : sKw (w_sUp s v) = sKw s := rfl
theorem sWy_wsUp (s : St) (v : Nat → Bool) : sWy (w_sUp s v) = sWy s := rfl
theorem sMk_wsOw (s : St) (v : Nat → Nat → Nat) : sMk (w_sOw s v) = sMk s := rfl
theorem sKn_wsOw (s : St) (v : Nat → Nat → Nat) : sKn (w_sOw s v) = sKn s := rfl
theorem sTg_wsOw (s : St) (v : Nat → Nat → Nat) : sTg (w_sOw s v) = sTg s := rfl
theorem sVl_wsOw (s : St) (v : Nat → Nat → Nat) : sVl (w_sOw s v) = sVl s := rfl
theorem sBh_wsOw (s : St) (v : Nat → Nat → Nat) : sBh (w_sOw s v) = sBh s := rfl
theorem sTm_wsOw (s : St) (v : Nat → Nat → Nat) : sTm (w_sOw s v) = sTm s := rfl
theorem sCk_wsOw (s : St) (v : Nat → Nat → Nat) : sCk (w_sOw s v) = sCk s := rfl
theorem sUp_wsOw (s : St) (v : Nat → Nat → Nat) : sUp (w_sOw s v) = sUp s := rfl
theorem sOw_wsOw (s : St) (v : Nat → Nat → Nat) : sOw (w_sOw s v) = v := rfl
theorem sTi_wsOw (s : St) (v : Nat → Nat → Nat) : sTi (w_sOw s v) = sTi s := rfl
theorem sDn_wsOw (s : St) (v : Nat → Nat → Nat) : sDn (w_sOw s v) = sDn s := rfl
theorem sWt_wsOw (s : St) (v : Nat → Nat → Nat) : sWt (w_sOw s v) = sWt s := rfl
theorem sKw_wsOw (s : St) (v : Nat → Nat → Nat) : sKw (w_sOw s v) = sKw s := rfl
theorem sWy_wsOw (s : St) (v : Nat → Nat → Nat) : sWy (w_sOw s v) = sWy s := rfl
theorem sMk_wsTi (s : St) (v : Nat → Nat) : sMk (w_sTi s v) = sMk s := rfl
theorem sKn_wsTi (s : St) (v : Nat → Nat) : sKn (w_sTi s v) = sKn s := rfl
theorem sTg_wsTi (s : St) (v : Nat → Nat) : sTg (w_sTi s v) = sTg s := rfl
theorem sVl_wsTi (s : St) (v : Nat → Nat) : sVl (w_sTi s v) = sVl s := rfl
theorem sBh_wsTi (s : St) (v : Nat → Nat) : sBh (w_sTi s v) = sBh s := rfl
theorem sTm_wsTi (s : St) (v : Nat → Nat) : sTm (w_sTi s v) = sTm s := rfl
theorem sCk_wsTi (s : St) (v : Nat → Nat) : sCk (w_sTi s v) = sCk s := rfl
theorem sUp_wsTi (s : St) (v : Nat → Nat) : sUp (w_sTi s v) = sUp s := rfl
theorem sOw_wsTi (s : St) (v : Nat → Nat) : sOw (w_sTi s v) = sOw s := rfl
theorem sTi_wsTi (s : St) (v : Nat → Nat) : sTi (w_sTi s v) = v := rfl
theorem sDn_wsTi (s : St) (v : Nat → Nat) : sDn (w_sTi s v) = sDn s := rfl
theorem sWt_wsTi (s : St) (v : Nat → Nat) : sWt (w_sTi s v) = sWt s := rfl
theorem sKw_wsTi (s : St) (v : Nat → Nat) : sKw (w_sTi s v) = sKw s := rfl
theorem sWy_wsTi (s : St) (v : Nat → Nat) : sWy (w_sTi s v) = sWy s := rfl
theorem sMk_wsDn (s : St) (v : Nat → List Nat) : sMk (w_sDn s v) = sMk s := rfl
theorem sKn_wsDn (s : St) (v : Nat → List Nat) : sKn (w_sDn s v) = sKn s := rfl
theorem sTg_wsDn (s : St) (v : Nat → List Nat) : sTg (w_sDn s v) = sTg s := rfl
theorem sVl_wsDn (s : St) (v : Nat → List Nat) : sVl (w_sDn s v) = sVl s := rfl
theorem sBh_wsDn (s : St) (v : Nat → List Nat) : sBh (w_sDn s v) = sBh s := rfl
theorem sTm_wsDn (s : St) (v : Nat → List Nat) : sTm (w_sDn s v) = sTm s := rfl
theorem sCk_wsDn (s : St) (v : Nat → List Nat) : sCk (w_sDn s v) = sCk s := rfl
theorem sUp_wsDn (s : St) (v : Nat → List Nat) : sUp (w_sDn s v) = sUp s := rfl
theorem sOw_wsDn (s : St) (v : Nat → List Nat) : sOw (w_sDn s v) = sOw s := rfl
theorem sTi_wsDn (s : St) (v : Nat → List Nat) : sTi (w_sDn s v) = sTi s := rfl
theorem sDn_wsDn (s : St) (v : Nat → List Nat) : sDn (w_sDn s v) = v := rfl
theorem sWt_wsDn (s : St) (v : Nat → List Nat) : sWt (w_sDn s v) = sWt s := rfl
theorem sKw_wsDn (s : St) (v : Nat → List Nat) : sKw (w_sDn s v) = sKw s := rfl
theorem sWy_wsDn (s : St) (v : Nat → List Nat) : sWy (w_sDn s v) = sWy s := rfl
theorem sMk_wsWt (s : St) (v : Nat → List Nat) : sMk (w_sWt s v) = sMk s := rfl
theorem sKn_wsWt (s : St) (v : Nat → List Nat) : sKn (w_sWt s v) = sKn s := rfl
theorem sTg_wsWt (s : St) (v : Nat → List Nat) : sTg (w_sWt s v) = sTg s := rfl
theorem sVl_wsWt (s : St) (v : Nat → List Nat) : sVl (w_sWt s v) = sVl s := rfl
theorem sBh_wsWt (s : St) (v : Nat → List Nat) : sBh (w_sWt s v) = sBh s := rfl
theorem sTm_wsWt (s : St) (v : Nat → List Nat) : sTm (w_sWt s v) = sTm s := rfl
theorem sCk_wsWt (s : St) (v : Nat → List Nat) : sCk (w_sWt s v) = sCk s := rfl
theorem sUp_wsWt (s : St) (v : Nat → List Nat) : sUp (w_sWt s v) = sUp s := rfl
theorem sOw_wsWt (s : St) (v : Nat → List Nat) : sOw (w_sWt s v) = sOw s := rfl
theorem sTi_wsWt (s : St) (v : Nat → List Nat) : sTi (w_sWt s v) = sTi s := rfl
theorem sDn_wsWt (s : St) (v : Nat → List Nat) : sDn (w_sWt s v) = sDn s := rfl
theorem sWt_wsWt (s : St) (v : Nat → List Nat) : sWt (w_sWt s v) = v := rfl
theorem sKw_wsWt (s : St) (v : Nat → List Nat) : sKw (w_sWt s v) = sKw s := rfl
theorem sWy_wsWt (s : St) (v : Nat → List Nat) : sWy (w_sWt s v) = sWy s := rfl
theorem sMk_wsKw (s : St) (v : Nat → Nat → Nat → Nat) : sMk (w_sKw s v) = sMk s := rfl
theorem sKn_wsKw (s : St) (v : Nat → Nat → Nat → Nat) : sKn (w_sKw s v) = sKn s := rfl
theorem sTg_wsKw (s : St) (v : Nat → Nat → Nat → Nat) : sTg (w_sKw s v) = sTg s := rfl
theorem sVl_wsKw (s : St) (v : Nat → Nat → Nat → Nat) : sVl (w_sKw s v) = sVl s := rfl
theorem sBh_wsKw (s : St) (v : Nat → Nat → Nat → Nat) : sBh (w_sKw s v) = sBh s := rfl
theorem sTm_wsKw (s : St) (v : Nat → Nat → Nat → Nat) : sTm (w_sKw s v) = sTm s := rfl
theorem sCk_wsKw (s : St) (v : Nat → Nat → Nat → Nat) : sCk (w_sKw s v) = sCk s := rfl
theorem sUp_wsKw (s : St) (v : Nat → Nat → Nat → Nat) : sUp (w_sKw s v) = sUp s := rfl
theorem sOw_wsKw (s : St) (v : Nat → Nat → Nat → Nat) : sOw (w_sKw s v) = sOw s := rfl
theorem sTi_wsKw (s : St) (v : Nat → Nat → Nat → Nat) : sTi (w_sKw s v) = sTi s := rfl
theorem sDn_wsKw (s : St) (v : Nat → Nat → Nat → Nat) : sDn (w_sKw s v) = sDn s := rfl
theorem sWt_wsKw (s : St) (v : Nat → Nat → Nat → Nat) : sWt (w_sKw s v) = sWt s := rfl
theorem sKw_wsKw (s : St) (v : Nat → Nat → Nat → Nat) : sKw (w_sKw s v) = v := rfl
theorem sWy_wsKw (s : St) (v : Nat → Nat → Nat → Nat) : sWy (w_sKw s v) = sWy s := rfl
theorem sMk_wsWy (s : St) (v : Nat → List Mg) : sMk (w_sWy s v) = sMk s := rfl
theorem sKn_wsWy (s : St) (v : Nat → List Mg) : sKn (w_sWy s v) = sKn s := rfl
theorem sTg_wsWy (s : St) (v : Nat → List Mg) : sTg (w_sWy s v) = sTg s := rfl
theorem sVl_wsWy (s : St) (v : Nat → List Mg) : sVl (w_sWy s v) = sVl s := rfl
theorem sBh_wsWy (s : St) (v : Nat → List Mg) : sBh (w_sWy s v) = sBh s := rfl
theorem sTm_wsWy (s : St) (v : Nat → List Mg) : sTm (w_sWy s v) = sTm s := rfl
theorem sCk_wsWy (s : St) (v : Nat → List Mg) : sCk (w_sWy s v) = sCk s := rfl
theorem sUp_wsWy (s : St) (v : Nat → List Mg) : sUp (w_sWy s v) = sUp s := rfl
theorem sOw_wsWy (s : St) (v : Nat → List Mg) : sOw (w_sWy s v) = sOw s := rfl
theorem sTi_wsWy (s : St) (v : Nat → List Mg) : sTi (w_sWy s v) = sTi s := rfl
theorem sDn_wsWy (s : St) (v : Nat → List Mg) : sDn (w_sWy s v) = sDn s := rfl
theorem sWt_wsWy (s : St) (v : Nat → List Mg) : sWt (w_sWy s v) = sWt s := rfl
theorem sKw_wsWy (s : St) (v : Nat → List Mg) : sKw (w_sWy s v) = sKw s := rfl
theorem sWy_wsWy (s : St) (v : Nat → List Mg) : sWy (w_sWy s v) = v := rfl
/-- a function changed at one place -/
def fu {α : Type} (f : Nat → α) (k : Nat) (v : α) : Nat → α := fun j => if j = k then v else f j
theorem fu_at {α : Type} (f : Nat → α) (k : Nat) (v : α) (j : Nat) : fu f k v j = if j = k then v else f j := rfl
def nb (b : Bool) : Nat := if b = true then 1 else 0
theorem nb_le (b : Bool) : nb b ≤ 1 := by cases b <;> decide
def bhI (p : Option Nat) : Int32 := match p with
  | none => - nI 1
  | some q => nI q
/-! the reference: its object at g, its arrays behind it -/
def ML (g : Nat) (h : Hp) : Prop := kd h g = 10 ∧ g + 24 ≤ sz h ∧ (fR h 288 g = some (g + 1) ∧ kd h (g + 1) = 20 ∧ ln h (g + 1) = 4) ∧ (fR h 289 g = some (g + 2) ∧ kd h (g + 2) = 20 ∧ ln h (g + 2) = 240) ∧ (fR h 290 g = some (g + 3) ∧ kd h (g + 3) = 20 ∧ ln h (g + 3) = 240) ∧ (fR h 291 g = some (g + 4) ∧ kd h (g + 4) = 20 ∧ ln h (g + 4) = 240) ∧ (fR h 292 g = some (g + 5) ∧ kd h (g + 5) = 20 ∧ ln h (g + 5) = 240) ∧ (fR h 293 g = some (g + 6) ∧ kd h (g + 6) = 20 ∧ ln h (g + 6) = 240) ∧ (fR h 294 g = some (g + 7) ∧ kd h (g + 7) = 20 ∧ ln h (g + 7) = 960) ∧ (fR h 295 g = some (g + 8) ∧ kd h (g + 8) = 21 ∧ ln h (g + 8) = 4) ∧ (fR h 296 g = some (g + 9) ∧ kd h (g + 9) = 20 ∧ ln h (g + 9) = 16) ∧ (fR h 297 g = some (g + 10) ∧ kd h (g + 10) = 20 ∧ ln h (g + 10) = 4) ∧ (fR h 298 g = some (g + 11) ∧ kd h (g + 11) = 20 ∧ ln h (g + 11) = 4) ∧ (fR h 299 g = some (g + 12) ∧ kd h (g + 12) = 20 ∧ ln h (g + 12) = 960) ∧ (fR h 300 g = some (g + 13) ∧ kd h (g + 13) = 21 ∧ ln h (g + 13) = 960) ∧ (fR h 301 g = some (g + 14) ∧ kd h (g + 14) = 20 ∧ ln h (g + 14) = 4) ∧ (fR h 302 g = some (g + 15) ∧ kd h (g + 15) = 20 ∧ ln h (g + 15) = 960) ∧ (fR h 303 g = some (g + 16) ∧ kd h (g + 16) = 20 ∧ ln h (g + 16) = 64) ∧ (fR h 304 g = some (g + 17) ∧ kd h (g + 17) = 20 ∧ ln h (g + 17) = 16) ∧ (fR h 305 g = some (g + 18) ∧ kd h (g + 18) = 20 ∧ ln h (g + 18) = 480) ∧ (fR h 306 g = some (g + 19) ∧ kd h (g + 19) = 20 ∧ ln h (g + 19) = 480) ∧ (fR h 307 g = some (g + 20) ∧ kd h (g + 20) = 20 ∧ ln h (g + 20) = 1920) ∧ (fR h 308 g = some (g + 21) ∧ kd h (g + 21) = 20 ∧ ln h (g + 21) = 240) ∧ (fR h 310 g = some (g + 22) ∧ kd h (g + 22) = 20 ∧ ln h (g + 22) = 480) ∧ (fR h 311 g = some (g + 23) ∧ kd h (g + 23) = 20 ∧ ln h (g + 23) = 4)
theorem ML.k0 {g : Nat} {h : Hp} (H : ML g h) : kd h g = 10 := H.1
theorem ML.sz {g : Nat} {h : Hp} (H : ML g h) : g + 24 ≤ sz h := H.2.1
theorem ML.f1 {g : Nat} {h : Hp} (H : ML g h) : fR h 288 g = some (g + 1) := H.2.2.1.1
theorem ML.k1 {g : Nat} {h : Hp} (H : ML g h) : kd h (g + 1) = 20 := H.2.2.1.2.1
theorem ML.l1 {g : Nat} {h : Hp} (H : ML g h) : ln h (g + 1) = 4 := H.2.2.1.2.2
theorem ML.f2 {g : Nat} {h : Hp} (H : ML g h) : fR h 289 g = some (g + 2) := H.2.2.2.1.1
theorem ML.k2 {g : Nat} {h : Hp} (H : ML g h) : kd h (g + 2) = 20 := H.2.2.2.1.2.1
theorem ML.l2 {g : Nat} {h : Hp} (H : ML g h) : ln h (g + 2) = 240 := H.2.2.2.1.2.2
theorem ML.f3 {g : Nat} {h : Hp} (H : ML g h) : fR h 290 g = some (g + 3) := H.2.2.2.2.1.1
theorem ML.k3 {g : Nat} {h : Hp} (H : ML g h) : kd h (g + 3) = 20 := H.2.2.2.2.1.2.1
theorem ML.l3 {g : Nat} {h : Hp} (H : ML g h) : ln h (g + 3) = 240 := H.2.2.2.2.1.2.2
theorem ML.f4 {g : Nat} {h : Hp} (H : ML g h) : fR h 291 g = some (g + 4) := H.2.2.2.2.2.1.1
theorem ML.k4 {g : Nat} {h : Hp} (H : ML g h) : kd h (g + 4) = 20 := H.2.2.2.2.2.1.2.1
theorem ML.l4 {g : Nat} {h : Hp} (H : ML g h) : ln h (g + 4) = 240 := H.2.2.2.2.2.1.2.2
theorem ML.f5 {g : Nat} {h : Hp} (H : ML g h) : fR h 292 g = some (g + 5) := H.2.2.2.2.2.2.1.1
theorem ML.k5 {g : Nat} {h : Hp} (H : ML g h) : kd h (g + 5) = 20 := H.2.2.2.2.2.2.1.2.1
theorem ML.l5 {g : Nat} {h : Hp} (H : ML g h) : ln h (g + 5) = 240 := H.2.2.2.2.2.2.1.2.2
theorem ML.f6 {g : Nat} {h : Hp} (H : ML g h) : fR h 293 g = some (g + 6) := H.2.2.2.2.2.2.2.1.1
theorem ML.k6 {g : Nat} {h : Hp} (H : ML g h) : kd h (g + 6) = 20 := H.2.2.2.2.2.2.2.1.2.1
theorem ML.l6 {g : Nat} {h : Hp} (H : ML g h) : ln h (g + 6) = 240 := H.2.2.2.2.2.2.2.1.2.2
theorem ML.f7 {g : Nat} {h : Hp} (H : ML g h) : fR h 294 g = some (g + 7) := H.2.2.2.2.2.2.2.2.1.1
theorem ML.k7 {g : Nat} {h : Hp} (H : ML g h) : kd h (g + 7) = 20 := H.2.2.2.2.2.2.2.2.1.2.1
theorem ML.l7 {g : Nat} {h : Hp} (H : ML g h) : ln h (g + 7) = 960 := H.2.2.2.2.2.2.2.2.1.2.2
theorem ML.f8 {g : Nat} {h : Hp} (H : ML g h) : fR h 295 g = some (g + 8) := H.2.2.2.2.2.2.2.2.2.1.1
theorem ML.k8 {g : Nat} {h : Hp} (H : ML g h) : kd h (g + 8) = 21 := H.2.2.2.2.2.2.2.2.2.1.2.1
theorem ML.l8 {g : Nat} {h : Hp} (H : ML g h) : ln h (g + 8) = 4 := H.2.2.2.2.2.2.2.2.2.1.2.2
theorem ML.f9 {g : Nat} {h : Hp} (H : ML g h) : fR h 296 g = some (g + 9) := H.2.2.2.2.2.2.2.2.2.2.1.1
theorem ML.k9 {g : Nat} {h : Hp} (H : ML g h) : kd h (g + 9) = 20 := H.2.2.2.2.2.2.2.2.2.2.1.2.1
theorem ML.l9 {g : Nat} {h : Hp} (H : ML g h) : ln h (g + 9) = 16 := H.2.2.2.2.2.2.2.2.2.2.1.2.2
theorem ML.f10 {g : Nat} {h : Hp} (H : ML g h) : fR h 297 g = some (g + 10) := H.2.2.2.2.2.2.2.2.2.2.2.1.1
theorem ML.k10 {g : Nat} {h : Hp} (H : ML g h) : kd h (g + 10) = 20 := H.2.2.2.2.2.2.2.2.2.2.2.1.2.1
theorem ML.l10 {g : Nat} {h : Hp} (H : ML g h) : ln h (g + 10) = 4 := H.2.2.2.2.2.2.2.2.2.2.2.1.2.2
theorem ML.f11 {g : Nat} {h : Hp} (H : ML g h) : fR h 298 g = some (g + 11) := H.2.2.2.2.2.2.2.2.2.2.2.2.1.1
theorem ML.k11 {g : Nat} {h : Hp} (H : ML g h) : kd h (g + 11) = 20 := H.2.2.2.2.2.2.2.2.2.2.2.2.1.2.1
theorem ML.l11 {g : Nat} {h : Hp} (H : ML g h) : ln h (g + 11) = 4 := H.2.2.2.2.2.2.2.2.2.2.2.2.1.2.2
theorem ML.f12 {g : Nat} {h : Hp} (H : ML g h) : fR h 299 g = some (g + 12) := H.2.2.2.2.2.2.2.2.2.2.2.2.2.1.1
theorem ML.k12 {g : Nat} {h : Hp} (H : ML g h) : kd h (g + 12) = 20 := H.2.2.2.2.2.2.2.2.2.2.2.2.2.1.2.1
theorem ML.l12 {g : Nat} {h : Hp} (H : ML g h) : ln h (g + 12) = 960 := H.2.2.2.2.2.2.2.2.2.2.2.2.2.1.2.2
theorem ML.f13 {g : Nat} {h : Hp} (H : ML g h) : fR h 300 g = some (g + 13) := H.2.2.2.2.2.2.2.2.2.2.2.2.2.2.1.1
theorem ML.k13 {g : Nat} {h : Hp} (H : ML g h) : kd h (g + 13) = 21 := H.2.2.2.2.2.2.2.2.2.2.2.2.2.2.1.2.1
theorem ML.l13 {g : Nat} {h : Hp} (H : ML g h) : ln h (g + 13) = 960 := H.2.2.2.2.2.2.2.2.2.2.2.2.2.2.1.2.2
theorem ML.f14 {g : Nat} {h : Hp} (H : ML g h) : fR h 301 g = some (g + 14) := H.2.2.2.2.2.2.2.2.2.2.2.2.2.2.2.1.1
theorem ML.k14 {g : Nat} {h : Hp} (H : ML g h) : kd h (g + 14) = 20 := H.2.2.2.2.2.2.2.2.2.2.2.2.2.2.2.1.2.1
theorem ML.l14 {g : Nat} {h : Hp} (H : ML g h) : ln h (g + 14) = 4 := H.2.2.2.2.2.2.2.2.2.2.2.2.2.2.2.1.2.2
theorem ML.f15 {g : Nat} {h : Hp} (H : ML g h) : fR h 302 g = some (g + 15) := H.2.2.2.2.2.2.2.2.2.2.2.2.2.2.2.2.1.1
theorem ML.k15 {g : Nat} {h : Hp} (H : ML g h) : kd h (g + 15) = 20 := H.2.2.2.2.2.2.2.2.2.2.2.2.2.2.2.2.1.2.1
theorem ML.l15 {g : Nat} {h : Hp} (H : ML g h) : ln h (g + 15) = 960 := H.2.2.2.2.2.2.2.2.2.2.2.2.2.2.2.2.1.2.2
theorem ML.f16 {g : Nat} {h : Hp} (H : ML g h) : fR h 303 g = some (g + 16) := H.2.2.2.2.2.2.2.2.2.2.2.2.2.2.2.2.2.1.1
theorem ML.k16 {g : Nat} {h : Hp} (H : ML g h) : kd h (g + 16) = 20 := H.2.2.2.2.2.2.2.2.2.2.2.2.2.2.2.2.2.1.2.1
theorem ML.l16 {g : Nat} {h : Hp} (H : ML g h) : ln h (g + 16) = 64 := H.2.2.2.2.2.2.2.2.2.2.2.2.2.2.2.2.2.1.2.2
theorem ML.f17 {g : Nat} {h : Hp} (H : ML g h) : fR h 304 g = some (g + 17) := H.2.2.2.2.2.2.2.2.2.2.2.2.2.2.2.2.2.2.1.1
theorem ML.k17 {g : Nat} {h : Hp} (H : ML g h) : kd h (g + 17) = 20 := H.2.2.2.2.2.2.2.2.2.2.2.2.2.2.2.2.2.2.1.2.1
theorem ML.l17 {g : Nat} {h : Hp} (H : ML g h) : ln h (g + 17) = 16 := H.2.2.2.2.2.2.2.2.2.2.2.2.2.2.2.2.2.2.1.2.2
theorem ML.f18 {g : Nat} {h : Hp} (H : ML g h) : fR h 305 g = some (g + 18) := H.2.2.2.2.2.2.2.2.2.2.2.2.2.2.2.2.2.2.2.1.1
theorem ML.k18 {g : Nat} {h : Hp} (H : ML g h) : kd h (g + 18) = 20 := H.2.2.2.2.2.2.2.2.2.2.2.2.2.2.2.2.2.2.2.1.2.1
theorem ML.l18 {g : Nat} {h : Hp} (H : ML g h) : ln h (g + 18) = 480 := H.2.2.2.2.2.2.2.2.2.2.2.2.2.2.2.2.2.2.2.1.2.2
theorem ML.f19 {g : Nat} {h : Hp} (H : ML g h) : fR h 306 g = some (g + 19) := H.2.2.2.2.2.2.2.2.2.2.2.2.2.2.2.2.2.2.2.2.1.1
theorem ML.k19 {g : Nat} {h : Hp} (H : ML g h) : kd h (g + 19) = 20 := H.2.2.2.2.2.2.2.2.2.2.2.2.2.2.2.2.2.2.2.2.1.2.1
theorem ML.l19 {g : Nat} {h : Hp} (H : ML g h) : ln h (g + 19) = 480 := H.2.2.2.2.2.2.2.2.2.2.2.2.2.2.2.2.2.2.2.2.1.2.2
theorem ML.f20 {g : Nat} {h : Hp} (H : ML g h) : fR h 307 g = some (g + 20) := H.2.2.2.2.2.2.2.2.2.2.2.2.2.2.2.2.2.2.2.2.2.1.1
theorem ML.k20 {g : Nat} {h : Hp} (H : ML g h) : kd h (g + 20) = 20 := H.2.2.2.2.2.2.2.2.2.2.2.2.2.2.2.2.2.2.2.2.2.1.2.1
theorem ML.l20 {g : Nat} {h : Hp} (H : ML g h) : ln h (g + 20) = 1920 := H.2.2.2.2.2.2.2.2.2.2.2.2.2.2.2.2.2.2.2.2.2.1.2.2
theorem ML.f21 {g : Nat} {h : Hp} (H : ML g h) : fR h 308 g = some (g + 21) := H.2.2.2.2.2.2.2.2.2.2.2.2.2.2.2.2.2.2.2.2.2.2.1.1
theorem ML.k21 {g : Nat} {h : Hp} (H : ML g h) : kd h (g + 21) = 20 := H.2.2.2.2.2.2.2.2.2.2.2.2.2.2.2.2.2.2.2.2.2.2.1.2.1
theorem ML.l21 {g : Nat} {h : Hp} (H : ML g h) : ln h (g + 21) = 240 := H.2.2.2.2.2.2.2.2.2.2.2.2.2.2.2.2.2.2.2.2.2.2.1.2.2
theorem ML.f22 {g : Nat} {h : Hp} (H : ML g h) : fR h 310 g = some (g + 22) := H.2.2.2.2.2.2.2.2.2.2.2.2.2.2.2.2.2.2.2.2.2.2.2.1.1
theorem ML.k22 {g : Nat} {h : Hp} (H : ML g h) : kd h (g + 22) = 20 := H.2.2.2.2.2.2.2.2.2.2.2.2.2.2.2.2.2.2.2.2.2.2.2.1.2.1
theorem ML.l22 {g : Nat} {h : Hp} (H : ML g h) : ln h (g + 22) = 480 := H.2.2.2.2.2.2.2.2.2.2.2.2.2.2.2.2.2.2.2.2.2.2.2.1.2.2
theorem ML.f23 {g : Nat} {h : Hp} (H : ML g h) : fR h 311 g = some (g + 23) := H.2.2.2.2.2.2.2.2.2.2.2.2.2.2.2.2.2.2.2.2.2.2.2.2.1
theorem ML.k23 {g : Nat} {h : Hp} (H : ML g h) : kd h (g + 23) = 20 := H.2.2.2.2.2.2.2.2.2.2.2.2.2.2.2.2.2.2.2.2.2.2.2.2.2.1
theorem ML.l23 {g : Nat} {h : Hp} (H : ML g h) : ln h (g + 23) = 4 := H.2.2.2.2.2.2.2.2.2.2.2.2.2.2.2.2.2.2.2.2.2.2.2.2.2.2
theorem ML_waI {g : Nat} {h : Hp} {a j : Nat} {v : Int32} : ML g (waI h a j v) = ML g h := rfl
theorem ML_wfI {g : Nat} {h : Hp} {a j : Nat} {v : Int32} : ML g (wfI h a j v) = ML g h := rfl
/-- the reference holds s -/
def MR (g : Nat) (h : Hp) (s : St) : Prop := (∀ r, r < 4 → aI h (g + 1) r = nI (sMk s r)) ∧ (∀ o, o < 240 → aI h (g + 2) o = nI (sKn s o)) ∧ (∀ o, o < 240 → aI h (g + 3) o = nI (sTg s o)) ∧ (∀ o, o < 240 → aI h (g + 4) o = sVl s o) ∧ (∀ o, o < 240 → aI h (g + 5) o = bhI (sBh s o)) ∧ (∀ o, o < 240 → aI h (g + 6) o = nI (sTm s o)) ∧ (∀ o j, o < 240 → j < 4 → aI h (g + 7) (4 * o + j) = nI (sCk s o j)) ∧ (∀ r, r < 4 → aI h (g + 8) r = nI (nb (sUp s r))) ∧ (∀ r j, r < 4 → j < 4 → aI h (g + 9) (4 * r + j) = nI (sOw s r j)) ∧ (∀ r, r < 4 → aI h (g + 10) r = nI (sTi s r)) ∧ (∀ r, r < 4 → aI h (g + 11) r = nI (sDn s r).length) ∧ (∀ r k, r < 4 → k < (sDn s r).length → aI h (g + 12) (240 * r + k) = nI ((sDn s r).getD k 0)) ∧ (∀ r o, r < 4 → o < 240 → aI h (g + 13) (240 * r + o) = nI (nb (decide (o ∈ sDn s r)))) ∧ (∀ r, r < 4 → aI h (g + 14) r = nI (sWt s r).length) ∧ (∀ r k, r < 4 → k < (sWt s r).length → aI h (g + 15) (240 * r + k) = nI ((sWt s r).getD k 0)) ∧ (∀ r i j, r < 4 → i < 4 → j < 4 → aI h (g + 16) (16 * r + 4 * i + j) = nI (sKw s r i j)) ∧ (∀ w, w < 16 → aI h (g + 17) w = nI (sWy s w).length) ∧ (∀ w k, w < 16 → k < (sWy s w).length → aI h (g + 18) (30 * w + k) = nI ((sWy s w).getD k (0, 0, fun _ => 0)).1) ∧ (∀ w k, w < 16 → k < (sWy s w).length → aI h (g + 19) (30 * w + k) = nI ((sWy s w).getD k (0, 0, fun _ => 0)).2.1) ∧ (∀ w k j, w < 16 → k < (sWy s w).length → j < 4 → aI h (g + 20) (4 * (30 * w + k) + j) = nI (((sWy s w).getD k (0, 0, fun _ => 0)).2.2 j))
theorem MR.c1 {g : Nat} {h : Hp} {s : St} (H : MR g h s) : ∀ r, r < 4 → aI h (g + 1) r = nI (sMk s r) := H.1
theorem MR.c2 {g : Nat} {h : Hp} {s : St} (H : MR g h s) : ∀ o, o < 240 → aI h (g + 2) o = nI (sKn s o) := H.2.1
theorem MR.c3 {g : Nat} {h : Hp} {s : St} (H : MR g h s) : ∀ o, o < 240 → aI h (g + 3) o = nI (sTg s o) := H.2.2.1
theorem MR.c4 {g : Nat} {h : Hp} {s : St} (H : MR g h s) : ∀ o, o < 240 → aI h (g + 4) o = sVl s o := H.2.2.2.1
theorem MR.c5 {g : Nat} {h : Hp} {s : St} (H : MR g h s) : ∀ o, o < 240 → aI h (g + 5) o = bhI (sBh s o) := H.2.2.2.2.1
theorem MR.c6 {g : Nat} {h : Hp} {s : St} (H : MR g h s) : ∀ o, o < 240 → aI h (g + 6) o = nI (sTm s o) := H.2.2.2.2.2.1
theorem MR.c7 {g : Nat} {h : Hp} {s : St} (H : MR g h s) : ∀ o j, o < 240 → j < 4 → aI h (g + 7) (4 * o + j) = nI (sCk s o j) := H.2.2.2.2.2.2.1
theorem MR.c8 {g : Nat} {h : Hp} {s : St} (H : MR g h s) : ∀ r, r < 4 → aI h (g + 8) r = nI (nb (sUp s r)) := H.2.2.2.2.2.2.2.1
theorem MR.c9 {g : Nat} {h : Hp} {s : St} (H : MR g h s) : ∀ r j, r < 4 → j < 4 → aI h (g + 9) (4 * r + j) = nI (sOw s r j) := H.2.2.2.2.2.2.2.2.1
theorem MR.c10 {g : Nat} {h : Hp} {s : St} (H : MR g h s) : ∀ r, r < 4 → aI h (g + 10) r = nI (sTi s r) := H.2.2.2.2.2.2.2.2.2.1
theorem MR.c11 {g : Nat} {h : Hp} {s : St} (H : MR g h s) : ∀ r, r < 4 → aI h (g + 11) r = nI (sDn s r).length := H.2.2.2.2.2.2.2.2.2.2.1
theorem MR.c12 {g : Nat} {h : Hp} {s : St} (H : MR g h s) : ∀ r k, r < 4 → k < (sDn s r).length → aI h (g + 12) (240 * r + k) = nI ((sDn s r).getD k 0) := H.2.2.2.2.2.2.2.2.2.2.2.1
theorem MR.c13 {g : Nat} {h : Hp} {s : St} (H : MR g h s) : ∀ r o, r < 4 → o < 240 → aI h (g + 13) (240 * r + o) = nI (nb (decide (o ∈ sDn s r))) := H.2.2.2.2.2.2.2.2.2.2.2.2.1
theorem MR.c14 {g : Nat} {h : Hp} {s : St} (H : MR g h s) : ∀ r, r < 4 → aI h (g + 14) r = nI (sWt s r).length := H.2.2.2.2.2.2.2.2.2.2.2.2.2.1
theorem MR.c15 {g : Nat} {h : Hp} {s : St} (H : MR g h s) : ∀ r k, r < 4 → k < (sWt s r).length → aI h (g + 15) (240 * r + k) = nI ((sWt s r).getD k 0) := H.2.2.2.2.2.2.2.2.2.2.2.2.2.2.1
theorem MR.c16 {g : Nat} {h : Hp} {s : St} (H : MR g h s) : ∀ r i j, r < 4 → i < 4 → j < 4 → aI h (g + 16) (16 * r + 4 * i + j) = nI (sKw s r i j) := H.2.2.2.2.2.2.2.2.2.2.2.2.2.2.2.1
theorem MR.c17 {g : Nat} {h : Hp} {s : St} (H : MR g h s) : ∀ w, w < 16 → aI h (g + 17) w = nI (sWy s w).length := H.2.2.2.2.2.2.2.2.2.2.2.2.2.2.2.2.1
theorem MR.c18 {g : Nat} {h : Hp} {s : St} (H : MR g h s) : ∀ w k, w < 16 → k < (sWy s w).length → aI h (g + 18) (30 * w + k) = nI ((sWy s w).getD k (0, 0, fun _ => 0)).1 := H.2.2.2.2.2.2.2.2.2.2.2.2.2.2.2.2.2.1
theorem MR.c19 {g : Nat} {h : Hp} {s : St} (H : MR g h s) : ∀ w k, w < 16 → k < (sWy s w).length → aI h (g + 19) (30 * w + k) = nI ((sWy s w).getD k (0, 0, fun _ => 0)).2.1 := H.2.2.2.2.2.2.2.2.2.2.2.2.2.2.2.2.2.2.1
theorem MR.c20 {g : Nat} {h : Hp} {s : St} (H : MR g h s) : ∀ w k j, w < 16 → k < (sWy s w).length → j < 4 → aI h (g + 20) (4 * (30 * w + k) + j) = nI (((sWy s w).getD k (0, 0, fun _ => 0)).2.2 j) := H.2.2.2.2.2.2.2.2.2.2.2.2.2.2.2.2.2.2.2
/-- bounds of what a state holds -/
def Bd (s : St) : Prop := (∀ r, r < 4 → sMk s r ≤ 60) ∧ (∀ o, o < 240 → sKn s o ≤ 5 ∧ sTg s o ≤ 1 ∧ sTm s o ≤ 100000 ∧ (∀ p, sBh s o = some p → p < 240) ∧ ∀ j, j < 4 → sCk s o j ≤ 60) ∧ (∀ r, r < 4 → sTi s r ≤ 100000 ∧ (sDn s r).length ≤ 240 ∧ (sWt s r).length ≤ 240 ∧ (∀ o ∈ sDn s r, o < 240) ∧ (∀ o ∈ sWt s r, o < 240) ∧ (∀ j, j < 4 → sOw s r j ≤ 60) ∧ ∀ i j, i < 4 → j < 4 → sKw s r i j ≤ 60) ∧ (∀ w, w < 16 → (sWy s w).length ≤ 30 ∧ ∀ q ∈ sWy s w, q.1 ≤ 2 ∧ (q.1 = 0 → q.2.1 < 240) ∧ (q.1 ≠ 0 → q.2.1 < 4) ∧ ∀ j, j < 4 → q.2.2 j ≤ 60)
