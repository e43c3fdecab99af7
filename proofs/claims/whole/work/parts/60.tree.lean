/-! THE TREE, as both sides hold it: functions of the NODE's number, and how many NODES there are -/
abbrev AttL : Type := List (List Nat × List Nat)
abbrev TS : Type := (Nat → Bool) × (Nat → Nat) × (Nat → List Nat) × (Nat → Option Nat) × (Nat → Option Nat) × (Nat → Option Nat) × (Nat → Option Nat) × (Nat → Option Nat) × (Nat → Nat) × (Nat → AttL) × (Nat → List Nat) × (Nat → Bool) × Nat
def tIs (T : TS) : Nat → Bool := T.1
def tTag (T : TS) : Nat → Nat := T.2.1
def tNam (T : TS) : Nat → List Nat := T.2.2.1
def tPar (T : TS) : Nat → Option Nat := T.2.2.2.1
def tFk (T : TS) : Nat → Option Nat := T.2.2.2.2.1
def tLk (T : TS) : Nat → Option Nat := T.2.2.2.2.2.1
def tNx (T : TS) : Nat → Option Nat := T.2.2.2.2.2.2.1
def tBf (T : TS) : Nat → Option Nat := T.2.2.2.2.2.2.2.1
def tDep (T : TS) : Nat → Nat := T.2.2.2.2.2.2.2.2.1
def tAtt (T : TS) : Nat → AttL := T.2.2.2.2.2.2.2.2.2.1
def tTxt (T : TS) : Nat → List Nat := T.2.2.2.2.2.2.2.2.2.2.1
def tLng (T : TS) : Nat → Bool := T.2.2.2.2.2.2.2.2.2.2.2.1
def tCnt (T : TS) : Nat := T.2.2.2.2.2.2.2.2.2.2.2.2
def uIs (T : TS) (i : Nat) (v : Bool) : TS := (up T.1 i v, T.2.1, T.2.2.1, T.2.2.2.1, T.2.2.2.2.1, T.2.2.2.2.2.1, T.2.2.2.2.2.2.1, T.2.2.2.2.2.2.2.1, T.2.2.2.2.2.2.2.2.1, T.2.2.2.2.2.2.2.2.2.1, T.2.2.2.2.2.2.2.2.2.2.1, T.2.2.2.2.2.2.2.2.2.2.2.1, T.2.2.2.2.2.2.2.2.2.2.2.2)
def uTag (T : TS) (i : Nat) (v : Nat) : TS := (T.1, up T.2.1 i v, T.2.2.1, T.2.2.2.1, T.2.2.2.2.1, T.2.2.2.2.2.1, T.2.2.2.2.2.2.1, T.2.2.2.2.2.2.2.1, T.2.2.2.2.2.2.2.2.1, T.2.2.2.2.2.2.2.2.2.1, T.2.2.2.2.2.2.2.2.2.2.1, T.2.2.2.2.2.2.2.2.2.2.2.1, T.2.2.2.2.2.2.2.2.2.2.2.2)
def uNam (T : TS) (i : Nat) (v : List Nat) : TS := (T.1, T.2.1, up T.2.2.1 i v, T.2.2.2.1, T.2.2.2.2.1, T.2.2.2.2.2.1, T.2.2.2.2.2.2.1, T.2.2.2.2.2.2.2.1, T.2.2.2.2.2.2.2.2.1, T.2.2.2.2.2.2.2.2.2.1, T.2.2.2.2.2.2.2.2.2.2.1, T.2.2.2.2.2.2.2.2.2.2.2.1, T.2.2.2.2.2.2.2.2.2.2.2.2)
def uPar (T : TS) (i : Nat) (v : Option Nat) : TS := (T.1, T.2.1, T.2.2.1, up T.2.2.2.1 i v, T.2.2.2.2.1, T.2.2.2.2.2.1, T.2.2.2.2.2.2.1, T.2.2.2.2.2.2.2.1, T.2.2.2.2.2.2.2.2.1, T.2.2.2.2.2.2.2.2.2.1, T.2.2.2.2.2.2.2.2.2.2.1, T.2.2.2.2.2.2.2.2.2.2.2.1, T.2.2.2.2.2.2.2.2.2.2.2.2)
def uFk (T : TS) (i : Nat) (v : Option Nat) : TS := (T.1, T.2.1, T.2.2.1, T.2.2.2.1, up T.2.2.2.2.1 i v, T.2.2.2.2.2.1, T.2.2.2.2.2.2.1, T.2.2.2.2.2.2.2.1, T.2.2.2.2.2.2.2.2.1, T.2.2.2.2.2.2.2.2.2.1, T.2.2.2.2.2.2.2.2.2.2.1, T.2.2.2.2.2.2.2.2.2.2.2.1, T.2.2.2.2.2.2.2.2.2.2.2.2)
def uLk (T : TS) (i : Nat) (v : Option Nat) : TS := (T.1, T.2.1, T.2.2.1, T.2.2.2.1, T.2.2.2.2.1, up T.2.2.2.2.2.1 i v, T.2.2.2.2.2.2.1, T.2.2.2.2.2.2.2.1, T.2.2.2.2.2.2.2.2.1, T.2.2.2.2.2.2.2.2.2.1, T.2.2.2.2.2.2.2.2.2.2.1, T.2.2.2.2.2.2.2.2.2.2.2.1, T.2.2.2.2.2.2.2.2.2.2.2.2)
def uNx (T : TS) (i : Nat) (v : Option Nat) : TS := (T.1, T.2.1, T.2.2.1, T.2.2.2.1, T.2.2.2.2.1, T.2.2.2.2.2.1, up T.2.2.2.2.2.2.1 i v, T.2.2.2.2.2.2.2.1, T.2.2.2.2.2.2.2.2.1, T.2.2.2.2.2.2.2.2.2.1, T.2.2.2.2.2.2.2.2.2.2.1, T.2.2.2.2.2.2.2.2.2.2.2.1, T.2.2.2.2.2.2.2.2.2.2.2.2)
def uBf (T : TS) (i : Nat) (v : Option Nat) : TS := (T.1, T.2.1, T.2.2.1, T.2.2.2.1, T.2.2.2.2.1, T.2.2.2.2.2.1, T.2.2.2.2.2.2.1, up T.2.2.2.2.2.2.2.1 i v, T.2.2.2.2.2.2.2.2.1, T.2.2.2.2.2.2.2.2.2.1, T.2.2.2.2.2.2.2.2.2.2.1, T.2.2.2.2.2.2.2.2.2.2.2.1, T.2.2.2.2.2.2.2.2.2.2.2.2)
def uDep (T : TS) (i : Nat) (v : Nat) : TS := (T.1, T.2.1, T.2.2.1, T.2.2.2.1, T.2.2.2.2.1, T.2.2.2.2.2.1, T.2.2.2.2.2.2.1, T.2.2.2.2.2.2.2.1, up T.2.2.2.2.2.2.2.2.1 i v, T.2.2.2.2.2.2.2.2.2.1, T.2.2.2.2.2.2.2.2.2.2.1, T.2.2.2.2.2.2.2.2.2.2.2.1, T.2.2.2.2.2.2.2.2.2.2.2.2)
def uAtt (T : TS) (i : Nat) (v : AttL) : TS := (T.1, T.2.1, T.2.2.1, T.2.2.2.1, T.2.2.2.2.1, T.2.2.2.2.2.1, T.2.2.2.2.2.2.1, T.2.2.2.2.2.2.2.1, T.2.2.2.2.2.2.2.2.1, up T.2.2.2.2.2.2.2.2.2.1 i v, T.2.2.2.2.2.2.2.2.2.2.1, T.2.2.2.2.2.2.2.2.2.2.2.1, T.2.2.2.2.2.2.2.2.2.2.2.2)
def uTxt (T : TS) (i : Nat) (v : List Nat) : TS := (T.1, T.2.1, T.2.2.1, T.2.2.2.1, T.2.2.2.2.1, T.2.2.2.2.2.1, T.2.2.2.2.2.2.1, T.2.2.2.2.2.2.2.1, T.2.2.2.2.2.2.2.2.1, T.2.2.2.2.2.2.2.2.2.1, up T.2.2.2.2.2.2.2.2.2.2.1 i v, T.2.2.2.2.2.2.2.2.2.2.2.1, T.2.2.2.2.2.2.2.2.2.2.2.2)
def uLng (T : TS) (i : Nat) (v : Bool) : TS := (T.1, T.2.1, T.2.2.1, T.2.2.2.1, T.2.2.2.2.1, T.2.2.2.2.2.1, T.2.2.2.2.2.2.1, T.2.2.2.2.2.2.2.1, T.2.2.2.2.2.2.2.2.1, T.2.2.2.2.2.2.2.2.2.1, T.2.2.2.2.2.2.2.2.2.2.1, up T.2.2.2.2.2.2.2.2.2.2.2.1 i v, T.2.2.2.2.2.2.2.2.2.2.2.2)
def uCnt (T : TS) (v : Nat) : TS := (T.1, T.2.1, T.2.2.1, T.2.2.2.1, T.2.2.2.2.1, T.2.2.2.2.2.1, T.2.2.2.2.2.2.1, T.2.2.2.2.2.2.2.1, T.2.2.2.2.2.2.2.2.1, T.2.2.2.2.2.2.2.2.2.1, T.2.2.2.2.2.2.2.2.2.2.1, T.2.2.2.2.2.2.2.2.2.2.2.1, v)
theorem tIs_uIs (T : TS) (i : Nat) (v : Bool) (j : Nat) : tIs (uIs T i v) j = if j = i then v else tIs T j := rfl
theorem tIs_uTag (T : TS) (i : Nat) (v : Nat) : tIs (uTag T i v) = tIs T := rfl
theorem tIs_uNam (T : TS) (i : Nat) (v : List Nat) : tIs (uNam T i v) = tIs T := rfl
theorem tIs_uPar (T : TS) (i : Nat) (v : Option Nat) : tIs (uPar T i v) = tIs T := rfl
theorem tIs_uFk (T : TS) (i : Nat) (v : Option Nat) : tIs (uFk T i v) = tIs T := rfl
theorem tIs_uLk (T : TS) (i : Nat) (v : Option Nat) : tIs (uLk T i v) = tIs T := rfl
theorem tIs_uNx (T : TS) (i : Nat) (v : Option Nat) : tIs (uNx T i v) = tIs T := rfl
theorem tIs_uBf (T : TS) (i : Nat) (v : Option Nat) : tIs (uBf T i v) = tIs T := rfl
theorem tIs_uDep (T : TS) (i : Nat) (v : Nat) : tIs (uDep T i v) = tIs T := rfl
theorem tIs_uAtt (T : TS) (i : Nat) (v : AttL) : tIs (uAtt T i v) = tIs T := rfl
theorem tIs_uTxt (T : TS) (i : Nat) (v : List Nat) : tIs (uTxt T i v) = tIs T := rfl
theorem tIs_uLng (T : TS) (i : Nat) (v : Bool) : tIs (uLng T i v) = tIs T := rfl
theorem tIs_uCnt (T : TS) (v : Nat) : tIs (uCnt T v) = tIs T := rfl
theorem tTag_uIs (T : TS) (i : Nat) (v : Bool) : tTag (uIs T i v) = tTag T := rfl
theorem tTag_uTag (T : TS) (i : Nat) (v : Nat) (j : Nat) : tTag (uTag T i v) j = if j = i then v else tTag T j := rfl
theorem tTag_uNam (T : TS) (i : Nat) (v : List Nat) : tTag (uNam T i v) = tTag T := rfl
theorem tTag_uPar (T : TS) (i : Nat) (v : Option Nat) : tTag (uPar T i v) = tTag T := rfl
theorem tTag_uFk (T : TS) (i : Nat) (v : Option Nat) : tTag (uFk T i v) = tTag T := rfl
theorem tTag_uLk (T : TS) (i : Nat) (v : Option Nat) : tTag (uLk T i v) = tTag T := rfl
theorem tTag_uNx (T : TS) (i : Nat) (v : Option Nat) : tTag (uNx T i v) = tTag T := rfl
theorem tTag_uBf (T : TS) (i : Nat) (v : Option Nat) : tTag (uBf T i v) = tTag T := rfl
theorem tTag_uDep (T : TS) (i : Nat) (v : Nat) : tTag (uDep T i v) = tTag T := rfl
theorem tTag_uAtt (T : TS) (i : Nat) (v : AttL) : tTag (uAtt T i v) = tTag T := rfl
theorem tTag_uTxt (T : TS) (i : Nat) (v : List Nat) : tTag (uTxt T i v) = tTag T := rfl
theorem tTag_uLng (T : TS) (i : Nat) (v : Bool) : tTag (uLng T i v) = tTag T := rfl
theorem tTag_uCnt (T : TS) (v : Nat) : tTag (uCnt T v) = tTag T := rfl
theorem tNam_uIs (T : TS) (i : Nat) (v : Bool) : tNam (uIs T i v) = tNam T := rfl
theorem tNam_uTag (T : TS) (i : Nat) (v : Nat) : tNam (uTag T i v) = tNam T := rfl
theorem tNam_uNam (T : TS) (i : Nat) (v : List Nat) (j : Nat) : tNam (uNam T i v) j = if j = i then v else tNam T j := rfl
theorem tNam_uPar (T : TS) (i : Nat) (v : Option Nat) : tNam (uPar T i v) = tNam T := rfl
theorem tNam_uFk (T : TS) (i : Nat) (v : Option Nat) : tNam (uFk T i v) = tNam T := rfl
theorem tNam_uLk (T : TS) (i : Nat) (v : Option Nat) : tNam (uLk T i v) = tNam T := rfl
theorem tNam_uNx (T : TS) (i : Nat) (v : Option Nat) : tNam (uNx T i v) = tNam T := rfl
theorem tNam_uBf (T : TS) (i : Nat) (v : Option Nat) : tNam (uBf T i v) = tNam T := rfl
theorem tNam_uDep (T : TS) (i : Nat) (v : Nat) : tNam (uDep T i v) = tNam T := rfl
theorem tNam_uAtt (T : TS) (i : Nat) (v : AttL) : tNam (uAtt T i v) = tNam T := rfl
theorem tNam_uTxt (T : TS) (i : Nat) (v : List Nat) : tNam (uTxt T i v) = tNam T := rfl
theorem tNam_uLng (T : TS) (i : Nat) (v : Bool) : tNam (uLng T i v) = tNam T := rfl
theorem tNam_uCnt (T : TS) (v : Nat) : tNam (uCnt T v) = tNam T := rfl
theorem tPar_uIs (T : TS) (i : Nat) (v : Bool) : tPar (uIs T i v) = tPar T := rfl
theorem tPar_uTag (T : TS) (i : Nat) (v : Nat) : tPar (uTag T i v) = tPar T := rfl
theorem tPar_uNam (T : TS) (i : Nat) (v : List Nat) : tPar (uNam T i v) = tPar T := rfl
theorem tPar_uPar (T : TS) (i : Nat) (v : Option Nat) (j : Nat) : tPar (uPar T i v) j = if j = i then v else tPar T j := rfl
theorem tPar_uFk (T : TS) (i : Nat) (v : Option Nat) : tPar (uFk T i v) = tPar T := rfl
theorem tPar_uLk (T : TS) (i : Nat) (v : Option Nat) : tPar (uLk T i v) = tPar T := rfl
theorem tPar_uNx (T : TS) (i : Nat) (v : Option Nat) : tPar (uNx T i v) = tPar T := rfl
theorem tPar_uBf (T : TS) (i : Nat) (v : Option Nat) : tPar (uBf T i v) = tPar T := rfl
theorem tPar_uDep (T : TS) (i : Nat) (v : Nat) : tPar (uDep T i v) = tPar T := rfl
theorem tPar_uAtt (T : TS) (i : Nat) (v : AttL) : tPar (uAtt T i v) = tPar T := rfl
theorem tPar_uTxt (T : TS) (i : Nat) (v : List Nat) : tPar (uTxt T i v) = tPar T := rfl
theorem tPar_uLng (T : TS) (i : Nat) (v : Bool) : tPar (uLng T i v) = tPar T := rfl
theorem tPar_uCnt (T : TS) (v : Nat) : tPar (uCnt T v) = tPar T := rfl
theorem tFk_uIs (T : TS) (i : Nat) (v : Bool) : tFk (uIs T i v) = tFk T := rfl
theorem tFk_uTag (T : TS) (i : Nat) (v : Nat) : tFk (uTag T i v) = tFk T := rfl
theorem tFk_uNam (T : TS) (i : Nat) (v : List Nat) : tFk (uNam T i v) = tFk T := rfl
theorem tFk_uPar (T : TS) (i : Nat) (v : Option Nat) : tFk (uPar T i v) = tFk T := rfl
theorem tFk_uFk (T : TS) (i : Nat) (v : Option Nat) (j : Nat) : tFk (uFk T i v) j = if j = i then v else tFk T j := rfl
theorem tFk_uLk (T : TS) (i : Nat) (v : Option Nat) : tFk (uLk T i v) = tFk T := rfl
theorem tFk_uNx (T : TS) (i : Nat) (v : Option Nat) : tFk (uNx T i v) = tFk T := rfl
theorem tFk_uBf (T : TS) (i : Nat) (v : Option Nat) : tFk (uBf T i v) = tFk T := rfl
theorem tFk_uDep (T : TS) (i : Nat) (v : Nat) : tFk (uDep T i v) = tFk T := rfl
theorem tFk_uAtt (T : TS) (i : Nat) (v : AttL) : tFk (uAtt T i v) = tFk T := rfl
theorem tFk_uTxt (T : TS) (i : Nat) (v : List Nat) : tFk (uTxt T i v) = tFk T := rfl
theorem tFk_uLng (T : TS) (i : Nat) (v : Bool) : tFk (uLng T i v) = tFk T := rfl
theorem tFk_uCnt (T : TS) (v : Nat) : tFk (uCnt T v) = tFk T := rfl
theorem tLk_uIs (T : TS) (i : Nat) (v : Bool) : tLk (uIs T i v) = tLk T := rfl
theorem tLk_uTag (T : TS) (i : Nat) (v : Nat) : tLk (uTag T i v) = tLk T := rfl
theorem tLk_uNam (T : TS) (i : Nat) (v : List Nat) : tLk (uNam T i v) = tLk T := rfl
theorem tLk_uPar (T : TS) (i : Nat) (v : Option Nat) : tLk (uPar T i v) = tLk T := rfl
theorem tLk_uFk (T : TS) (i : Nat) (v : Option Nat) : tLk (uFk T i v) = tLk T := rfl
theorem tLk_uLk (T : TS) (i : Nat) (v : Option Nat) (j : Nat) : tLk (uLk T i v) j = if j = i then v else tLk T j := rfl
theorem tLk_uNx (T : TS) (i : Nat) (v : Option Nat) : tLk (uNx T i v) = tLk T := rfl
theorem tLk_uBf (T : TS) (i : Nat) (v : Option Nat) : tLk (uBf T i v) = tLk T := rfl
theorem tLk_uDep (T : TS) (i : Nat) (v : Nat) : tLk (uDep T i v) = tLk T := rfl
theorem tLk_uAtt (T : TS) (i : Nat) (v : AttL) : tLk (uAtt T i v) = tLk T := rfl
theorem tLk_uTxt (T : TS) (i : Nat) (v : List Nat) : tLk (uTxt T i v) = tLk T := rfl
theorem tLk_uLng (T : TS) (i : Nat) (v : Bool) : tLk (uLng T i v) = tLk T := rfl
theorem tLk_uCnt (T : TS) (v : Nat) : tLk (uCnt T v) = tLk T := rfl
theorem tNx_uIs (T : TS) (i : Nat) (v : Bool) : tNx (uIs T i v) = tNx T := rfl
theorem tNx_uTag (T : TS) (i : Nat) (v : Nat) : tNx (uTag T i v) = tNx T := rfl
theorem tNx_uNam (T : TS) (i : Nat) (v : List Nat) : tNx (uNam T i v) = tNx T := rfl
theorem tNx_uPar (T : TS) (i : Nat) (v : Option Nat) : tNx (uPar T i v) = tNx T := rfl
theorem tNx_uFk (T : TS) (i : Nat) (v : Option Nat) : tNx (uFk T i v) = tNx T := rfl
theorem tNx_uLk (T : TS) (i : Nat) (v : Option Nat) : tNx (uLk T i v) = tNx T := rfl
theorem tNx_uNx (T : TS) (i : Nat) (v : Option Nat) (j : Nat) : tNx (uNx T i v) j = if j = i then v else tNx T j := rfl
theorem tNx_uBf (T : TS) (i : Nat) (v : Option Nat) : tNx (uBf T i v) = tNx T := rfl
theorem tNx_uDep (T : TS) (i : Nat) (v : Nat) : tNx (uDep T i v) = tNx T := rfl
theorem tNx_uAtt (T : TS) (i : Nat) (v : AttL) : tNx (uAtt T i v) = tNx T := rfl
theorem tNx_uTxt (T : TS) (i : Nat) (v : List Nat) : tNx (uTxt T i v) = tNx T := rfl
theorem tNx_uLng (T : TS) (i : Nat) (v : Bool) : tNx (uLng T i v) = tNx T := rfl
theorem tNx_uCnt (T : TS) (v : Nat) : tNx (uCnt T v) = tNx T := rfl
theorem tBf_uIs (T : TS) (i : Nat) (v : Bool) : tBf (uIs T i v) = tBf T := rfl
theorem tBf_uTag (T : TS) (i : Nat) (v : Nat) : tBf (uTag T i v) = tBf T := rfl
theorem tBf_uNam (T : TS) (i : Nat) (v : List Nat) : tBf (uNam T i v) = tBf T := rfl
theorem tBf_uPar (T : TS) (i : Nat) (v : Option Nat) : tBf (uPar T i v) = tBf T := rfl
theorem tBf_uFk (T : TS) (i : Nat) (v : Option Nat) : tBf (uFk T i v) = tBf T := rfl
theorem tBf_uLk (T : TS) (i : Nat) (v : Option Nat) : tBf (uLk T i v) = tBf T := rfl
theorem tBf_uNx (T : TS) (i : Nat) (v : Option Nat) : tBf (uNx T i v) = tBf T := rfl
theorem tBf_uBf (T : TS) (i : Nat) (v : Option Nat) (j : Nat) : tBf (uBf T i v) j = if j = i then v else tBf T j := rfl
theorem tBf_uDep (T : TS) (i : Nat) (v : Nat) : tBf (uDep T i v) = tBf T := rfl
theorem tBf_uAtt (T : TS) (i : Nat) (v : AttL) : tBf (uAtt T i v) = tBf T := rfl
theorem tBf_uTxt (T : TS) (i : Nat) (v : List Nat) : tBf (uTxt T i v) = tBf T := rfl
theorem tBf_uLng (T : TS) (i : Nat) (v : Bool) : tBf (uLng T i v) = tBf T := rfl
theorem tBf_uCnt (T : TS) (v : Nat) : tBf (uCnt T v) = tBf T := rfl
theorem tDep_uIs (T : TS) (i : Nat) (v : Bool) : tDep (uIs T i v) = tDep T := rfl
theorem tDep_uTag (T : TS) (i : Nat) (v : Nat) : tDep (uTag T i v) = tDep T := rfl
theorem tDep_uNam (T : TS) (i : Nat) (v : List Nat) : tDep (uNam T i v) = tDep T := rfl
theorem tDep_uPar (T : TS) (i : Nat) (v : Option Nat) : tDep (uPar T i v) = tDep T := rfl
theorem tDep_uFk (T : TS) (i : Nat) (v : Option Nat) : tDep (uFk T i v) = tDep T := rfl
theorem tDep_uLk (T : TS) (i : Nat) (v : Option Nat) : tDep (uLk T i v) = tDep T := rfl
theorem tDep_uNx (T : TS) (i : Nat) (v : Option Nat) : tDep (uNx T i v) = tDep T := rfl
theorem tDep_uBf (T : TS) (i : Nat) (v : Option Nat) : tDep (uBf T i v) = tDep T := rfl
theorem tDep_uDep (T : TS) (i : Nat) (v : Nat) (j : Nat) : tDep (uDep T i v) j = if j = i then v else tDep T j := rfl
theorem tDep_uAtt (T : TS) (i : Nat) (v : AttL) : tDep (uAtt T i v) = tDep T := rfl
theorem tDep_uTxt (T : TS) (i : Nat) (v : List Nat) : tDep (uTxt T i v) = tDep T := rfl
theorem tDep_uLng (T : TS) (i : Nat) (v : Bool) : tDep (uLng T i v) = tDep T := rfl
theorem tDep_uCnt (T : TS) (v : Nat) : tDep (uCnt T v) = tDep T := rfl
theorem tAtt_uIs (T : TS) (i : Nat) (v : Bool) : tAtt (uIs T i v) = tAtt T := rfl
theorem tAtt_uTag (T : TS) (i : Nat) (v : Nat) : tAtt (uTag T i v) = tAtt T := rfl
theorem tAtt_uNam (T : TS) (i : Nat) (v : List Nat) : tAtt (uNam T i v) = tAtt T := rfl
theorem tAtt_uPar (T : TS) (i : Nat) (v : Option Nat) : tAtt (uPar T i v) = tAtt T := rfl
theorem tAtt_uFk (T : TS) (i : Nat) (v : Option Nat) : tAtt (uFk T i v) = tAtt T := rfl
theorem tAtt_uLk (T : TS) (i : Nat) (v : Option Nat) : tAtt (uLk T i v) = tAtt T := rfl
theorem tAtt_uNx (T : TS) (i : Nat) (v : Option Nat) : tAtt (uNx T i v) = tAtt T := rfl
theorem tAtt_uBf (T : TS) (i : Nat) (v : Option Nat) : tAtt (uBf T i v) = tAtt T := rfl
theorem tAtt_uDep (T : TS) (i : Nat) (v : Nat) : tAtt (uDep T i v) = tAtt T := rfl
theorem tAtt_uAtt (T : TS) (i : Nat) (v : AttL) (j : Nat) : tAtt (uAtt T i v) j = if j = i then v else tAtt T j := rfl
theorem tAtt_uTxt (T : TS) (i : Nat) (v : List Nat) : tAtt (uTxt T i v) = tAtt T := rfl
theorem tAtt_uLng (T : TS) (i : Nat) (v : Bool) : tAtt (uLng T i v) = tAtt T := rfl
theorem tAtt_uCnt (T : TS) (v : Nat) : tAtt (uCnt T v) = tAtt T := rfl
theorem tTxt_uIs (T : TS) (i : Nat) (v : Bool) : tTxt (uIs T i v) = tTxt T := rfl
theorem tTxt_uTag (T : TS) (i : Nat) (v : Nat) : tTxt (uTag T i v) = tTxt T := rfl
theorem tTxt_uNam (T : TS) (i : Nat) (v : List Nat) : tTxt (uNam T i v) = tTxt T := rfl
theorem tTxt_uPar (T : TS) (i : Nat) (v : Option Nat) : tTxt (uPar T i v) = tTxt T := rfl
theorem tTxt_uFk (T : TS) (i : Nat) (v : Option Nat) : tTxt (uFk T i v) = tTxt T := rfl
theorem tTxt_uLk (T : TS) (i : Nat) (v : Option Nat) : tTxt (uLk T i v) = tTxt T := rfl
theorem tTxt_uNx (T : TS) (i : Nat) (v : Option Nat) : tTxt (uNx T i v) = tTxt T := rfl
theorem tTxt_uBf (T : TS) (i : Nat) (v : Option Nat) : tTxt (uBf T i v) = tTxt T := rfl
theorem tTxt_uDep (T : TS) (i : Nat) (v : Nat) : tTxt (uDep T i v) = tTxt T := rfl
theorem tTxt_uAtt (T : TS) (i : Nat) (v : AttL) : tTxt (uAtt T i v) = tTxt T := rfl
theorem tTxt_uTxt (T : TS) (i : Nat) (v : List Nat) (j : Nat) : tTxt (uTxt T i v) j = if j = i then v else tTxt T j := rfl
theorem tTxt_uLng (T : TS) (i : Nat) (v : Bool) : tTxt (uLng T i v) = tTxt T := rfl
theorem tTxt_uCnt (T : TS) (v : Nat) : tTxt (uCnt T v) = tTxt T := rfl
theorem tLng_uIs (T : TS) (i : Nat) (v : Bool) : tLng (uIs T i v) = tLng T := rfl
theorem tLng_uTag (T : TS) (i : Nat) (v : Nat) : tLng (uTag T i v) = tLng T := rfl
theorem tLng_uNam (T : TS) (i : Nat) (v : List Nat) : tLng (uNam T i v) = tLng T := rfl
theorem tLng_uPar (T : TS) (i : Nat) (v : Option Nat) : tLng (uPar T i v) = tLng T := rfl
theorem tLng_uFk (T : TS) (i : Nat) (v : Option Nat) : tLng (uFk T i v) = tLng T := rfl
theorem tLng_uLk (T : TS) (i : Nat) (v : Option Nat) : tLng (uLk T i v) = tLng T := rfl
theorem tLng_uNx (T : TS) (i : Nat) (v : Option Nat) : tLng (uNx T i v) = tLng T := rfl
theorem tLng_uBf (T : TS) (i : Nat) (v : Option Nat) : tLng (uBf T i v) = tLng T := rfl
theorem tLng_uDep (T : TS) (i : Nat) (v : Nat) : tLng (uDep T i v) = tLng T := rfl
theorem tLng_uAtt (T : TS) (i : Nat) (v : AttL) : tLng (uAtt T i v) = tLng T := rfl
theorem tLng_uTxt (T : TS) (i : Nat) (v : List Nat) : tLng (uTxt T i v) = tLng T := rfl
theorem tLng_uLng (T : TS) (i : Nat) (v : Bool) (j : Nat) : tLng (uLng T i v) j = if j = i then v else tLng T j := rfl
theorem tLng_uCnt (T : TS) (v : Nat) : tLng (uCnt T v) = tLng T := rfl
theorem tCnt_uIs (T : TS) (i : Nat) (v : Bool) : tCnt (uIs T i v) = tCnt T := rfl
theorem tCnt_uTag (T : TS) (i : Nat) (v : Nat) : tCnt (uTag T i v) = tCnt T := rfl
theorem tCnt_uNam (T : TS) (i : Nat) (v : List Nat) : tCnt (uNam T i v) = tCnt T := rfl
theorem tCnt_uPar (T : TS) (i : Nat) (v : Option Nat) : tCnt (uPar T i v) = tCnt T := rfl
theorem tCnt_uFk (T : TS) (i : Nat) (v : Option Nat) : tCnt (uFk T i v) = tCnt T := rfl
theorem tCnt_uLk (T : TS) (i : Nat) (v : Option Nat) : tCnt (uLk T i v) = tCnt T := rfl
theorem tCnt_uNx (T : TS) (i : Nat) (v : Option Nat) : tCnt (uNx T i v) = tCnt T := rfl
theorem tCnt_uBf (T : TS) (i : Nat) (v : Option Nat) : tCnt (uBf T i v) = tCnt T := rfl
theorem tCnt_uDep (T : TS) (i : Nat) (v : Nat) : tCnt (uDep T i v) = tCnt T := rfl
theorem tCnt_uAtt (T : TS) (i : Nat) (v : AttL) : tCnt (uAtt T i v) = tCnt T := rfl
theorem tCnt_uTxt (T : TS) (i : Nat) (v : List Nat) : tCnt (uTxt T i v) = tCnt T := rfl
theorem tCnt_uLng (T : TS) (i : Nat) (v : Bool) : tCnt (uLng T i v) = tCnt T := rfl
theorem tCnt_uCnt (T : TS) (v : Nat) : tCnt (uCnt T v) = v := rfl
