/-! THE REFERENCE's patch: MAPS, and the call -/
section RPU
variable {S0 S : GS} {T0 : List ND} {Ds : List (List ND)} {pg pp : List Int} {r : Int} {L : List Nat} {Q : List (List Int)} {C : List (Int × Int)} {d : Nat}
/-- the PATCH as a piece, if there is one -/
def ptT (V U : List ND) : Option (List ND) := match ptS V U with
  | none => none
  | some Os => if pOK (gpN (ndK 4) Os Os.length) then some (gpN (ndK 4) Os Os.length) else none
end RPU
