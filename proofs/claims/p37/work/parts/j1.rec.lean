/-! THE REFERENCE: records, loose documents (the second of a node: how many VALUES it has) -/
def isN (x : ND) : Int := if x.1 = 2 then (if hdI x.2.2.2.1 = 45 then -1 else if hdI x.2.2.2.1 = 48 ∨ x.2.2.2.1 = [] then 0 else 1) else if x.1 = 1 then x.2.2.1 else 0
def pwN (x : ND) : Int := if x.1 = 2 then x.2.2.1 else 0
