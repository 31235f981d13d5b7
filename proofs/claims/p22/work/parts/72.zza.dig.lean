/-! digest: words, the class -/
def z_a (s : Int64) (v : Int32) : Int64 := s * Int64.ofNat 31 + v.toInt64
