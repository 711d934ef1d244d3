

def mB (g : Nat → Int32) (f : Int32) : Nat → Int := fun j => (g (f.toNatClampNeg + j)).toInt % 256
