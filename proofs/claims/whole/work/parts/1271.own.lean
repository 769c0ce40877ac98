/-! the class's own methods, as read off -/
/-- exceptions by the reference's numbers -/
def rlH (f : Int32 → Int32) (x : HA) : HA := x.bind fun u => some ((f u.1.1, u.1.2), u.2)
