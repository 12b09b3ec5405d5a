def TX5 : u_T := fun k => match k with
  | 0 => ("DoorRounds$Standing", "week", "I", false)
  | 1 => ("DoorRounds$Standing", "shut", "I", false)
  | _ => ("DoorRounds$Standing", "doors", "[I", true)
def tyX5 : Nat → FieldType := fun k => match k with
  | 0 => .int
  | 1 => .int
  | _ => .array .int
def TX6 : u_T := fun k => match k with
  | 0 => ("DoorRounds$Strip", "places", "[I", true)
  | _ => ("DoorRounds$Strip", "size", "I", false)
def tyX6 : Nat → FieldType := fun k => match k with
  | 0 => .array .int
  | _ => .int
