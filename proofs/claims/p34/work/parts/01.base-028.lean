def TX3 : u_T := fun k => match k with
  | 0 => ("DoorRounds$Reader", "text", "LDoorRounds$Strip;", false)
  | 1 => ("DoorRounds$Reader", "place", "I", false)
  | _ => ("DoorRounds$Reader", "number", "I", false)
def tyX3 : Nat → FieldType := fun k => match k with
  | 0 => .object "DoorRounds$Strip"
  | 1 => .int
  | _ => .int
def TX4 : u_T := fun k => match k with
  | 0 => ("DoorRounds$Shop", "kind", "I", false)
  | 1 => ("DoorRounds$Shop", "firstDoor", "I", false)
  | 2 => ("DoorRounds$Shop", "step", "I", false)
  | 3 => ("DoorRounds$Shop", "age", "I", false)
  | _ => ("DoorRounds$Shop", "k", "I", false)
def tyX4 : Nat → FieldType := fun k => match k with
  | 0 => .int
  | 1 => .int
  | 2 => .int
  | 3 => .int
  | _ => .int
