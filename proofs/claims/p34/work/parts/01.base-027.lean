def TX1 : u_T := fun k => match k with
  | 0 => ("DoorRounds$Errands", "together", "[J", true)
  | _ => ("DoorRounds$Errands", "shared", "[J", true)
def tyX1 : Nat → FieldType := fun k => match k with
  | 0 => .array .long
  | _ => .array .long
def TX2 : u_T := fun k => match k with
  | 0 => ("DoorRounds$Plan", "doors", "I", false)
  | 1 => ("DoorRounds$Plan", "size", "I", false)
  | 2 => ("DoorRounds$Plan", "shops", "[LDoorRounds$Shop;", true)
  | 3 => ("DoorRounds$Plan", "noShop", "LDoorRounds$Shop;", true)
  | 4 => ("DoorRounds$Plan", "order", "[I", true)
  | _ => ("DoorRounds$Plan", "reader", "LDoorRounds$Reader;", true)
def tyX2 : Nat → FieldType := fun k => match k with
  | 0 => .int
  | 1 => .int
  | 2 => .array (.object "DoorRounds$Shop")
  | 3 => .object "DoorRounds$Shop"
  | 4 => .array .int
  | _ => .object "DoorRounds$Reader"
