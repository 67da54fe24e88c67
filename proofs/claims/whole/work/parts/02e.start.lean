/-- the numbers of a new object of the class -/
def cpM0 : cM := fun c k => match c, k with
  | 0, 9 => (-1073741311) | 0, 12 => 1500 | 0, 13 => 1500 | 0, 14 => 1 | 0, 15 => 1 | 10, 2 => 96 | _, _ => 0
def cpL0 : cL := fun c k => match c, k with
  | 0, 10 => 2306139568115548160 | 0, 11 => 1 | 10, 0 => 28428538856079360 | _, _ => 0
/-- of a new object of the reference -/
def rpM0 : cM := fun c k => match c, k with
  | 0, 5 => 96 | 0, 6 => (-1073741311) | 0, 9 => 1500 | 0, 10 => 1500 | 0, 11 => 1 | 0, 12 => 1 | _, _ => 0
def rpL0 : cL := fun c k => match c, k with
  | 0, 3 => 28428538856079360 | 0, 7 => 2306139568115548160 | 0, 8 => 1 | _, _ => 0
