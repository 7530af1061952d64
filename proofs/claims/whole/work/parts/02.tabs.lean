def zf_T : u_T := fun k => match k with
  | 0 => ("StationRows$Times", "most", "I", true)
  | 1 => ("StationRows$Times", "counts", "[I", true)
  | 2 => ("StationRows$Times", "froms", "[I", true)
  | _ => ("StationRows$Times", "tos", "[I", true)
def zt_T : Nat → FieldType := fun k => match k with
  | 0 => .int
  | 1 => .array .int
  | 2 => .array .int
  | _ => .array .int
theorem zn_T : ∀ a, a < 4 → ∀ b, b < 4 → a ≠ b → (zf_T a).2.1 ≠ (zf_T b).2.1 := by decide +kernel
theorem zt_T_ok : ∀ k, k < 4 → parseFieldDescriptor (zf_T k).2.2.1 = some (zt_T k) := by decide +kernel
def zf_St : u_T := fun k => match k with
  | 0 => ("StationRows$Stations", "doors", "[I", true)
  | 1 => ("StationRows$Stations", "froms", "[I", true)
  | 2 => ("StationRows$Stations", "tos", "[I", true)
  | _ => ("StationRows$Stations", "count", "I", false)
def zt_St : Nat → FieldType := fun k => match k with
  | 0 => .array .int
  | 1 => .array .int
  | 2 => .array .int
  | _ => .int
theorem zn_St : ∀ a, a < 4 → ∀ b, b < 4 → a ≠ b → (zf_St a).2.1 ≠ (zf_St b).2.1 := by decide +kernel
theorem zt_St_ok : ∀ k, k < 4 → parseFieldDescriptor (zf_St k).2.2.1 = some (zt_St k) := by decide +kernel
def zf_V : u_T := fun k => match k with
  | 0 => ("StationRows$Vehicles", "stationRow", "[I", true)
  | 1 => ("StationRows$Vehicles", "kinds", "[I", true)
  | 2 => ("StationRows$Vehicles", "crews", "[I", true)
  | 3 => ("StationRows$Vehicles", "outs", "LStationRows$Times;", true)
  | 4 => ("StationRows$Vehicles", "standsFor", "[I", true)
  | 5 => ("StationRows$Vehicles", "spares", "[I", true)
  | _ => ("StationRows$Vehicles", "count", "I", false)
def zt_V : Nat → FieldType := fun k => match k with
  | 0 => .array .int
  | 1 => .array .int
  | 2 => .array .int
  | 3 => .object "StationRows$Times"
  | 4 => .array .int
  | 5 => .array .int
  | _ => .int
theorem zn_V : ∀ a, a < 7 → ∀ b, b < 7 → a ≠ b → (zf_V a).2.1 ≠ (zf_V b).2.1 := by decide +kernel
theorem zt_V_ok : ∀ k, k < 7 → parseFieldDescriptor (zf_V k).2.2.1 = some (zt_V k) := by decide +kernel
def zf_P : u_T := fun k => match k with
  | 0 => ("StationRows$Persons", "homes", "[I", true)
  | 1 => ("StationRows$Persons", "distances", "[I", true)
  | 2 => ("StationRows$Persons", "duties", "LStationRows$Times;", true)
  | 3 => ("StationRows$Persons", "moves", "LStationRows$Times;", true)
  | 4 => ("StationRows$Persons", "moveStations", "[I", true)
  | 5 => ("StationRows$Persons", "row", "[I", true)
  | 6 => ("StationRows$Persons", "rowLength", "I", false)
  | 7 => ("StationRows$Persons", "count", "I", false)
  | _ => ("StationRows$Persons", "distanceLimit", "I", false)
def zt_P : Nat → FieldType := fun k => match k with
  | 0 => .array .int
  | 1 => .array .int
  | 2 => .object "StationRows$Times"
  | 3 => .object "StationRows$Times"
  | 4 => .array .int
  | 5 => .array .int
  | 6 => .int
  | 7 => .int
  | _ => .int
theorem zn_P : ∀ a, a < 9 → ∀ b, b < 9 → a ≠ b → (zf_P a).2.1 ≠ (zf_P b).2.1 := by decide +kernel
theorem zt_P_ok : ∀ k, k < 9 → parseFieldDescriptor (zf_P k).2.2.1 = some (zt_P k) := by decide +kernel
def zf_Ne : u_T := fun k => match k with
  | _ => ("StationRows$Needs", "needed", "[I", true)
def zt_Ne : Nat → FieldType := fun k => match k with
  | _ => .array .int
theorem zn_Ne : ∀ a, a < 1 → ∀ b, b < 1 → a ≠ b → (zf_Ne a).2.1 ≠ (zf_Ne b).2.1 := by decide +kernel
theorem zt_Ne_ok : ∀ k, k < 1 → parseFieldDescriptor (zf_Ne k).2.2.1 = some (zt_Ne k) := by decide +kernel
def zf_Ch : u_T := fun k => match k with
  | 0 => ("StationRows$Checks", "periods", "[I", true)
  | 1 => ("StationRows$Checks", "latest", "[I", true)
  | 2 => ("StationRows$Checks", "donePlaces", "[I", true)
  | 3 => ("StationRows$Checks", "doneMinutes", "[I", true)
  | _ => ("StationRows$Checks", "doneCount", "I", false)
def zt_Ch : Nat → FieldType := fun k => match k with
  | 0 => .array .int
  | 1 => .array .int
  | 2 => .array .int
  | 3 => .array .int
  | _ => .int
theorem zn_Ch : ∀ a, a < 5 → ∀ b, b < 5 → a ≠ b → (zf_Ch a).2.1 ≠ (zf_Ch b).2.1 := by decide +kernel
theorem zt_Ch_ok : ∀ k, k < 5 → parseFieldDescriptor (zf_Ch k).2.2.1 = some (zt_Ch k) := by decide +kernel
def zf_Ky : u_T := fun k => match k with
  | _ => ("StationRows$Keys", "holders", "[I", true)
def zt_Ky : Nat → FieldType := fun k => match k with
  | _ => .array .int
theorem zn_Ky : ∀ a, a < 1 → ∀ b, b < 1 → a ≠ b → (zf_Ky a).2.1 ≠ (zf_Ky b).2.1 := by decide +kernel
theorem zt_Ky_ok : ∀ k, k < 1 → parseFieldDescriptor (zf_Ky k).2.2.1 = some (zt_Ky k) := by decide +kernel
def zf_S : u_T := fun k => match k with
  | 0 => ("StationRows", "stations", "LStationRows$Stations;", true)
  | 1 => ("StationRows", "vehicles", "LStationRows$Vehicles;", true)
  | 2 => ("StationRows", "persons", "LStationRows$Persons;", true)
  | 3 => ("StationRows", "needs", "LStationRows$Needs;", true)
  | 4 => ("StationRows", "checks", "LStationRows$Checks;", true)
  | _ => ("StationRows", "keys", "LStationRows$Keys;", true)
def zt_S : Nat → FieldType := fun k => match k with
  | 0 => .object "StationRows$Stations"
  | 1 => .object "StationRows$Vehicles"
  | 2 => .object "StationRows$Persons"
  | 3 => .object "StationRows$Needs"
  | 4 => .object "StationRows$Checks"
  | _ => .object "StationRows$Keys"
theorem zn_S : ∀ a, a < 6 → ∀ b, b < 6 → a ≠ b → (zf_S a).2.1 ≠ (zf_S b).2.1 := by decide +kernel
theorem zt_S_ok : ∀ k, k < 6 → parseFieldDescriptor (zf_S k).2.2.1 = some (zt_S k) := by decide +kernel
def zf_M : u_T := fun k => match k with
  | 0 => ("StationRowsModel", "thrown", "I", false)
  | 1 => ("StationRowsModel", "stations", "I", false)
  | 2 => ("StationRowsModel", "doors", "[I", true)
  | 3 => ("StationRowsModel", "opens", "[I", true)
  | 4 => ("StationRowsModel", "shuts", "[I", true)
  | 5 => ("StationRowsModel", "vehicles", "I", false)
  | 6 => ("StationRowsModel", "home", "[I", true)
  | 7 => ("StationRowsModel", "kind", "[I", true)
  | 8 => ("StationRowsModel", "crew", "[I", true)
  | 9 => ("StationRowsModel", "outs", "[I", true)
  | 10 => ("StationRowsModel", "outFrom", "[I", true)
  | 11 => ("StationRowsModel", "outTo", "[I", true)
  | 12 => ("StationRowsModel", "persons", "I", false)
  | 13 => ("StationRowsModel", "lives", "[I", true)
  | 14 => ("StationRowsModel", "distance", "[I", true)
  | 15 => ("StationRowsModel", "duties", "[I", true)
  | 16 => ("StationRowsModel", "dutyFrom", "[I", true)
  | 17 => ("StationRowsModel", "dutyTo", "[I", true)
  | 18 => ("StationRowsModel", "moves", "[I", true)
  | 19 => ("StationRowsModel", "moveTo", "[I", true)
  | 20 => ("StationRowsModel", "moveFrom", "[I", true)
  | 21 => ("StationRowsModel", "moveEnd", "[I", true)
  | 22 => ("StationRowsModel", "limit", "I", false)
  | 23 => ("StationRowsModel", "needs", "[I", true)
  | 24 => ("StationRowsModel", "period", "[I", true)
  | 25 => ("StationRowsModel", "done", "I", false)
  | 26 => ("StationRowsModel", "doneAt", "[I", true)
  | 27 => ("StationRowsModel", "doneCheck", "[I", true)
  | 28 => ("StationRowsModel", "key", "[Z", true)
  | 29 => ("StationRowsModel", "standsFor", "[I", true)
  | 30 => ("StationRowsModel", "standsIn", "[I", true)
  | 31 => ("StationRowsModel", "taken", "[Z", true)
  | 32 => ("StationRowsModel", "many", "[I", true)
  | 33 => ("StationRowsModel", "lowest", "[I", true)
  | _ => ("StationRowsModel", "farthest", "[I", true)
def zt_M : Nat → FieldType := fun k => match k with
  | 0 => .int
  | 1 => .int
  | 2 => .array .int
  | 3 => .array .int
  | 4 => .array .int
  | 5 => .int
  | 6 => .array .int
  | 7 => .array .int
  | 8 => .array .int
  | 9 => .array .int
  | 10 => .array .int
  | 11 => .array .int
  | 12 => .int
  | 13 => .array .int
  | 14 => .array .int
  | 15 => .array .int
  | 16 => .array .int
  | 17 => .array .int
  | 18 => .array .int
  | 19 => .array .int
  | 20 => .array .int
  | 21 => .array .int
  | 22 => .int
  | 23 => .array .int
  | 24 => .array .int
  | 25 => .int
  | 26 => .array .int
  | 27 => .array .int
  | 28 => .array .boolean
  | 29 => .array .int
  | 30 => .array .int
  | 31 => .array .boolean
  | 32 => .array .int
  | 33 => .array .int
  | _ => .array .int
theorem zn_M : ∀ a, a < 35 → ∀ b, b < 35 → a ≠ b → (zf_M a).2.1 ≠ (zf_M b).2.1 := by decide +kernel
theorem zt_M_ok : ∀ k, k < 35 → parseFieldDescriptor (zf_M k).2.2.1 = some (zt_M k) := by decide +kernel
abbrev vwCl : List vw_C := [("StationRows$Times", zf_T, 4), ("StationRows$Stations", zf_St, 4), ("StationRows$Vehicles", zf_V, 7), ("StationRows$Persons", zf_P, 9), ("StationRows$Needs", zf_Ne, 1), ("StationRows$Checks", zf_Ch, 5), ("StationRows$Keys", zf_Ky, 1), ("StationRows", zf_S, 6), ("StationRowsModel", zf_M, 35)]