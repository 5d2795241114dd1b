def R_Zone : String := "RecurrenceDesk$Zone"
def F_Zone : u_T := fun k => match k with
  | 0 => ("RecurrenceDesk$Zone", "minutes", "[I", true)
  | 1 => ("RecurrenceDesk$Zone", "offsets", "[I", true)
  | _ => ("RecurrenceDesk$Zone", "size", "I", false)
def t_Zone : Nat → FieldType := fun k => match k with
  | 0 => .array .int
  | 1 => .array .int
  | _ => .int
theorem n_Zone : ∀ a, a < 3 → ∀ b, b < 3 → a ≠ b → (F_Zone a).2.1 ≠ (F_Zone b).2.1 := by decide +kernel
theorem t_Zone_ok : ∀ k, k < 3 → parseFieldDescriptor (F_Zone k).2.2.1 = some (t_Zone k) := by decide +kernel
def R_Text : String := "RecurrenceDesk$Text"
def F_Text : u_T := fun k => match k with
  | 0 => ("RecurrenceDesk$Text", "row", "[C", true)
  | _ => ("RecurrenceDesk$Text", "size", "I", false)
def t_Text : Nat → FieldType := fun k => match k with
  | 0 => .array .char
  | _ => .int
theorem n_Text : ∀ a, a < 2 → ∀ b, b < 2 → a ≠ b → (F_Text a).2.1 ≠ (F_Text b).2.1 := by decide +kernel
theorem t_Text_ok : ∀ k, k < 2 → parseFieldDescriptor (F_Text k).2.2.1 = some (t_Text k) := by decide +kernel
def R_Reader : String := "RecurrenceDesk$Reader"
def F_Reader : u_T := fun k => match k with
  | 0 => ("RecurrenceDesk$Reader", "row", "[C", true)
  | 1 => ("RecurrenceDesk$Reader", "size", "I", false)
  | _ => ("RecurrenceDesk$Reader", "at", "I", false)
def t_Reader : Nat → FieldType := fun k => match k with
  | 0 => .array .char
  | 1 => .int
  | _ => .int
theorem n_Reader : ∀ a, a < 3 → ∀ b, b < 3 → a ≠ b → (F_Reader a).2.1 ≠ (F_Reader b).2.1 := by decide +kernel
theorem t_Reader_ok : ∀ k, k < 3 → parseFieldDescriptor (F_Reader k).2.2.1 = some (t_Reader k) := by decide +kernel
def R_Date : String := "RecurrenceDesk$Date"
def F_Date : u_T := fun k => match k with
  | 0 => ("RecurrenceDesk$Date", "day", "I", false)
  | 1 => ("RecurrenceDesk$Date", "year", "I", false)
  | 2 => ("RecurrenceDesk$Date", "month", "I", false)
  | 3 => ("RecurrenceDesk$Date", "yearFirst", "I", false)
  | 4 => ("RecurrenceDesk$Date", "yearLength", "I", false)
  | 5 => ("RecurrenceDesk$Date", "monthFirst", "I", false)
  | _ => ("RecurrenceDesk$Date", "monthLength", "I", false)
def t_Date : Nat → FieldType := fun k => match k with
  | 0 => .int
  | 1 => .int
  | 2 => .int
  | 3 => .int
  | 4 => .int
  | 5 => .int
  | _ => .int
theorem n_Date : ∀ a, a < 7 → ∀ b, b < 7 → a ≠ b → (F_Date a).2.1 ≠ (F_Date b).2.1 := by decide +kernel
theorem t_Date_ok : ∀ k, k < 7 → parseFieldDescriptor (F_Date k).2.2.1 = some (t_Date k) := by decide +kernel
def R_Rule : String := "RecurrenceDesk$Rule"
def F_Rule : u_T := fun k => match k with
  | 0 => ("RecurrenceDesk$Rule", "frequency", "I", false)
  | 1 => ("RecurrenceDesk$Rule", "given", "I", false)
  | 2 => ("RecurrenceDesk$Rule", "interval", "I", false)
  | 3 => ("RecurrenceDesk$Rule", "count", "I", false)
  | 4 => ("RecurrenceDesk$Rule", "until", "I", false)
  | 5 => ("RecurrenceDesk$Rule", "weekStart", "I", false)
  | 6 => ("RecurrenceDesk$Rule", "months", "I", false)
  | 7 => ("RecurrenceDesk$Rule", "monthDays", "I", false)
  | 8 => ("RecurrenceDesk$Rule", "monthDaysFromEnd", "I", false)
  | 9 => ("RecurrenceDesk$Rule", "weekdays", "I", false)
  | 10 => ("RecurrenceDesk$Rule", "numberedWeekdays", "[I", true)
  | 11 => ("RecurrenceDesk$Rule", "weekdayNumbers", "[I", true)
  | 12 => ("RecurrenceDesk$Rule", "numberedSize", "I", false)
  | 13 => ("RecurrenceDesk$Rule", "positions", "[I", true)
  | _ => ("RecurrenceDesk$Rule", "positionsSize", "I", false)
def t_Rule : Nat → FieldType := fun k => match k with
  | 0 => .int
  | 1 => .int
  | 2 => .int
  | 3 => .int
  | 4 => .int
  | 5 => .int
  | 6 => .int
  | 7 => .int
  | 8 => .int
  | 9 => .int
  | 10 => .array .int
  | 11 => .array .int
  | 12 => .int
  | 13 => .array .int
  | _ => .int
theorem n_Rule : ∀ a, a < 15 → ∀ b, b < 15 → a ≠ b → (F_Rule a).2.1 ≠ (F_Rule b).2.1 := by decide +kernel
theorem t_Rule_ok : ∀ k, k < 15 → parseFieldDescriptor (F_Rule k).2.2.1 = some (t_Rule k) := by decide +kernel
def R_Times : String := "RecurrenceDesk$Times"
def F_Times : u_T := fun k => match k with
  | 0 => ("RecurrenceDesk$Times", "row", "[I", true)
  | _ => ("RecurrenceDesk$Times", "size", "I", false)
def t_Times : Nat → FieldType := fun k => match k with
  | 0 => .array .int
  | _ => .int
theorem n_Times : ∀ a, a < 2 → ∀ b, b < 2 → a ≠ b → (F_Times a).2.1 ≠ (F_Times b).2.1 := by decide +kernel
theorem t_Times_ok : ∀ k, k < 2 → parseFieldDescriptor (F_Times k).2.2.1 = some (t_Times k) := by decide +kernel
def R_Draft : String := "RecurrenceDesk$Draft"
def F_Draft : u_T := fun k => match k with
  | 0 => ("RecurrenceDesk$Draft", "zone", "I", false)
  | 1 => ("RecurrenceDesk$Draft", "start", "I", false)
  | 2 => ("RecurrenceDesk$Draft", "duration", "I", false)
  | 3 => ("RecurrenceDesk$Draft", "recurring", "Z", false)
  | 4 => ("RecurrenceDesk$Draft", "rule", "LRecurrenceDesk$Rule;", true)
  | 5 => ("RecurrenceDesk$Draft", "added", "LRecurrenceDesk$Times;", true)
  | _ => ("RecurrenceDesk$Draft", "leftOut", "LRecurrenceDesk$Times;", true)
def t_Draft : Nat → FieldType := fun k => match k with
  | 0 => .int
  | 1 => .int
  | 2 => .int
  | 3 => .boolean
  | 4 => .object "RecurrenceDesk$Rule"
  | 5 => .object "RecurrenceDesk$Times"
  | _ => .object "RecurrenceDesk$Times"
theorem n_Draft : ∀ a, a < 7 → ∀ b, b < 7 → a ≠ b → (F_Draft a).2.1 ≠ (F_Draft b).2.1 := by decide +kernel
theorem t_Draft_ok : ∀ k, k < 7 → parseFieldDescriptor (F_Draft k).2.2.1 = some (t_Draft k) := by decide +kernel
def R_Expansion : String := "RecurrenceDesk$Expansion"
def F_Expansion : u_T := fun k => match k with
  | 0 => ("RecurrenceDesk$Expansion", "start", "LRecurrenceDesk$Date;", true)
  | 1 => ("RecurrenceDesk$Expansion", "date", "LRecurrenceDesk$Date;", true)
  | 2 => ("RecurrenceDesk$Expansion", "fitting", "[I", true)
  | _ => ("RecurrenceDesk$Expansion", "fittingSize", "I", false)
def t_Expansion : Nat → FieldType := fun k => match k with
  | 0 => .object "RecurrenceDesk$Date"
  | 1 => .object "RecurrenceDesk$Date"
  | 2 => .array .int
  | _ => .int
theorem n_Expansion : ∀ a, a < 4 → ∀ b, b < 4 → a ≠ b → (F_Expansion a).2.1 ≠ (F_Expansion b).2.1 := by decide +kernel
theorem t_Expansion_ok : ∀ k, k < 4 → parseFieldDescriptor (F_Expansion k).2.2.1 = some (t_Expansion k) := by decide +kernel
def R_Event : String := "RecurrenceDesk$Event"
def F_Event : u_T := fun k => match k with
  | 0 => ("RecurrenceDesk$Event", "starts", "[I", true)
  | 1 => ("RecurrenceDesk$Event", "size", "I", false)
  | _ => ("RecurrenceDesk$Event", "duration", "I", false)
def t_Event : Nat → FieldType := fun k => match k with
  | 0 => .array .int
  | 1 => .int
  | _ => .int
theorem n_Event : ∀ a, a < 3 → ∀ b, b < 3 → a ≠ b → (F_Event a).2.1 ≠ (F_Event b).2.1 := by decide +kernel
theorem t_Event_ok : ∀ k, k < 3 → parseFieldDescriptor (F_Event k).2.2.1 = some (t_Event k) := by decide +kernel
def R_Person : String := "RecurrenceDesk$Person"
def F_Person : u_T := fun k => match k with
  | 0 => ("RecurrenceDesk$Person", "booked", "[LRecurrenceDesk$Event;", true)
  | 1 => ("RecurrenceDesk$Person", "size", "I", false)
  | _ => ("RecurrenceDesk$Person", "busyTimes", "LRecurrenceDesk$BusyTimes;", true)
def t_Person : Nat → FieldType := fun k => match k with
  | 0 => .array (.object "RecurrenceDesk$Event")
  | 1 => .int
  | _ => .object "RecurrenceDesk$BusyTimes"
theorem n_Person : ∀ a, a < 3 → ∀ b, b < 3 → a ≠ b → (F_Person a).2.1 ≠ (F_Person b).2.1 := by decide +kernel
theorem t_Person_ok : ∀ k, k < 3 → parseFieldDescriptor (F_Person k).2.2.1 = some (t_Person k) := by decide +kernel
def R_BusyTimes : String := "RecurrenceDesk$BusyTimes"
def F_BusyTimes : u_T := fun k => match k with
  | 0 => ("RecurrenceDesk$BusyTimes", "firsts", "[I", true)
  | 1 => ("RecurrenceDesk$BusyTimes", "behinds", "[I", true)
  | _ => ("RecurrenceDesk$BusyTimes", "size", "I", false)
def t_BusyTimes : Nat → FieldType := fun k => match k with
  | 0 => .array .int
  | 1 => .array .int
  | _ => .int
theorem n_BusyTimes : ∀ a, a < 3 → ∀ b, b < 3 → a ≠ b → (F_BusyTimes a).2.1 ≠ (F_BusyTimes b).2.1 := by decide +kernel
theorem t_BusyTimes_ok : ∀ k, k < 3 → parseFieldDescriptor (F_BusyTimes k).2.2.1 = some (t_BusyTimes k) := by decide +kernel
def R_K : String := "RecurrenceDesk"
def F_K : u_T := fun k => match k with
  | 0 => ("RecurrenceDesk", "zones", "[LRecurrenceDesk$Zone;", true)
  | 1 => ("RecurrenceDesk", "persons", "[LRecurrenceDesk$Person;", true)
  | 2 => ("RecurrenceDesk", "text", "LRecurrenceDesk$Text;", true)
  | 3 => ("RecurrenceDesk", "reader", "LRecurrenceDesk$Reader;", true)
  | 4 => ("RecurrenceDesk", "draft", "LRecurrenceDesk$Draft;", true)
  | _ => ("RecurrenceDesk", "expansion", "LRecurrenceDesk$Expansion;", true)
def t_K : Nat → FieldType := fun k => match k with
  | 0 => .array (.object "RecurrenceDesk$Zone")
  | 1 => .array (.object "RecurrenceDesk$Person")
  | 2 => .object "RecurrenceDesk$Text"
  | 3 => .object "RecurrenceDesk$Reader"
  | 4 => .object "RecurrenceDesk$Draft"
  | _ => .object "RecurrenceDesk$Expansion"
theorem n_K : ∀ a, a < 6 → ∀ b, b < 6 → a ≠ b → (F_K a).2.1 ≠ (F_K b).2.1 := by decide +kernel
theorem t_K_ok : ∀ k, k < 6 → parseFieldDescriptor (F_K k).2.2.1 = some (t_K k) := by decide +kernel
def R_M : String := "RecurrenceDeskModel"
def F_M : u_T := fun k => match k with
  | 0 => ("RecurrenceDeskModel", "thrown", "I", false)
  | 1 => ("RecurrenceDeskModel", "changes", "[I", true)
  | 2 => ("RecurrenceDeskModel", "changeAt", "[I", true)
  | 3 => ("RecurrenceDeskModel", "changeTo", "[I", true)
  | 4 => ("RecurrenceDeskModel", "typed", "I", false)
  | 5 => ("RecurrenceDeskModel", "text", "[I", true)
  | 6 => ("RecurrenceDeskModel", "size", "I", false)
  | 7 => ("RecurrenceDeskModel", "plain", "[I", true)
  | 8 => ("RecurrenceDeskModel", "at", "I", false)
  | 9 => ("RecurrenceDeskModel", "good", "Z", false)
  | 10 => ("RecurrenceDeskModel", "zone", "I", false)
  | 11 => ("RecurrenceDeskModel", "start", "I", false)
  | 12 => ("RecurrenceDeskModel", "length", "I", false)
  | 13 => ("RecurrenceDeskModel", "extras", "I", false)
  | 14 => ("RecurrenceDeskModel", "extra", "[I", true)
  | 15 => ("RecurrenceDeskModel", "gone", "I", false)
  | 16 => ("RecurrenceDeskModel", "without", "[I", true)
  | 17 => ("RecurrenceDeskModel", "freq", "I", false)
  | 18 => ("RecurrenceDeskModel", "parts", "I", false)
  | 19 => ("RecurrenceDeskModel", "interval", "I", false)
  | 20 => ("RecurrenceDeskModel", "limit", "I", false)
  | 21 => ("RecurrenceDeskModel", "until", "I", false)
  | 22 => ("RecurrenceDeskModel", "weekBegin", "I", false)
  | 23 => ("RecurrenceDeskModel", "months", "I", false)
  | 24 => ("RecurrenceDeskModel", "month", "[I", true)
  | 25 => ("RecurrenceDeskModel", "monthDays", "I", false)
  | 26 => ("RecurrenceDeskModel", "monthDay", "[I", true)
  | 27 => ("RecurrenceDeskModel", "weekdays", "I", false)
  | 28 => ("RecurrenceDeskModel", "weekday", "[I", true)
  | 29 => ("RecurrenceDeskModel", "weekdayNumber", "[I", true)
  | 30 => ("RecurrenceDeskModel", "positions", "I", false)
  | 31 => ("RecurrenceDeskModel", "position", "[I", true)
  | 32 => ("RecurrenceDeskModel", "day", "I", false)
  | 33 => ("RecurrenceDeskModel", "y", "I", false)
  | 34 => ("RecurrenceDeskModel", "m", "I", false)
  | 35 => ("RecurrenceDeskModel", "d", "I", false)
  | 36 => ("RecurrenceDeskModel", "fitting", "I", false)
  | 37 => ("RecurrenceDeskModel", "fit", "[I", true)
  | 38 => ("RecurrenceDeskModel", "taken", "I", false)
  | 39 => ("RecurrenceDeskModel", "listed", "I", false)
  | 40 => ("RecurrenceDeskModel", "list", "[I", true)
  | 41 => ("RecurrenceDeskModel", "booked", "[I", true)
  | 42 => ("RecurrenceDeskModel", "lengths", "[I", true)
  | 43 => ("RecurrenceDeskModel", "counts", "[I", true)
  | _ => ("RecurrenceDeskModel", "begins", "[I", true)
def t_M : Nat → FieldType := fun k => match k with
  | 0 => .int
  | 1 => .array .int
  | 2 => .array .int
  | 3 => .array .int
  | 4 => .int
  | 5 => .array .int
  | 6 => .int
  | 7 => .array .int
  | 8 => .int
  | 9 => .boolean
  | 10 => .int
  | 11 => .int
  | 12 => .int
  | 13 => .int
  | 14 => .array .int
  | 15 => .int
  | 16 => .array .int
  | 17 => .int
  | 18 => .int
  | 19 => .int
  | 20 => .int
  | 21 => .int
  | 22 => .int
  | 23 => .int
  | 24 => .array .int
  | 25 => .int
  | 26 => .array .int
  | 27 => .int
  | 28 => .array .int
  | 29 => .array .int
  | 30 => .int
  | 31 => .array .int
  | 32 => .int
  | 33 => .int
  | 34 => .int
  | 35 => .int
  | 36 => .int
  | 37 => .array .int
  | 38 => .int
  | 39 => .int
  | 40 => .array .int
  | 41 => .array .int
  | 42 => .array .int
  | 43 => .array .int
  | _ => .array .int
theorem n_M : ∀ a, a < 45 → ∀ b, b < 45 → a ≠ b → (F_M a).2.1 ≠ (F_M b).2.1 := by decide +kernel
theorem t_M_ok : ∀ k, k < 45 → parseFieldDescriptor (F_M k).2.2.1 = some (t_M k) := by decide +kernel
def R_L : String := "RecurrenceDeskLaw"
theorem T_Zone_0 : F_Zone 0 = (R_Zone, "minutes", "[I", true) := rfl
theorem T_Zone_1 : F_Zone 1 = (R_Zone, "offsets", "[I", true) := rfl
theorem T_Zone_2 : F_Zone 2 = (R_Zone, "size", "I", false) := rfl
theorem T_Text_0 : F_Text 0 = (R_Text, "row", "[C", true) := rfl
theorem T_Text_1 : F_Text 1 = (R_Text, "size", "I", false) := rfl
theorem T_Reader_0 : F_Reader 0 = (R_Reader, "row", "[C", true) := rfl
theorem T_Reader_1 : F_Reader 1 = (R_Reader, "size", "I", false) := rfl
theorem T_Reader_2 : F_Reader 2 = (R_Reader, "at", "I", false) := rfl
theorem T_Date_0 : F_Date 0 = (R_Date, "day", "I", false) := rfl
theorem T_Date_1 : F_Date 1 = (R_Date, "year", "I", false) := rfl
theorem T_Date_2 : F_Date 2 = (R_Date, "month", "I", false) := rfl
theorem T_Date_3 : F_Date 3 = (R_Date, "yearFirst", "I", false) := rfl
theorem T_Date_4 : F_Date 4 = (R_Date, "yearLength", "I", false) := rfl
theorem T_Date_5 : F_Date 5 = (R_Date, "monthFirst", "I", false) := rfl
theorem T_Date_6 : F_Date 6 = (R_Date, "monthLength", "I", false) := rfl
theorem T_Rule_0 : F_Rule 0 = (R_Rule, "frequency", "I", false) := rfl
theorem T_Rule_1 : F_Rule 1 = (R_Rule, "given", "I", false) := rfl
theorem T_Rule_2 : F_Rule 2 = (R_Rule, "interval", "I", false) := rfl
theorem T_Rule_3 : F_Rule 3 = (R_Rule, "count", "I", false) := rfl
theorem T_Rule_4 : F_Rule 4 = (R_Rule, "until", "I", false) := rfl
theorem T_Rule_5 : F_Rule 5 = (R_Rule, "weekStart", "I", false) := rfl
theorem T_Rule_6 : F_Rule 6 = (R_Rule, "months", "I", false) := rfl
theorem T_Rule_7 : F_Rule 7 = (R_Rule, "monthDays", "I", false) := rfl
theorem T_Rule_8 : F_Rule 8 = (R_Rule, "monthDaysFromEnd", "I", false) := rfl
theorem T_Rule_9 : F_Rule 9 = (R_Rule, "weekdays", "I", false) := rfl
theorem T_Rule_10 : F_Rule 10 = (R_Rule, "numberedWeekdays", "[I", true) := rfl
theorem T_Rule_11 : F_Rule 11 = (R_Rule, "weekdayNumbers", "[I", true) := rfl
theorem T_Rule_12 : F_Rule 12 = (R_Rule, "numberedSize", "I", false) := rfl
theorem T_Rule_13 : F_Rule 13 = (R_Rule, "positions", "[I", true) := rfl
theorem T_Rule_14 : F_Rule 14 = (R_Rule, "positionsSize", "I", false) := rfl
theorem T_Times_0 : F_Times 0 = (R_Times, "row", "[I", true) := rfl
theorem T_Times_1 : F_Times 1 = (R_Times, "size", "I", false) := rfl
theorem T_Draft_0 : F_Draft 0 = (R_Draft, "zone", "I", false) := rfl
theorem T_Draft_1 : F_Draft 1 = (R_Draft, "start", "I", false) := rfl
theorem T_Draft_2 : F_Draft 2 = (R_Draft, "duration", "I", false) := rfl
theorem T_Draft_3 : F_Draft 3 = (R_Draft, "recurring", "Z", false) := rfl
theorem T_Draft_4 : F_Draft 4 = (R_Draft, "rule", "LRecurrenceDesk$Rule;", true) := rfl
theorem T_Draft_5 : F_Draft 5 = (R_Draft, "added", "LRecurrenceDesk$Times;", true) := rfl
theorem T_Draft_6 : F_Draft 6 = (R_Draft, "leftOut", "LRecurrenceDesk$Times;", true) := rfl
theorem T_Expansion_0 : F_Expansion 0 = (R_Expansion, "start", "LRecurrenceDesk$Date;", true) := rfl
theorem T_Expansion_1 : F_Expansion 1 = (R_Expansion, "date", "LRecurrenceDesk$Date;", true) := rfl
theorem T_Expansion_2 : F_Expansion 2 = (R_Expansion, "fitting", "[I", true) := rfl
theorem T_Expansion_3 : F_Expansion 3 = (R_Expansion, "fittingSize", "I", false) := rfl
theorem T_Event_0 : F_Event 0 = (R_Event, "starts", "[I", true) := rfl
theorem T_Event_1 : F_Event 1 = (R_Event, "size", "I", false) := rfl
theorem T_Event_2 : F_Event 2 = (R_Event, "duration", "I", false) := rfl
theorem T_Person_0 : F_Person 0 = (R_Person, "booked", "[LRecurrenceDesk$Event;", true) := rfl
theorem T_Person_1 : F_Person 1 = (R_Person, "size", "I", false) := rfl
theorem T_Person_2 : F_Person 2 = (R_Person, "busyTimes", "LRecurrenceDesk$BusyTimes;", true) := rfl
theorem T_BusyTimes_0 : F_BusyTimes 0 = (R_BusyTimes, "firsts", "[I", true) := rfl
theorem T_BusyTimes_1 : F_BusyTimes 1 = (R_BusyTimes, "behinds", "[I", true) := rfl
theorem T_BusyTimes_2 : F_BusyTimes 2 = (R_BusyTimes, "size", "I", false) := rfl
theorem T_K_0 : F_K 0 = (R_K, "zones", "[LRecurrenceDesk$Zone;", true) := rfl
theorem T_K_1 : F_K 1 = (R_K, "persons", "[LRecurrenceDesk$Person;", true) := rfl
theorem T_K_2 : F_K 2 = (R_K, "text", "LRecurrenceDesk$Text;", true) := rfl
theorem T_K_3 : F_K 3 = (R_K, "reader", "LRecurrenceDesk$Reader;", true) := rfl
theorem T_K_4 : F_K 4 = (R_K, "draft", "LRecurrenceDesk$Draft;", true) := rfl
theorem T_K_5 : F_K 5 = (R_K, "expansion", "LRecurrenceDesk$Expansion;", true) := rfl
theorem T_M_0 : F_M 0 = (R_M, "thrown", "I", false) := rfl
theorem T_M_1 : F_M 1 = (R_M, "changes", "[I", true) := rfl
theorem T_M_2 : F_M 2 = (R_M, "changeAt", "[I", true) := rfl
theorem T_M_3 : F_M 3 = (R_M, "changeTo", "[I", true) := rfl
theorem T_M_4 : F_M 4 = (R_M, "typed", "I", false) := rfl
theorem T_M_5 : F_M 5 = (R_M, "text", "[I", true) := rfl
theorem T_M_6 : F_M 6 = (R_M, "size", "I", false) := rfl
theorem T_M_7 : F_M 7 = (R_M, "plain", "[I", true) := rfl
theorem T_M_8 : F_M 8 = (R_M, "at", "I", false) := rfl
theorem T_M_9 : F_M 9 = (R_M, "good", "Z", false) := rfl
theorem T_M_10 : F_M 10 = (R_M, "zone", "I", false) := rfl
theorem T_M_11 : F_M 11 = (R_M, "start", "I", false) := rfl
theorem T_M_12 : F_M 12 = (R_M, "length", "I", false) := rfl
theorem T_M_13 : F_M 13 = (R_M, "extras", "I", false) := rfl
theorem T_M_14 : F_M 14 = (R_M, "extra", "[I", true) := rfl
theorem T_M_15 : F_M 15 = (R_M, "gone", "I", false) := rfl
theorem T_M_16 : F_M 16 = (R_M, "without", "[I", true) := rfl
theorem T_M_17 : F_M 17 = (R_M, "freq", "I", false) := rfl
theorem T_M_18 : F_M 18 = (R_M, "parts", "I", false) := rfl
theorem T_M_19 : F_M 19 = (R_M, "interval", "I", false) := rfl
theorem T_M_20 : F_M 20 = (R_M, "limit", "I", false) := rfl
theorem T_M_21 : F_M 21 = (R_M, "until", "I", false) := rfl
theorem T_M_22 : F_M 22 = (R_M, "weekBegin", "I", false) := rfl
theorem T_M_23 : F_M 23 = (R_M, "months", "I", false) := rfl
theorem T_M_24 : F_M 24 = (R_M, "month", "[I", true) := rfl
theorem T_M_25 : F_M 25 = (R_M, "monthDays", "I", false) := rfl
theorem T_M_26 : F_M 26 = (R_M, "monthDay", "[I", true) := rfl
theorem T_M_27 : F_M 27 = (R_M, "weekdays", "I", false) := rfl
theorem T_M_28 : F_M 28 = (R_M, "weekday", "[I", true) := rfl
theorem T_M_29 : F_M 29 = (R_M, "weekdayNumber", "[I", true) := rfl
theorem T_M_30 : F_M 30 = (R_M, "positions", "I", false) := rfl
theorem T_M_31 : F_M 31 = (R_M, "position", "[I", true) := rfl
theorem T_M_32 : F_M 32 = (R_M, "day", "I", false) := rfl
theorem T_M_33 : F_M 33 = (R_M, "y", "I", false) := rfl
theorem T_M_34 : F_M 34 = (R_M, "m", "I", false) := rfl
theorem T_M_35 : F_M 35 = (R_M, "d", "I", false) := rfl
theorem T_M_36 : F_M 36 = (R_M, "fitting", "I", false) := rfl
theorem T_M_37 : F_M 37 = (R_M, "fit", "[I", true) := rfl
theorem T_M_38 : F_M 38 = (R_M, "taken", "I", false) := rfl
theorem T_M_39 : F_M 39 = (R_M, "listed", "I", false) := rfl
theorem T_M_40 : F_M 40 = (R_M, "list", "[I", true) := rfl
theorem T_M_41 : F_M 41 = (R_M, "booked", "[I", true) := rfl
theorem T_M_42 : F_M 42 = (R_M, "lengths", "[I", true) := rfl
theorem T_M_43 : F_M 43 = (R_M, "counts", "[I", true) := rfl
theorem T_M_44 : F_M 44 = (R_M, "begins", "[I", true) := rfl
abbrev classes : List vw_C := [(R_Zone, F_Zone, 3), (R_Text, F_Text, 2), (R_Reader, F_Reader, 3), (R_Date, F_Date, 7), (R_Rule, F_Rule, 15), (R_Times, F_Times, 2), (R_Draft, F_Draft, 7), (R_Expansion, F_Expansion, 4), (R_Event, F_Event, 3), (R_Person, F_Person, 3), (R_BusyTimes, F_BusyTimes, 3), (R_K, F_K, 6), (R_M, F_M, 45)]
theorem cl_Zone : classes[0]? = some (R_Zone, F_Zone, 3) := rfl
theorem cl_Text : classes[1]? = some (R_Text, F_Text, 2) := rfl
theorem cl_Reader : classes[2]? = some (R_Reader, F_Reader, 3) := rfl
theorem cl_Date : classes[3]? = some (R_Date, F_Date, 7) := rfl
theorem cl_Rule : classes[4]? = some (R_Rule, F_Rule, 15) := rfl
theorem cl_Times : classes[5]? = some (R_Times, F_Times, 2) := rfl
theorem cl_Draft : classes[6]? = some (R_Draft, F_Draft, 7) := rfl
theorem cl_Expansion : classes[7]? = some (R_Expansion, F_Expansion, 4) := rfl
theorem cl_Event : classes[8]? = some (R_Event, F_Event, 3) := rfl
theorem cl_Person : classes[9]? = some (R_Person, F_Person, 3) := rfl
theorem cl_BusyTimes : classes[10]? = some (R_BusyTimes, F_BusyTimes, 3) := rfl
theorem cl_K : classes[11]? = some (R_K, F_K, 6) := rfl
theorem cl_M : classes[12]? = some (R_M, F_M, 45) := rfl
abbrev TY (k : Nat → ClassId) : List (ClassId × FieldType) := [(k 0, .int), (k 1, .char), (k 2, .long), (k 3, .object "RecurrenceDesk$Zone"), (k 4, .object "RecurrenceDesk$Person"), (k 5, .object "RecurrenceDesk$Event")]
def ALL : List Cond := lw_tbl.filter goodWord
theorem okw {w : Cond} (h : w ∈ lw_tbl) (hg : goodWord w = true) : w ∈ ALL := List.mem_filter.mpr ⟨h, hg⟩
theorem ALL_good : GoodIn ALL ALL := fun w h => ⟨h, good_of_word (List.mem_filter.mp h).2⟩
theorem ALL_tbl {w : Cond} (h : w ∈ ALL) : w ∈ lw_tbl := (List.mem_filter.mp h).1
theorem in_tb {w : Cond} (h : w ∈ tables_1) : w ∈ lw_tbl := List.mem_append_right _ h
theorem in_priv {w : Cond} (h : w ∈ k2_sels lw_privs) : w ∈ lw_tbl := List.mem_append_left _ h
theorem in_t1 {w : Cond} (h : w ∈ tables_1_1) : w ∈ lw_tbl := in_tb (List.mem_append_left _ h)
theorem in_t2 {w : Cond} (h : w ∈ tables_1_2) : w ∈ lw_tbl := in_tb (List.mem_append_right _ (List.mem_append_left _ h))
theorem in_t3 {w : Cond} (h : w ∈ tables_1_3) : w ∈ lw_tbl := in_tb (List.mem_append_right _ (List.mem_append_right _ (List.mem_append_left _ h)))
theorem in_t4 {w : Cond} (h : w ∈ tables_1_4) : w ∈ lw_tbl := in_tb (List.mem_append_right _ (List.mem_append_right _ (List.mem_append_right _ (List.mem_append_left _ h))))
theorem in_t5 {w : Cond} (h : w ∈ tables_1_5) : w ∈ lw_tbl := in_tb (List.mem_append_right _ (List.mem_append_right _ (List.mem_append_right _ (List.mem_append_right _ (List.mem_append_left _ h)))))
theorem in_t6 {w : Cond} (h : w ∈ tables_1_6) : w ∈ lw_tbl := in_tb (List.mem_append_right _ (List.mem_append_right _ (List.mem_append_right _ (List.mem_append_right _ (List.mem_append_right _ h)))))
theorem in_pl {ws : List Cond} (ps : List Nat) (hp : ws = ps.filterMap (fun i => tables_1[i]?)) (hg : ws.all goodWord = true) : ∀ w ∈ ws, w ∈ ALL := by
  intro w hw
  have h1 := List.all_eq_true.mp hg w hw
  rw [hp] at hw
  obtain ⟨i, -, hi⟩ := List.mem_filterMap.mp hw
  exact okw (in_tb (List.mem_of_getElem? hi)) h1
set_option maxRecDepth 100000 in
theorem uw_Zone : ∀ w ∈ u_ws R_Zone F_Zone 3, w ∈ ALL := in_pl [217, 219, 221] rfl rfl
set_option maxRecDepth 100000 in
theorem uw_Text : ∀ w ∈ u_ws R_Text F_Text 2, w ∈ ALL := in_pl [46, 48] rfl rfl
set_option maxRecDepth 100000 in
theorem uw_Reader : ∀ w ∈ u_ws R_Reader F_Reader 3, w ∈ ALL := in_pl [61, 63, 65] rfl rfl
set_option maxRecDepth 100000 in
theorem uw_Date : ∀ w ∈ u_ws R_Date F_Date 7, w ∈ ALL := in_pl [181, 183, 185, 187, 189, 191, 193] rfl rfl
set_option maxRecDepth 100000 in
theorem uw_Rule : ∀ w ∈ u_ws R_Rule F_Rule 15, w ∈ ALL := in_pl [95, 97, 99, 101, 103, 105, 107, 109, 111, 113, 115, 117, 119, 121, 123] rfl rfl
set_option maxRecDepth 100000 in
theorem uw_Times : ∀ w ∈ u_ws R_Times F_Times 2, w ∈ ALL := in_pl [135, 137] rfl rfl
set_option maxRecDepth 100000 in
theorem uw_Draft : ∀ w ∈ u_ws R_Draft F_Draft 7, w ∈ ALL := in_pl [147, 149, 151, 153, 155, 157, 159] rfl rfl
set_option maxRecDepth 100000 in
theorem uw_Expansion : ∀ w ∈ u_ws R_Expansion F_Expansion 4, w ∈ ALL := in_pl [200, 202, 204, 206] rfl rfl
set_option maxRecDepth 100000 in
theorem uw_Event : ∀ w ∈ u_ws R_Event F_Event 3, w ∈ ALL := in_pl [255, 257, 259] rfl rfl
set_option maxRecDepth 100000 in
theorem uw_Person : ∀ w ∈ u_ws R_Person F_Person 3, w ∈ ALL := in_pl [265, 267, 269] rfl rfl
set_option maxRecDepth 100000 in
theorem uw_BusyTimes : ∀ w ∈ u_ws R_BusyTimes F_BusyTimes 3, w ∈ ALL := in_pl [240, 242, 244] rfl rfl
set_option maxRecDepth 100000 in
theorem uw_K : ∀ w ∈ u_ws R_K F_K 6, w ∈ ALL := in_pl [278, 280, 282, 284, 286, 288] rfl rfl
set_option maxRecDepth 100000 in
theorem uw_M : ∀ w ∈ u_ws R_M F_M 45, w ∈ ALL := in_pl [1038, 1040, 1042, 1044, 1046, 1048, 1050, 1052, 1054, 1056, 1058, 1060, 1062, 1064, 1066, 1068, 1070, 1072, 1074, 1076, 1078, 1080, 1082, 1084, 1086, 1088, 1090, 1092, 1094, 1096, 1098, 1100, 1102, 1104, 1106, 1108, 1110, 1112, 1114, 1116, 1118, 1120, 1122, 1124, 1126] rfl rfl
def y_Zone_init : MethodName := ⟨R_Zone, "<init>", "()V"⟩
abbrev b_Zone_init : ByteArray := prog_12_method_1_code
def y_Zone_isFull : MethodName := ⟨R_Zone, "isFull", "()Z"⟩
abbrev b_Zone_isFull : ByteArray := prog_12_method_2_code
def y_Zone_latestChange : MethodName := ⟨R_Zone, "latestChange", "()I"⟩
abbrev b_Zone_latestChange : ByteArray := prog_12_method_3_code
def y_Zone_append : MethodName := ⟨R_Zone, "append", "(II)I"⟩
abbrev b_Zone_append : ByteArray := prog_12_method_4_code
def y_Zone_toWorld : MethodName := ⟨R_Zone, "toWorld", "(I)I"⟩
abbrev b_Zone_toWorld : ByteArray := prog_12_method_5_code
def y_Zone_offsetBefore : MethodName := ⟨R_Zone, "offsetBefore", "(I)I"⟩
abbrev b_Zone_offsetBefore : ByteArray := prog_12_method_6_code
def y_Text_init : MethodName := ⟨R_Text, "<init>", "()V"⟩
abbrev b_Text_init : ByteArray := prog_10_method_1_code
def y_Text_length : MethodName := ⟨R_Text, "length", "()I"⟩
abbrev b_Text_length : ByteArray := prog_10_method_2_code
def y_Text_clear : MethodName := ⟨R_Text, "clear", "()I"⟩
abbrev b_Text_clear : ByteArray := prog_10_method_3_code
def y_Text_append : MethodName := ⟨R_Text, "append", "(JI)Z"⟩
abbrev b_Text_append : ByteArray := prog_10_method_4_code
def y_Text_unfoldInto : MethodName := ⟨R_Text, "unfoldInto", "([C)I"⟩
abbrev b_Text_unfoldInto : ByteArray := prog_10_method_5_code
def y_Text_byteOf : MethodName := ⟨R_Text, "byteOf", "(JI)I"⟩
abbrev b_Text_byteOf : ByteArray := prog_10_method_6_code
def y_Reader_init : MethodName := ⟨R_Reader, "<init>", "()V"⟩
abbrev b_Reader_init : ByteArray := prog_8_method_1_code
def y_Reader_load : MethodName := ⟨R_Reader, "load", "(LRecurrenceDesk$Text;)V"⟩
abbrev b_Reader_load : ByteArray := prog_8_method_2_code
def y_Reader_isAtEnd : MethodName := ⟨R_Reader, "isAtEnd", "()Z"⟩
abbrev b_Reader_isAtEnd : ByteArray := prog_8_method_3_code
def y_Reader_take : MethodName := ⟨R_Reader, "take", "(C)Z"⟩
abbrev b_Reader_take : ByteArray := prog_8_method_4_code
def y_Reader_takeWord : MethodName := ⟨R_Reader, "takeWord", "(Ljava/lang/String;)Z"⟩
abbrev b_Reader_takeWord : ByteArray := prog_8_method_5_code
def y_Reader_isAtNumber : MethodName := ⟨R_Reader, "isAtNumber", "()Z"⟩
abbrev b_Reader_isAtNumber : ByteArray := prog_8_method_6_code
def y_Reader_takeNumber : MethodName := ⟨R_Reader, "takeNumber", "(I)I"⟩
abbrev b_Reader_takeNumber : ByteArray := prog_8_method_7_code
def y_Reader_takeSignedNumber : MethodName := ⟨R_Reader, "takeSignedNumber", "(I)I"⟩
abbrev b_Reader_takeSignedNumber : ByteArray := prog_8_method_8_code
def y_Reader_takeDigits : MethodName := ⟨R_Reader, "takeDigits", "(I)I"⟩
abbrev b_Reader_takeDigits : ByteArray := prog_8_method_9_code
def y_Reader_takeTime : MethodName := ⟨R_Reader, "takeTime", "()I"⟩
abbrev b_Reader_takeTime : ByteArray := prog_8_method_10_code
def y_Reader_takeWeekday : MethodName := ⟨R_Reader, "takeWeekday", "()I"⟩
abbrev b_Reader_takeWeekday : ByteArray := prog_8_method_11_code
def y_Date_init : MethodName := ⟨R_Date, "<init>", "()V"⟩
abbrev b_Date_init : ByteArray := prog_3_method_1_code
def y_Date_firstOfMonth : MethodName := ⟨R_Date, "firstOfMonth", "(II)I"⟩
abbrev b_Date_firstOfMonth : ByteArray := prog_3_method_2_code
def y_Date_lengthOfMonth : MethodName := ⟨R_Date, "lengthOfMonth", "(II)I"⟩
abbrev b_Date_lengthOfMonth : ByteArray := prog_3_method_3_code
def y_Date_moveTo : MethodName := ⟨R_Date, "moveTo", "(I)V"⟩
abbrev b_Date_moveTo : ByteArray := prog_3_method_4_code
def y_Date_findMonth : MethodName := ⟨R_Date, "findMonth", "()V"⟩
abbrev b_Date_findMonth : ByteArray := prog_3_method_5_code
def y_Date_day : MethodName := ⟨R_Date, "day", "()I"⟩
abbrev b_Date_day : ByteArray := prog_3_method_6_code
def y_Date_year : MethodName := ⟨R_Date, "year", "()I"⟩
abbrev b_Date_year : ByteArray := prog_3_method_7_code
def y_Date_month : MethodName := ⟨R_Date, "month", "()I"⟩
abbrev b_Date_month : ByteArray := prog_3_method_8_code
def y_Date_monthNumber : MethodName := ⟨R_Date, "monthNumber", "()I"⟩
abbrev b_Date_monthNumber : ByteArray := prog_3_method_9_code
def y_Date_weekday : MethodName := ⟨R_Date, "weekday", "()I"⟩
abbrev b_Date_weekday : ByteArray := prog_3_method_10_code
def y_Date_dayOfMonth : MethodName := ⟨R_Date, "dayOfMonth", "()I"⟩
abbrev b_Date_dayOfMonth : ByteArray := prog_3_method_11_code
def y_Date_dayOfMonthFromEnd : MethodName := ⟨R_Date, "dayOfMonthFromEnd", "()I"⟩
abbrev b_Date_dayOfMonthFromEnd : ByteArray := prog_3_method_12_code
def y_Date_yearLength : MethodName := ⟨R_Date, "yearLength", "()I"⟩
abbrev b_Date_yearLength : ByteArray := prog_3_method_13_code
def y_Date_monthLength : MethodName := ⟨R_Date, "monthLength", "()I"⟩
abbrev b_Date_monthLength : ByteArray := prog_3_method_14_code
def y_Date_dayOfYear : MethodName := ⟨R_Date, "dayOfYear", "()I"⟩
abbrev b_Date_dayOfYear : ByteArray := prog_3_method_15_code
def y_Date_dayOfYearFromEnd : MethodName := ⟨R_Date, "dayOfYearFromEnd", "()I"⟩
abbrev b_Date_dayOfYearFromEnd : ByteArray := prog_3_method_16_code
def y_Rule_init : MethodName := ⟨R_Rule, "<init>", "()V"⟩
abbrev b_Rule_init : ByteArray := prog_9_method_1_code
def y_Rule_readFrom : MethodName := ⟨R_Rule, "readFrom", "(LRecurrenceDesk$Reader;)Z"⟩
abbrev b_Rule_readFrom : ByteArray := prog_9_method_2_code
def y_Rule_reset : MethodName := ⟨R_Rule, "reset", "()V"⟩
abbrev b_Rule_reset : ByteArray := prog_9_method_3_code
def y_Rule_takeFrequency : MethodName := ⟨R_Rule, "takeFrequency", "(LRecurrenceDesk$Reader;)I"⟩
abbrev b_Rule_takeFrequency : ByteArray := prog_9_method_4_code
def y_Rule_readPart : MethodName := ⟨R_Rule, "readPart", "(LRecurrenceDesk$Reader;)Z"⟩
abbrev b_Rule_readPart : ByteArray := prog_9_method_5_code
def y_Rule_takePartName : MethodName := ⟨R_Rule, "takePartName", "(LRecurrenceDesk$Reader;)I"⟩
abbrev b_Rule_takePartName : ByteArray := prog_9_method_6_code
def y_Rule_readValue : MethodName := ⟨R_Rule, "readValue", "(LRecurrenceDesk$Reader;I)Z"⟩
abbrev b_Rule_readValue : ByteArray := prog_9_method_7_code
def y_Rule_addMonth : MethodName := ⟨R_Rule, "addMonth", "(I)Z"⟩
abbrev b_Rule_addMonth : ByteArray := prog_9_method_8_code
def y_Rule_addMonthDay : MethodName := ⟨R_Rule, "addMonthDay", "(I)Z"⟩
abbrev b_Rule_addMonthDay : ByteArray := prog_9_method_9_code
def y_Rule_addWeekday : MethodName := ⟨R_Rule, "addWeekday", "(ZII)Z"⟩
abbrev b_Rule_addWeekday : ByteArray := prog_9_method_10_code
def y_Rule_addPosition : MethodName := ⟨R_Rule, "addPosition", "(I)Z"⟩
abbrev b_Rule_addPosition : ByteArray := prog_9_method_11_code
def y_Rule_partsAgree : MethodName := ⟨R_Rule, "partsAgree", "()Z"⟩
abbrev b_Rule_partsAgree : ByteArray := prog_9_method_12_code
def y_Rule_has : MethodName := ⟨R_Rule, "has", "(I)Z"⟩
abbrev b_Rule_has : ByteArray := prog_9_method_13_code
def y_Rule_count : MethodName := ⟨R_Rule, "count", "()I"⟩
abbrev b_Rule_count : ByteArray := prog_9_method_14_code
def y_Rule_until : MethodName := ⟨R_Rule, "until", "()I"⟩
abbrev b_Rule_until : ByteArray := prog_9_method_15_code
def y_Rule_periodFirst : MethodName := ⟨R_Rule, "periodFirst", "(ILRecurrenceDesk$Date;)I"⟩
abbrev b_Rule_periodFirst : ByteArray := prog_9_method_16_code
def y_Rule_periodLength : MethodName := ⟨R_Rule, "periodLength", "(LRecurrenceDesk$Date;)I"⟩
abbrev b_Rule_periodLength : ByteArray := prog_9_method_17_code
def y_Rule_fits : MethodName := ⟨R_Rule, "fits", "(LRecurrenceDesk$Date;LRecurrenceDesk$Date;)Z"⟩
abbrev b_Rule_fits : ByteArray := prog_9_method_18_code
def y_Rule_isOneOfMonthDays : MethodName := ⟨R_Rule, "isOneOfMonthDays", "(LRecurrenceDesk$Date;)Z"⟩
abbrev b_Rule_isOneOfMonthDays : ByteArray := prog_9_method_19_code
def y_Rule_isOneOfWeekdays : MethodName := ⟨R_Rule, "isOneOfWeekdays", "(LRecurrenceDesk$Date;)Z"⟩
abbrev b_Rule_isOneOfWeekdays : ByteArray := prog_9_method_20_code
def y_Rule_weekOf : MethodName := ⟨R_Rule, "weekOf", "(I)I"⟩
abbrev b_Rule_weekOf : ByteArray := prog_9_method_21_code
def y_Rule_fitsStart : MethodName := ⟨R_Rule, "fitsStart", "(LRecurrenceDesk$Date;LRecurrenceDesk$Date;)Z"⟩
abbrev b_Rule_fitsStart : ByteArray := prog_9_method_22_code
def y_Rule_staysAt : MethodName := ⟨R_Rule, "staysAt", "(II)Z"⟩
abbrev b_Rule_staysAt : ByteArray := prog_9_method_23_code
def y_Times_init : MethodName := ⟨R_Times, "<init>", "()V"⟩
abbrev b_Times_init : ByteArray := prog_11_method_1_code
def y_Times_clear : MethodName := ⟨R_Times, "clear", "()V"⟩
abbrev b_Times_clear : ByteArray := prog_11_method_2_code
def y_Times_size : MethodName := ⟨R_Times, "size", "()I"⟩
abbrev b_Times_size : ByteArray := prog_11_method_3_code
def y_Times_get : MethodName := ⟨R_Times, "get", "(I)I"⟩
abbrev b_Times_get : ByteArray := prog_11_method_4_code
def y_Times_contain : MethodName := ⟨R_Times, "contain", "(I)Z"⟩
abbrev b_Times_contain : ByteArray := prog_11_method_5_code
def y_Times_readLineFrom : MethodName := ⟨R_Times, "readLineFrom", "(LRecurrenceDesk$Reader;)Z"⟩
abbrev b_Times_readLineFrom : ByteArray := prog_11_method_6_code
def y_Draft_init : MethodName := ⟨R_Draft, "<init>", "()V"⟩
abbrev b_Draft_init : ByteArray := prog_4_method_1_code
def y_Draft_readFrom : MethodName := ⟨R_Draft, "readFrom", "(LRecurrenceDesk$Reader;)Z"⟩
abbrev b_Draft_readFrom : ByteArray := prog_4_method_2_code
def y_Draft_readStart : MethodName := ⟨R_Draft, "readStart", "(LRecurrenceDesk$Reader;)Z"⟩
abbrev b_Draft_readStart : ByteArray := prog_4_method_3_code
def y_Draft_readDuration : MethodName := ⟨R_Draft, "readDuration", "(LRecurrenceDesk$Reader;)Z"⟩
abbrev b_Draft_readDuration : ByteArray := prog_4_method_4_code
def y_Draft_readTimes : MethodName := ⟨R_Draft, "readTimes", "(LRecurrenceDesk$Reader;)Z"⟩
abbrev b_Draft_readTimes : ByteArray := prog_4_method_5_code
def y_Draft_zone : MethodName := ⟨R_Draft, "zone", "()I"⟩
abbrev b_Draft_zone : ByteArray := prog_4_method_6_code
def y_Draft_start : MethodName := ⟨R_Draft, "start", "()I"⟩
abbrev b_Draft_start : ByteArray := prog_4_method_7_code
def y_Draft_duration : MethodName := ⟨R_Draft, "duration", "()I"⟩
abbrev b_Draft_duration : ByteArray := prog_4_method_8_code
def y_Draft_isRecurring : MethodName := ⟨R_Draft, "isRecurring", "()Z"⟩
abbrev b_Draft_isRecurring : ByteArray := prog_4_method_9_code
def y_Draft_rule : MethodName := ⟨R_Draft, "rule", "()LRecurrenceDesk$Rule;"⟩
abbrev b_Draft_rule : ByteArray := prog_4_method_10_code
def y_Draft_added : MethodName := ⟨R_Draft, "added", "()LRecurrenceDesk$Times;"⟩
abbrev b_Draft_added : ByteArray := prog_4_method_11_code
def y_Draft_leftOut : MethodName := ⟨R_Draft, "leftOut", "()LRecurrenceDesk$Times;"⟩
abbrev b_Draft_leftOut : ByteArray := prog_4_method_12_code
def y_Expansion_init : MethodName := ⟨R_Expansion, "<init>", "()V"⟩
abbrev b_Expansion_init : ByteArray := prog_6_method_1_code
def y_Expansion_fill : MethodName := ⟨R_Expansion, "fill", "(LRecurrenceDesk$Event;LRecurrenceDesk$Draft;)V"⟩
abbrev b_Expansion_fill : ByteArray := prog_6_method_2_code
def y_Expansion_offer : MethodName := ⟨R_Expansion, "offer", "(LRecurrenceDesk$Event;LRecurrenceDesk$Draft;I)V"⟩
abbrev b_Expansion_offer : ByteArray := prog_6_method_3_code
def y_Expansion_offerRuleDays : MethodName := ⟨R_Expansion, "offerRuleDays", "(LRecurrenceDesk$Event;LRecurrenceDesk$Draft;)V"⟩
abbrev b_Expansion_offerRuleDays : ByteArray := prog_6_method_4_code
def y_Expansion_gather : MethodName := ⟨R_Expansion, "gather", "(ILRecurrenceDesk$Rule;)V"⟩
abbrev b_Expansion_gather : ByteArray := prog_6_method_5_code
def y_Event_init : MethodName := ⟨R_Event, "<init>", "()V"⟩
abbrev b_Event_init : ByteArray := prog_5_method_1_code
def y_Event_begin : MethodName := ⟨R_Event, "begin", "(I)V"⟩
abbrev b_Event_begin : ByteArray := prog_5_method_2_code
def y_Event_size : MethodName := ⟨R_Event, "size", "()I"⟩
abbrev b_Event_size : ByteArray := prog_5_method_3_code
def y_Event_start : MethodName := ⟨R_Event, "start", "(I)I"⟩
abbrev b_Event_start : ByteArray := prog_5_method_4_code
def y_Event_duration : MethodName := ⟨R_Event, "duration", "()I"⟩
abbrev b_Event_duration : ByteArray := prog_5_method_5_code
def y_Event_isFullBefore : MethodName := ⟨R_Event, "isFullBefore", "(I)Z"⟩
abbrev b_Event_isFullBefore : ByteArray := prog_5_method_6_code
def y_Event_insert : MethodName := ⟨R_Event, "insert", "(I)V"⟩
abbrev b_Event_insert : ByteArray := prog_5_method_7_code
def y_Event_moveToWorld : MethodName := ⟨R_Event, "moveToWorld", "(LRecurrenceDesk$Zone;)V"⟩
abbrev b_Event_moveToWorld : ByteArray := prog_5_method_8_code
def y_Person_init : MethodName := ⟨R_Person, "<init>", "()V"⟩
abbrev b_Person_init : ByteArray := prog_7_method_1_code
def y_Person_size : MethodName := ⟨R_Person, "size", "()I"⟩
abbrev b_Person_size : ByteArray := prog_7_method_2_code
def y_Person_has : MethodName := ⟨R_Person, "has", "(I)Z"⟩
abbrev b_Person_has : ByteArray := prog_7_method_3_code
def y_Person_instanceCount : MethodName := ⟨R_Person, "instanceCount", "(I)I"⟩
abbrev b_Person_instanceCount : ByteArray := prog_7_method_4_code
def y_Person_instanceStart : MethodName := ⟨R_Person, "instanceStart", "(II)I"⟩
abbrev b_Person_instanceStart : ByteArray := prog_7_method_5_code
def y_Person_spare : MethodName := ⟨R_Person, "spare", "()LRecurrenceDesk$Event;"⟩
abbrev b_Person_spare : ByteArray := prog_7_method_6_code
def y_Person_keepSpare : MethodName := ⟨R_Person, "keepSpare", "()V"⟩
abbrev b_Person_keepSpare : ByteArray := prog_7_method_7_code
def y_Person_remove : MethodName := ⟨R_Person, "remove", "(I)I"⟩
abbrev b_Person_remove : ByteArray := prog_7_method_8_code
def y_Person_recountBusyTimes : MethodName := ⟨R_Person, "recountBusyTimes", "()V"⟩
abbrev b_Person_recountBusyTimes : ByteArray := prog_7_method_9_code
def y_Person_busyTimes : MethodName := ⟨R_Person, "busyTimes", "()LRecurrenceDesk$BusyTimes;"⟩
abbrev b_Person_busyTimes : ByteArray := prog_7_method_10_code
def y_BusyTimes_init : MethodName := ⟨R_BusyTimes, "<init>", "()V"⟩
abbrev b_BusyTimes_init : ByteArray := prog_2_method_1_code
def y_BusyTimes_size : MethodName := ⟨R_BusyTimes, "size", "()I"⟩
abbrev b_BusyTimes_size : ByteArray := prog_2_method_2_code
def y_BusyTimes_clear : MethodName := ⟨R_BusyTimes, "clear", "()V"⟩
abbrev b_BusyTimes_clear : ByteArray := prog_2_method_3_code
def y_BusyTimes_first : MethodName := ⟨R_BusyTimes, "first", "(I)I"⟩
abbrev b_BusyTimes_first : ByteArray := prog_2_method_4_code
def y_BusyTimes_behind : MethodName := ⟨R_BusyTimes, "behind", "(I)I"⟩
abbrev b_BusyTimes_behind : ByteArray := prog_2_method_5_code
def y_BusyTimes_addInstances : MethodName := ⟨R_BusyTimes, "addInstances", "(LRecurrenceDesk$Event;)V"⟩
abbrev b_BusyTimes_addInstances : ByteArray := prog_2_method_6_code
def y_BusyTimes_add : MethodName := ⟨R_BusyTimes, "add", "(II)V"⟩
abbrev b_BusyTimes_add : ByteArray := prog_2_method_7_code
def y_BusyTimes_replace : MethodName := ⟨R_BusyTimes, "replace", "(IIII)V"⟩
abbrev b_BusyTimes_replace : ByteArray := prog_2_method_8_code
def y_BusyTimes_cover : MethodName := ⟨R_BusyTimes, "cover", "(I)Z"⟩
abbrev b_BusyTimes_cover : ByteArray := prog_2_method_9_code
def y_BusyTimes_freeFrom : MethodName := ⟨R_BusyTimes, "freeFrom", "(II)I"⟩
abbrev b_BusyTimes_freeFrom : ByteArray := prog_2_method_10_code
def y_K_init : MethodName := ⟨R_K, "<init>", "()V"⟩
abbrev b_K_init : ByteArray := prog_1_method_1_code
def y_K_change : MethodName := ⟨R_K, "change", "(III)I"⟩
abbrev b_K_change : ByteArray := prog_1_method_2_code
def y_K_type : MethodName := ⟨R_K, "type", "(JI)I"⟩
abbrev b_K_type : ByteArray := prog_1_method_3_code
def y_K_wipe : MethodName := ⟨R_K, "wipe", "()I"⟩
abbrev b_K_wipe : ByteArray := prog_1_method_4_code
def y_K_book : MethodName := ⟨R_K, "book", "(I)I"⟩
abbrev b_K_book : ByteArray := prog_1_method_5_code
def y_K_cancel : MethodName := ⟨R_K, "cancel", "(II)I"⟩
abbrev b_K_cancel : ByteArray := prog_1_method_6_code
def y_K_events : MethodName := ⟨R_K, "events", "(I)I"⟩
abbrev b_K_events : ByteArray := prog_1_method_7_code
def y_K_instances : MethodName := ⟨R_K, "instances", "(II)I"⟩
abbrev b_K_instances : ByteArray := prog_1_method_8_code
def y_K_instance : MethodName := ⟨R_K, "instance", "(III)I"⟩
abbrev b_K_instance : ByteArray := prog_1_method_9_code
def y_K_world : MethodName := ⟨R_K, "world", "(II)I"⟩
abbrev b_K_world : ByteArray := prog_1_method_10_code
def y_K_busy : MethodName := ⟨R_K, "busy", "(II)Z"⟩
abbrev b_K_busy : ByteArray := prog_1_method_11_code
def y_K_stretches : MethodName := ⟨R_K, "stretches", "(I)I"⟩
abbrev b_K_stretches : ByteArray := prog_1_method_12_code
def y_K_stretch : MethodName := ⟨R_K, "stretch", "(III)I"⟩
abbrev b_K_stretch : ByteArray := prog_1_method_13_code
def y_K_slot : MethodName := ⟨R_K, "slot", "(IIII)I"⟩
abbrev b_K_slot : ByteArray := prog_1_method_14_code
def y_K_passStretches : MethodName := ⟨R_K, "passStretches", "(III)I"⟩
abbrev b_K_passStretches : ByteArray := prog_1_method_15_code
def y_K_isPerson : MethodName := ⟨R_K, "isPerson", "(I)Z"⟩
abbrev b_K_isPerson : ByteArray := prog_1_method_16_code
def y_K_isZone : MethodName := ⟨R_K, "isZone", "(I)Z"⟩
abbrev b_K_isZone : ByteArray := prog_1_method_17_code
def y_K_isMinute : MethodName := ⟨R_K, "isMinute", "(I)Z"⟩
abbrev b_K_isMinute : ByteArray := prog_1_method_18_code
def y_M_init : MethodName := ⟨R_M, "<init>", "()V"⟩
abbrev b_M_init : ByteArray := prog_14_method_1_code
def y_M_thrown : MethodName := ⟨R_M, "thrown", "()I"⟩
abbrev b_M_thrown : ByteArray := prog_14_method_2_code
def y_M_refuse : MethodName := ⟨R_M, "refuse", "(I)I"⟩
abbrev b_M_refuse : ByteArray := prog_14_method_3_code
def y_M_within : MethodName := ⟨R_M, "within", "(III)Z"⟩
abbrev b_M_within : ByteArray := prog_14_method_4_code
def y_M_change : MethodName := ⟨R_M, "change", "(III)I"⟩
abbrev b_M_change : ByteArray := prog_14_method_5_code
def y_M_worldOf : MethodName := ⟨R_M, "worldOf", "(II)I"⟩
abbrev b_M_worldOf : ByteArray := prog_14_method_6_code
def y_M_world : MethodName := ⟨R_M, "world", "(II)I"⟩
abbrev b_M_world : ByteArray := prog_14_method_7_code
def y_M_type : MethodName := ⟨R_M, "type", "(JI)I"⟩
abbrev b_M_type : ByteArray := prog_14_method_8_code
def y_M_wipe : MethodName := ⟨R_M, "wipe", "()I"⟩
abbrev b_M_wipe : ByteArray := prog_14_method_9_code
def y_M_unfold : MethodName := ⟨R_M, "unfold", "()V"⟩
abbrev b_M_unfold : ByteArray := prog_14_method_10_code
def y_M_peek : MethodName := ⟨R_M, "peek", "()I"⟩
abbrev b_M_peek : ByteArray := prog_14_method_11_code
def y_M_need : MethodName := ⟨R_M, "need", "(Z)V"⟩
abbrev b_M_need : ByteArray := prog_14_method_12_code
def y_M_word : MethodName := ⟨R_M, "word", "(JI)Z"⟩
abbrev b_M_word : ByteArray := prog_14_method_13_code
def y_M_isDigit : MethodName := ⟨R_M, "isDigit", "(I)Z"⟩
abbrev b_M_isDigit : ByteArray := prog_14_method_14_code
def y_M_digits : MethodName := ⟨R_M, "digits", "(I)I"⟩
abbrev b_M_digits : ByteArray := prog_14_method_15_code
def y_M_number : MethodName := ⟨R_M, "number", "(I)I"⟩
abbrev b_M_number : ByteArray := prog_14_method_16_code
def y_M_signed : MethodName := ⟨R_M, "signed", "(I)I"⟩
abbrev b_M_signed : ByteArray := prog_14_method_17_code
def y_M_daysOf : MethodName := ⟨R_M, "daysOf", "(II)I"⟩
abbrev b_M_daysOf : ByteArray := prog_14_method_18_code
def y_M_newYear : MethodName := ⟨R_M, "newYear", "(I)I"⟩
abbrev b_M_newYear : ByteArray := prog_14_method_19_code
def y_M_readTime : MethodName := ⟨R_M, "readTime", "()I"⟩
abbrev b_M_readTime : ByteArray := prog_14_method_20_code
def y_M_readWeekday : MethodName := ⟨R_M, "readWeekday", "()I"⟩
abbrev b_M_readWeekday : ByteArray := prog_14_method_21_code
def y_M_readList : MethodName := ⟨R_M, "readList", "(I)V"⟩
abbrev b_M_readList : ByteArray := prog_14_method_22_code
def y_M_readName : MethodName := ⟨R_M, "readName", "()I"⟩
abbrev b_M_readName : ByteArray := prog_14_method_23_code
def y_M_readPart : MethodName := ⟨R_M, "readPart", "()V"⟩
abbrev b_M_readPart : ByteArray := prog_14_method_24_code
def y_M_readRule : MethodName := ⟨R_M, "readRule", "()V"⟩
abbrev b_M_readRule : ByteArray := prog_14_method_25_code
def y_M_readTimes : MethodName := ⟨R_M, "readTimes", "(Z)V"⟩
abbrev b_M_readTimes : ByteArray := prog_14_method_26_code
def y_M_forget : MethodName := ⟨R_M, "forget", "()V"⟩
abbrev b_M_forget : ByteArray := prog_14_method_27_code
def y_M_readEvent : MethodName := ⟨R_M, "readEvent", "()Z"⟩
abbrev b_M_readEvent : ByteArray := prog_14_method_28_code
def y_M_weekdayNow : MethodName := ⟨R_M, "weekdayNow", "()I"⟩
abbrev b_M_weekdayNow : ByteArray := prog_14_method_29_code
def y_M_goTo : MethodName := ⟨R_M, "goTo", "(I)V"⟩
abbrev b_M_goTo : ByteArray := prog_14_method_30_code
def y_M_nextDay : MethodName := ⟨R_M, "nextDay", "()V"⟩
abbrev b_M_nextDay : ByteArray := prog_14_method_31_code
def y_M_periodNow : MethodName := ⟨R_M, "periodNow", "()I"⟩
abbrev b_M_periodNow : ByteArray := prog_14_method_32_code
def y_M_fitsMonth : MethodName := ⟨R_M, "fitsMonth", "()Z"⟩
abbrev b_M_fitsMonth : ByteArray := prog_14_method_33_code
def y_M_fitsMonthDay : MethodName := ⟨R_M, "fitsMonthDay", "()Z"⟩
abbrev b_M_fitsMonthDay : ByteArray := prog_14_method_34_code
def y_M_fitsWeekday : MethodName := ⟨R_M, "fitsWeekday", "()Z"⟩
abbrev b_M_fitsWeekday : ByteArray := prog_14_method_35_code
def y_M_fitsStart : MethodName := ⟨R_M, "fitsStart", "(III)Z"⟩
abbrev b_M_fitsStart : ByteArray := prog_14_method_36_code
def y_M_add : MethodName := ⟨R_M, "add", "(I)V"⟩
abbrev b_M_add : ByteArray := prog_14_method_37_code
def y_M_isPosition : MethodName := ⟨R_M, "isPosition", "(I)Z"⟩
abbrev b_M_isPosition : ByteArray := prog_14_method_38_code
def y_M_closePeriod : MethodName := ⟨R_M, "closePeriod", "()V"⟩
abbrev b_M_closePeriod : ByteArray := prog_14_method_39_code
def y_M_followRule : MethodName := ⟨R_M, "followRule", "()V"⟩
abbrev b_M_followRule : ByteArray := prog_14_method_40_code
def y_M_isGone : MethodName := ⟨R_M, "isGone", "(I)Z"⟩
abbrev b_M_isGone : ByteArray := prog_14_method_41_code
def y_M_book : MethodName := ⟨R_M, "book", "(I)I"⟩
abbrev b_M_book : ByteArray := prog_14_method_42_code
def y_M_isEvent : MethodName := ⟨R_M, "isEvent", "(II)Z"⟩
abbrev b_M_isEvent : ByteArray := prog_14_method_43_code
def y_M_cancel : MethodName := ⟨R_M, "cancel", "(II)I"⟩
abbrev b_M_cancel : ByteArray := prog_14_method_44_code
def y_M_events : MethodName := ⟨R_M, "events", "(I)I"⟩
abbrev b_M_events : ByteArray := prog_14_method_45_code
def y_M_instances : MethodName := ⟨R_M, "instances", "(II)I"⟩
abbrev b_M_instances : ByteArray := prog_14_method_46_code
def y_M_instance : MethodName := ⟨R_M, "instance", "(III)I"⟩
abbrev b_M_instance : ByteArray := prog_14_method_47_code
def y_M_busyFrom : MethodName := ⟨R_M, "busyFrom", "(II)I"⟩
abbrev b_M_busyFrom : ByteArray := prog_14_method_48_code
def y_M_freeFrom : MethodName := ⟨R_M, "freeFrom", "(II)I"⟩
abbrev b_M_freeFrom : ByteArray := prog_14_method_49_code
def y_M_busy : MethodName := ⟨R_M, "busy", "(II)Z"⟩
abbrev b_M_busy : ByteArray := prog_14_method_50_code
def y_M_stretches : MethodName := ⟨R_M, "stretches", "(I)I"⟩
abbrev b_M_stretches : ByteArray := prog_14_method_51_code
def y_M_stretch : MethodName := ⟨R_M, "stretch", "(III)I"⟩
abbrev b_M_stretch : ByteArray := prog_14_method_52_code
def y_M_slot : MethodName := ⟨R_M, "slot", "(IIII)I"⟩
abbrev b_M_slot : ByteArray := prog_14_method_53_code
def y_L_change : MethodName := ⟨R_L, "change", "(LRecurrenceDesk;III[J)I"⟩
abbrev b_L_change : ByteArray := method_3_code
def y_L_book : MethodName := ⟨R_L, "book", "(LRecurrenceDesk;I[J)I"⟩
abbrev b_L_book : ByteArray := method_4_code
def y_L_cancel : MethodName := ⟨R_L, "cancel", "(LRecurrenceDesk;II[J)I"⟩
abbrev b_L_cancel : ByteArray := method_5_code
def y_L_slot : MethodName := ⟨R_L, "slot", "(LRecurrenceDesk;IIII[J)I"⟩
abbrev b_L_slot : ByteArray := method_6_code
def y_String_length : MethodName := ⟨"java/lang/String", "length", "()I"⟩
abbrev b_String_length : ByteArray := prog_20_method_54_code
def y_String_coder : MethodName := ⟨"java/lang/String", "coder", "()B"⟩
abbrev b_String_coder : ByteArray := prog_20_method_152_code
def y_String_isLatin1 : MethodName := ⟨"java/lang/String", "isLatin1", "()Z"⟩
abbrev b_String_isLatin1 : ByteArray := prog_20_method_154_code
def y_String_charAt : MethodName := ⟨"java/lang/String", "charAt", "(I)C"⟩
abbrev b_String_charAt : ByteArray := prog_20_method_56_code
def y_String_checkIndex : MethodName := ⟨"java/lang/String", "checkIndex", "(II)V"⟩
abbrev b_String_checkIndex : ByteArray := prog_20_method_155_code
def y_StringLatin1_charAt : MethodName := ⟨"java/lang/StringLatin1", "charAt", "([BI)C"⟩
abbrev b_StringLatin1_charAt : ByteArray := prog_21_method_2_code
def y_Preconditions_checkIndex : MethodName := ⟨"jdk/internal/util/Preconditions", "checkIndex", "(IILjava/util/function/BiFunction;)I"⟩
abbrev b_Preconditions_checkIndex : ByteArray := prog_26_method_11_code
def sBy : List (List Int32) := [[110, 111, 32, 115, 117, 99, 104, 32, 122, 111, 110, 101, 44, 32, 111, 114, 32, 110, 111, 32, 108, 97, 116, 101, 114, 32, 109, 105, 110, 117, 116, 101], [116, 104, 101, 32, 111, 102, 102, 115, 101, 116, 32, 105, 115, 32, 111, 117, 116, 32, 111, 102, 32, 105, 116, 115, 32, 98, 111, 117, 110, 100, 115], [116, 104, 101, 32, 122, 111, 110, 101, 32, 104, 97, 115, 32, 97, 108, 108, 32, 105, 116, 115, 32, 99, 104, 97, 110, 103, 101, 115], [110, 111, 32, 115, 117, 99, 104, 32, 112, 101, 114, 115, 111, 110], [116, 104, 101, 32, 116, 101, 120, 116, 32, 105, 115, 32, 110, 111, 32, 101, 118, 101, 110, 116], [116, 104, 101, 32, 112, 101, 114, 115, 111, 110, 32, 104, 97, 115, 32, 97, 108, 108, 32, 116, 104, 101, 105, 114, 32, 101, 118, 101, 110, 116, 115], [110, 111, 32, 115, 117, 99, 104, 32, 101, 118, 101, 110, 116], [110, 111, 32, 115, 117, 99, 104, 32, 112, 101, 111, 112, 108, 101, 32, 111, 114, 32, 109, 105, 110, 117, 116, 101, 115], [116, 104, 101, 32, 108, 101, 110, 103, 116, 104, 32, 105, 115, 32, 111, 117, 116, 32, 111, 102, 32, 105, 116, 115, 32, 98, 111, 117, 110, 100, 115], [116, 104, 101, 121, 32, 97, 114, 101, 32, 110, 111, 116, 32, 102, 114, 101, 101, 32, 116, 111, 103, 101, 116, 104, 101, 114], [82, 82, 85, 76, 69, 58], [68, 84, 83, 84, 65, 82, 84], [59, 84, 90, 73, 68, 61], [68, 85, 82, 65, 84, 73, 79, 78, 58, 80, 84], [69, 88, 68, 65, 84, 69, 58], [82, 68, 65, 84, 69, 58], [77, 79, 84, 85, 87, 69, 84, 72, 70, 82, 83, 65, 83, 85], [70, 82, 69, 81, 61, 68, 65, 73, 76, 89], [70, 82, 69, 81, 61, 87, 69, 69, 75, 76, 89], [70, 82, 69, 81, 61, 77, 79, 78, 84, 72, 76, 89], [70, 82, 69, 81, 61, 89, 69, 65, 82, 76, 89], [73, 78, 84, 69, 82, 86, 65, 76, 61], [67, 79, 85, 78, 84, 61], [85, 78, 84, 73, 76, 61], [66, 89, 77, 79, 78, 84, 72, 61], [66, 89, 77, 79, 78, 84, 72, 68, 65, 89, 61], [66, 89, 68, 65, 89, 61], [66, 89, 83, 69, 84, 80, 79, 83, 61], [87, 75, 83, 84, 61]]
def STR : List (String × Nat × String × Nat) := [(R_K, 64, "no such zone, or no later minute", 0), (R_K, 69, "the offset is out of its bounds", 1), (R_K, 77, "the zone has all its changes", 2), (R_K, 97, "no such person", 3), (R_K, 107, "the text is no event", 4), (R_K, 113, "the person has all their events", 5), (R_K, 137, "no such event", 6), (R_K, 169, "no such people or minutes", 7), (R_K, 171, "the length is out of its bounds", 8), (R_K, 179, "they are not free together", 9), (R_Draft, 35, "RRULE:", 10), (R_Draft, 65, "DTSTART", 11), (R_Draft, 67, ";TZID=", 12), (R_Draft, 80, "DURATION:PT", 13), (R_Draft, 91, "EXDATE:", 14), (R_Draft, 96, "RDATE:", 15), (R_Reader, 58, "MOTUWETHFRSASU", 16), (R_Rule, 80, "FREQ=DAILY", 17), (R_Rule, 86, "FREQ=WEEKLY", 18), (R_Rule, 88, "FREQ=MONTHLY", 19), (R_Rule, 90, "FREQ=YEARLY", 20), (R_Rule, 103, "INTERVAL=", 21), (R_Rule, 105, "COUNT=", 22), (R_Rule, 107, "UNTIL=", 23), (R_Rule, 109, "BYMONTH=", 24), (R_Rule, 111, "BYMONTHDAY=", 25), (R_Rule, 113, "BYDAY=", 26), (R_Rule, 115, "BYSETPOS=", 27), (R_Rule, 117, "WKST=", 28)]
def NEST : List (String × Nat × MethodName × String) := [(R_K, 23, y_Text_init, R_K), (R_K, 30, y_Reader_init, R_K), (R_K, 37, y_Draft_init, R_K), (R_K, 44, y_Expansion_init, R_K), (R_K, 49, y_Zone_init, R_K), (R_Draft, 11, y_Rule_init, R_K), (R_Draft, 20, y_Times_init, R_K), (R_Expansion, 11, y_Date_init, R_K), (R_Person, 19, y_BusyTimes_init, R_K), (R_Person, 24, y_Event_init, R_K)]
def AOS : List String := [R_Zone, R_Person, R_Event]
/-! cells set in place behind a call; contracts in one form -/
def setL (n : Nat) : List Nat → va_W → Nat × va_E → Nat × va_E
  | i :: is, x :: xs, c => cond (Nat.beq i n) x (setL n is xs c)
  | _, _, c => c
def setM : va_W → Nat → List Nat → va_W → va_W
  | [], _, _, _ => []
  | c :: ws, n, is, xs => setL n is xs c :: setM ws (n + 1) is xs
def setAll (ws : va_W) (is : List Nat) (xs : va_W) : va_W := setM ws 0 is xs
theorem setL_get (n : Nat) : ∀ (is : List Nat) (xs : va_W) (c : Nat × va_E), is.length = xs.length → (∃ j : Nat, is[j]? = some n ∧ xs[j]? = some (setL n is xs c)) ∨ (n ∉ is ∧ setL n is xs c = c)
  | [], [], c, _ => Or.inr ⟨List.not_mem_nil, rfl⟩
  | [], _ :: _, _, hl => by cases hl
  | _ :: _, [], _, hl => by cases hl
  | i :: is, x :: xs, c, hl => by
    have hl' : is.length = xs.length := by simpa using hl
    cases hb : Nat.beq i n with
    | true =>
      have hi : i = n := Nat.eq_of_beq_eq_true hb
      refine Or.inl ⟨0, by rw [hi]; rfl, ?_⟩
      show some x = some (cond (Nat.beq i n) x (setL n is xs c))
      rw [hb]
      rfl
    | false =>
      have hi : i ≠ n := Nat.ne_of_beq_eq_false hb
      have e : setL n (i :: is) (x :: xs) c = setL n is xs c := by
        show cond (Nat.beq i n) x (setL n is xs c) = _
        rw [hb]
        rfl
      rw [e]
      rcases setL_get n is xs c hl' with ⟨j, h1, h2⟩ | ⟨h1, h2⟩
      · exact Or.inl ⟨j + 1, by simpa using h1, by simpa using h2⟩
      · refine Or.inr ⟨fun hm => ?_, h2⟩
        rcases List.mem_cons.mp hm with h3 | h3
        · exact hi h3.symm
        · exact h1 h3
theorem setM_get : ∀ (ws : va_W) (n : Nat) (is : List Nat) (xs : va_W) (k : Nat) (q : Nat × va_E), is.length = xs.length → (setM ws n is xs)[k]? = some q → (∃ j : Nat, is[j]? = some (n + k) ∧ xs[j]? = some q) ∨ (n + k ∉ is ∧ ws[k]? = some q)
  | [], n, is, xs, k, q, _, h => by simp [setM] at h
  | c :: ws, n, is, xs, 0, q, hl, h => by
    have h' : some (setL n is xs c) = some q := h
    have h2 := Option.some.inj h'
    subst h2
    rcases setL_get n is xs c hl with ⟨j, h1, h2⟩ | ⟨h1, h2⟩
    · exact Or.inl ⟨j, h1, h2⟩
    · exact Or.inr ⟨h1, by rw [h2]; rfl⟩
  | c :: ws, n, is, xs, k + 1, q, hl, h => by
    have h' : (setM ws (n + 1) is xs)[k]? = some q := h
    rcases setM_get ws (n + 1) is xs k q hl h' with ⟨j, h1, h2⟩ | ⟨h1, h2⟩
    · exact Or.inl ⟨j, by rw [h1, show n + 1 + k = n + (k + 1) by omega], h2⟩
    · exact Or.inr ⟨by rw [show n + (k + 1) = n + 1 + k by omega]; exact h1, h2⟩
theorem setAll_get (is : List Nat) (xs ws : va_W) (k : Nat) (q : Nat × va_E) (hl : is.length = xs.length) (h : (setAll ws is xs)[k]? = some q) : (∃ j : Nat, is[j]? = some k ∧ xs[j]? = some q) ∨ (k ∉ is ∧ ws[k]? = some q) := by
  have h2 := setM_get ws 0 is xs k q hl h
  rw [Nat.zero_add] at h2
  exact h2
theorem setAll_P {A : Nat → Prop} {D : va_G} {cl : List vw_C} {ws wc w1 : va_W} {H H1 : Heap} (hP : va_P D cl ws H) (hD : va_D A ws) (isC : List Nat) (hC : isC.map (fun i => ws[i]?) = wc.map some) (hlen : isC.length = w1.length)
    (hk : ∀ q : Nat, q < H.size → ¬ va_A wc H.size q → H1[q]? = H[q]?) (hP1 : va_P D cl w1 H1) : va_P D cl (setAll ws isC w1) H1 := by
  intro k q hq
  rcases setAll_get isC w1 ws k q hlen hq with ⟨j, _, h2⟩ | ⟨h1, h2⟩
  · exact hP1 j q h2
  · have hl := (hP k q h2).lt
    refine (hP k q h2).kept (hk q.1 hl (fun h => ?_))
    rcases h with ⟨k2, e, h⟩ | h
    · have h3 : (isC.map (fun i => ws[i]?))[k2]? = some (some (q.1, e)) := by rw [hC, List.getElem?_map, h]; rfl
      rw [List.getElem?_map] at h3
      cases hi : isC[k2]? with
      | none => rw [hi] at h3; cases h3
      | some i =>
        rw [hi] at h3
        have h4 : ws[i]? = some (q.1, e) := Option.some.inj h3
        have h5 := hD.1 k i q (q.1, e) h2 h4 rfl
        subst h5
        exact h1 (List.mem_of_getElem? hi)
    · omega
theorem va_D_addr {A : Nat → Prop} {ws ws' : va_W} (hD : va_D A ws) (h : ws'.map (fun q => q.1) = ws.map (fun q => q.1)) : va_D A ws' := by
  have key : ∀ (k : Nat) (q : Nat × va_E), ws'[k]? = some q → ∃ q0, ws[k]? = some q0 ∧ q0.1 = q.1 := by
    intro k q hk
    have h1 : (ws'.map (fun q => q.1))[k]? = some q.1 := by rw [List.getElem?_map, hk]; rfl
    rw [h, List.getElem?_map] at h1
    cases hq : ws[k]? with
    | none => rw [hq] at h1; cases h1
    | some q0 => rw [hq] at h1; exact ⟨q0, rfl, Option.some.inj h1⟩
  refine ⟨fun i j x y hi hj hxy => ?_, fun k q hk => ?_⟩
  · obtain ⟨x0, h1, h2⟩ := key i x hi
    obtain ⟨y0, h3, h4⟩ := key j y hj
    exact hD.1 i j x0 y0 h1 h3 (h2.trans (hxy.trans h4.symm))
  · obtain ⟨q0, h1, h2⟩ := key k q hk
    rw [← h2]
    exact hD.2 k q0 h1
/-! the functions' own words: a check of an index, of a divisor, a name, a call -/
def ck {α : Type} (i : Int32) (n : Nat) (k : Option α) : Option α := if i < 0 ∨ n ≤ i.toNatClampNeg then none else k
theorem ck_some {α : Type} {i : Int32} {n : Nat} {k : Option α} {z : α} (h : ck i n k = some z) : vp_in i n ∧ k = some z := by
  unfold ck at h
  split at h
  · cases h
  · exact ⟨by assumption, h⟩
def ckd {α : Type} (y : Int32) (k : Option α) : Option α := if y = 0 then none else k
theorem ckd_some {α : Type} {y : Int32} {k : Option α} {z : α} (h : ckd y k = some z) : ¬ y = 0 ∧ k = some z := by
  unfold ckd at h
  split at h
  · cases h
  · exact ⟨by assumption, h⟩
def nm {β α : Type} (x : β) (k : β → Option α) : Option α := k x
theorem nm_some {β α : Type} {x y : β} {k : β → Option α} {z : α} (e : y = x) (h : nm x k = some z) : k y = some z := by
  subst e
  exact h
def bd {β α : Type} (o : Option β) (k : β → Option α) : Option α := match o with
  | none => none
  | some x => k x
theorem bd_some {β α : Type} {o : Option β} {k : β → Option α} {z : α} (h : bd o k = some z) : ∃ x, o = some x ∧ k x = some z := by
  cases o with
  | none => cases h
  | some x => exact ⟨x, rfl, h⟩
theorem ifp {α : Type} {c : Prop} [Decidable c] {a b : Option α} {z : α} (hc : c) (h : (if c then a else b) = some z) : a = some z := by rwa [if_pos hc] at h
theorem ifn {α : Type} {c : Prop} [Decidable c] {a b : Option α} {z : α} (hc : ¬ c) (h : (if c then a else b) = some z) : b = some z := by rwa [if_neg hc] at h
def ckz {α : Type} (v : Int32) (k : Option α) : Option α := if v = 0 ∨ v = 1 then k else none
theorem ckz_some {α : Type} {v : Int32} {k : Option α} {z : α} (h : ckz v k = some z) : (v = 0 ∨ v = 1) ∧ k = some z := by
  unfold ckz at h
  split at h
  · exact ⟨by assumption, h⟩
  · cases h
def ckch {α : Type} (v : Int32) (k : Option α) : Option α := if (v.toUInt32 % 65536).toInt32 = v then k else none
theorem ckch_some {α : Type} {v : Int32} {k : Option α} {z : α} (h : ckch v k = some z) : narrow .char (.int v) = .int v ∧ k = some z := by
  unfold ckch at h
  split at h
  · rename_i hv
    exact ⟨by have h2 := pk_nc v; rw [hv] at h2; exact h2, h⟩
  · cases h
theorem nar_z {v : Int32} (h : v = 0 ∨ v = 1) : narrow .boolean (.int v) = .int v := by
  rcases h with rfl | rfl <;> rfl
theorem fit_z {v : Int32} (h : v = 0 ∨ v = 1) : fits .boolean (.int v) = true := by
  rcases h with rfl | rfl <;> rfl
def ckc {α : Type} (sp dp n : Int32) (n0 n1 : Nat) (k : Option α) : Option α := if ¬ sp < 0 ∧ ¬ dp < 0 ∧ ¬ n < 0 ∧ sp.toNatClampNeg + n.toNatClampNeg ≤ n0 ∧ dp.toNatClampNeg + n.toNatClampNeg ≤ n1 then k else none
theorem ckc_some {α : Type} {sp dp n : Int32} {n0 n1 : Nat} {k : Option α} {z : α} (h : ckc sp dp n n0 n1 k = some z) : (¬ sp < 0 ∧ ¬ dp < 0 ∧ ¬ n < 0 ∧ sp.toNatClampNeg + n.toNatClampNeg ≤ n0 ∧ dp.toNatClampNeg + n.toNatClampNeg ≤ n1) ∧ k = some z := by
  unfold ckc at h
  split at h
  · exact ⟨by assumption, h⟩
  · cases h
/-- words of exceptions that no list of good words carries -/
def DEC : List MethodName := [⟨"java/lang/RuntimeException", "<init>", "(Ljava/lang/String;)V"⟩, ⟨"java/lang/Exception", "<init>", "(Ljava/lang/String;)V"⟩, ⟨"java/lang/Throwable", "<init>", "(Ljava/lang/String;)V"⟩]
def LST : List (String × String × String) := [("java/lang/Throwable", "UNASSIGNED_STACK", "[Ljava/lang/StackTraceElement;"), ("java/lang/Throwable", "SUPPRESSED_SENTINEL", "Ljava/util/List;")]
def CST : List (String × String) := [("java/lang/IllegalArgumentException", "java/lang/IllegalArgumentException"), ("java/lang/IllegalStateException", "java/lang/IllegalStateException"), ("java/util/NoSuchElementException", "java/util/NoSuchElementException")]
def NCS : List (String × String) := [("java/lang/IllegalStateException", "java/lang/IllegalArgumentException"), ("java/util/NoSuchElementException", "java/lang/IllegalArgumentException")]
/-- a static that is laid and holds a reference or null -/
def e_LS (C n d : String) (A : Nat → Prop) (U : State) (H : Heap) : Prop := ∃ (c : ClassId) (kf : Class) (i : Nat) (f : Field) (a : Nat) (cell : Cell) (v : Value), U.vm.findClass C = some c ∧ U.fieldFound? C n d = some (c, kf, i, f) ∧ f.isStatic = true ∧ kf.statics = some a ∧ H[a]? = some cell ∧ cell.vm.isStatics = true ∧ cell.cls = c ∧ f.slot < cell.slots.size ∧ kf.staticTypes[f.slot]? = some f.type ∧ cell.slots[f.slot]? = some v ∧ (v = .null ∨ ∃ x, v = .ref x) ∧ ¬ A a
theorem e_LS.moved {C n d : String} {A : Nat → Prop} {u U : State} {H : Heap} (hvm : u.vm.Alike U.vm) (h : e_LS C n d A u H) : e_LS C n d A U H := by
  obtain ⟨c, kf, i, f, a, cell, v, h0, h1, h2, h3, h4, h5, h6, h7, h8, h9⟩ := h
  obtain ⟨k', hi', he⟩ := State.fieldFound?_setVm hvm h1
  exact ⟨c, k', i, f, a, cell, v, by rw [hvm.findClass]; exact h0, hi', h2, by rw [he]; exact h3, h4, h5, h6, h7, by rw [he]; exact h8, h9⟩
theorem e_LS.kept {C n d : String} {A : Nat → Prop} {U : State} {H H1 : Heap} (h : e_LS C n d A U H) (hq : ∀ a : Nat, a < H.size → ¬ A a → H1[a]? = H[a]?) : e_LS C n d A U H1 := by
  obtain ⟨c, kf, i, f, a, cell, v, h0, h1, h2, h3, h4, h5, h6, h7, h8, h9, h10, h11⟩ := h
  exact ⟨c, kf, i, f, a, cell, v, h0, h1, h2, h3, by rw [hq a (Array.getElem?_eq_some_iff.mp h4).1 h11]; exact h4, h5, h6, h7, h8, h9, h10, h11⟩
theorem e_LS.narrow {C n d : String} {A B : Nat → Prop} {U : State} {H : Heap} (h : e_LS C n d A U H) (hAB : ∀ q, B q → A q) : e_LS C n d B U H := by
  obtain ⟨c, kf, i, f, a, cell, v, h0, h1, h2, h3, h4, h5, h6, h7, h8, h9, h10, h11⟩ := h
  exact ⟨c, kf, i, f, a, cell, v, h0, h1, h2, h3, h4, h5, h6, h7, h8, h9, h10, fun z => h11 (hAB a z)⟩
theorem e_LS.lays {C n d : String} {A : Nat → Prop} {U : State} (h : e_LS C n d A U U.heap) (args : Array Value) : (Cond.laysStatic C n d).before args U = true := by
  obtain ⟨c, kf, i, f, a, cell, v, h0, h1, h2, h3, h4, h5, h6, h7, h8, h9⟩ := h
  exact Cond.laysStatic_of h0 h1 h2 h3 h4 h5 h6 h7 h8
theorem e_LS.isRef {C n d : String} {A : Nat → Prop} {U : State} (h : e_LS C n d A U U.heap) (args : Array Value) : (Cond.isRef (.static C n d)).before args U = true := by
  obtain ⟨c, kf, i, f, a, cell, v, h0, h1, h2, h3, h4, h5, h6, h7, h8, h9, h10, h11⟩ := h
  have he : (Term.static C n d).eval args U none [] U = some v := by
    rw [← h9]
    simp [Term.eval, State.fieldNamed?, h1, h2, h3, h4, h5]
  simp only [Cond.before, Cond.holds, Cond.value]
  rw [he]
  rcases h10 with rfl | ⟨x, rfl⟩ <;> rfl
/-- what the Statement gives of the start and no row writes: k also numbers it (k 50: the table's cell; k (100 + i), k (200 + i): the i-th text's object and its bytes) -/
def dbm (j : Nat) : Int32 := ([0, 31, 59, 90, 120, 151, 181, 212, 243, 273, 304, 334, 365] : List Int32).getD j 0
def sLen (i : Nat) : Nat := (sBy.getD i []).length
def EX (k : Nat → ClassId) (A : Nat → Prop) (U : State) (H : Heap) : Prop :=
  (∀ x ∈ NEST, va_Nw (.methodLinkNest x.1 x.2.1 x.2.2.1 x.2.2.2) U) ∧ (∀ C ∈ AOS, va_AO C U) ∧ (∀ x ∈ STR, vk_R x.1 x.2.1 x.2.2.1 (k (100 + x.2.2.2)) U) ∧
  va_Z R_Date "DAYS_BEFORE_MONTH" "[I" (.ref (k 50)) A U H ∧ va_T .int (k 50) 13 (fun j => .int (dbm j)) A U H ∧ va_Z "java/lang/String" "COMPACT_STRINGS" "Z" (.int 1) A U H ∧
  (∀ i : Nat, i < 29 → va_O "java/lang/String" (k (100 + i)) A U H ∧ va_OF "java/lang/String" "coder" "B" (.int 0) (k (100 + i)) A U H ∧ va_OF "java/lang/String" "value" "[B" (.ref (k (200 + i))) (k (100 + i)) A U H ∧ va_T .byte (k (200 + i)) (sLen i) (fun j => .int ((sBy.getD i []).getD j 0)) A U H) ∧
  va_Zq "java/lang/Throwable" "UNASSIGNED_STACK" "[Ljava/lang/StackTraceElement;" A U H ∧ va_Zq "java/lang/Throwable" "SUPPRESSED_SENTINEL" "Ljava/util/List;" A U H ∧ va_Zq "jdk/internal/util/Preconditions" "SIOOBE_FORMATTER" "Ljava/util/function/BiFunction;" A U H ∧
  (∀ y ∈ DEC, va_Nw (.declares y) U) ∧ (∀ x ∈ LST, e_LS x.1 x.2.1 x.2.2 A U H) ∧ (∀ x ∈ CST, va_Nw (.castable x.1 x.2) U) ∧ ∀ x ∈ NCS, va_Nc x.1 x.2 U
section EXS
variable {k : Nat → ClassId} {A : Nat → Prop} {U : State} {H : Heap}
theorem EX.nest (h : EX k A U H) : ∀ x ∈ NEST, va_Nw (.methodLinkNest x.1 x.2.1 x.2.2.1 x.2.2.2) U := h.1
theorem EX.ao (h : EX k A U H) : ∀ C ∈ AOS, va_AO C U := h.2.1
theorem EX.str (h : EX k A U H) : ∀ x ∈ STR, vk_R x.1 x.2.1 x.2.2.1 (k (100 + x.2.2.2)) U := h.2.2.1
theorem EX.tabZ (h : EX k A U H) : va_Z R_Date "DAYS_BEFORE_MONTH" "[I" (.ref (k 50)) A U H := h.2.2.2.1
theorem EX.tabT (h : EX k A U H) : va_T .int (k 50) 13 (fun j => .int (dbm j)) A U H := h.2.2.2.2.1
theorem EX.comp (h : EX k A U H) : va_Z "java/lang/String" "COMPACT_STRINGS" "Z" (.int 1) A U H := h.2.2.2.2.2.1
theorem EX.sob (h : EX k A U H) : ∀ i : Nat, i < 29 → va_O "java/lang/String" (k (100 + i)) A U H ∧ va_OF "java/lang/String" "coder" "B" (.int 0) (k (100 + i)) A U H ∧ va_OF "java/lang/String" "value" "[B" (.ref (k (200 + i))) (k (100 + i)) A U H ∧ va_T .byte (k (200 + i)) (sLen i) (fun j => .int ((sBy.getD i []).getD j 0)) A U H := h.2.2.2.2.2.2.1
theorem EX.uns (h : EX k A U H) : va_Zq "java/lang/Throwable" "UNASSIGNED_STACK" "[Ljava/lang/StackTraceElement;" A U H := h.2.2.2.2.2.2.2.1
theorem EX.sen (h : EX k A U H) : va_Zq "java/lang/Throwable" "SUPPRESSED_SENTINEL" "Ljava/util/List;" A U H := h.2.2.2.2.2.2.2.2.1
theorem EX.fmt (h : EX k A U H) : va_Zq "jdk/internal/util/Preconditions" "SIOOBE_FORMATTER" "Ljava/util/function/BiFunction;" A U H := h.2.2.2.2.2.2.2.2.2.1
theorem EX.dec (h : EX k A U H) : ∀ y ∈ DEC, va_Nw (.declares y) U := h.2.2.2.2.2.2.2.2.2.2.1
theorem EX.lst (h : EX k A U H) : ∀ x ∈ LST, e_LS x.1 x.2.1 x.2.2 A U H := h.2.2.2.2.2.2.2.2.2.2.2.1
theorem EX.cst (h : EX k A U H) : ∀ x ∈ CST, va_Nw (.castable x.1 x.2) U := h.2.2.2.2.2.2.2.2.2.2.2.2.1
theorem EX.nc (h : EX k A U H) : ∀ x ∈ NCS, va_Nc x.1 x.2 U := h.2.2.2.2.2.2.2.2.2.2.2.2.2
end EXS
theorem EX.same {k : Nat → ClassId} {A : Nat → Prop} {U U' : State} {H : Heap} (h : U'.vm = U.vm) (hE : EX k A U H) : EX k A U' H := by
  have hvm : U.vm.Alike U'.vm := by rw [h]; exact Vm.Alike.refl _
  exact ⟨fun x hx => va_Nw.same rfl h.symm (hE.nest x hx), fun C hC => (hE.ao C hC).moved hvm, fun x hx => vk_R.same h (hE.str x hx), hE.tabZ.moved hvm, hE.tabT.moved hvm, hE.comp.moved hvm,
    fun i hi => ⟨(hE.sob i hi).1.moved hvm, (hE.sob i hi).2.1.moved hvm, (hE.sob i hi).2.2.1.moved hvm, (hE.sob i hi).2.2.2.moved hvm⟩, hE.uns.moved hvm, hE.sen.moved hvm, hE.fmt.moved hvm, fun y hy => va_Nw.same rfl h.symm (hE.dec y hy), fun x hx => (hE.lst x hx).moved hvm, fun x hx => va_Nw.same rfl h.symm (hE.cst x hx), fun x hx => (hE.nc x hx).moved hvm⟩
theorem EX.call {k : Nat → ClassId} {A B : Nat → Prop} {s U : State} {H0 H : Heap} (hE : EX k A s H0) (hq : ∀ a : Nat, a < H0.size → ¬ A a → H[a]? = H0[a]?) (hn : ∀ q, B q → A q) (hW : s.WarmedH U.vm) : EX k B U H := by
  have hvm := hW.alike
  exact ⟨fun x hx => va_Nw.warmM hW (hE.nest x hx), fun C hC => (hE.ao C hC).moved hvm, fun x hx => vk_R.warm hW (hE.str x hx), ((hE.tabZ.kept hq).moved hvm).narrow hn, ((hE.tabT.kept hq).moved hvm).narrow hn, ((hE.comp.kept hq).moved hvm).narrow hn,
    fun i hi => ⟨(((hE.sob i hi).1.kept hq).moved hvm).narrow hn, (((hE.sob i hi).2.1.kept hq).moved hvm).narrow hn, (((hE.sob i hi).2.2.1.kept hq).moved hvm).narrow hn, (((hE.sob i hi).2.2.2.kept hq).moved hvm).narrow hn⟩, ((hE.uns.kept hq).moved hvm).narrow hn, ((hE.sen.kept hq).moved hvm).narrow hn, ((hE.fmt.kept hq).moved hvm).narrow hn, fun y hy => va_Nw.warmD hW (hE.dec y hy), fun x hx => (((hE.lst x hx).kept hq).moved hvm).narrow hn, fun x hx => va_Nw.warmC hW (hE.cst x hx), fun x hx => (hE.nc x hx).moved hvm⟩
def PRE (D : va_G) (k : Nat → ClassId) (w : va_W) (sz : Nat) (U : State) : Prop := U.heap.size = sz ∧ va_P D classes w U.heap ∧ va_K D classes (TY k) U ∧ va_D (fun _ => True) w ∧ EX k (va_A w sz) U U.heap
def QG (D : va_G) (o : Outcome) (w0 w1 : va_W) (sz : Nat) : Array Value → State → Outcome → State → Prop := fun _ st oc t => oc = o ∧ va_P D classes w1 t.heap ∧ va_F (va_A w0 sz) st t
abbrev CG (l : Launch) (y : MethodName) (cc : ByteArray) (maxL : Nat) (ret : Option FieldType) (rm : Room) (D : va_G) (k : Nat → ClassId) (av : List Value) (w0 : va_W) (o : Outcome) (w1 : va_W) (sz : Nat) : Prop :=
  Met l y (Cond.code y cc maxL ret :: ALL) rm (va_Pc av (PRE D k w0 sz)) (QG D o w0 w1 sz) rm.cells rm.slots (va_A w0 sz)
theorem PRE_blind {D : va_G} {k : Nat → ClassId} {w : va_W} {sz : Nat} {av : List Value} : FrameBlind (va_Pc av (PRE D k w sz)) := fun a U g mk q => by
  obtain ⟨q0, q1, qP, qK, qD, qE⟩ := q
  exact ⟨q0, q1, qP, va_K.moved (u := U) (U := U.calling g mk a) (Vm.Alike.refl U.vm) qK, qD, EX.same (U := U) (U' := U.calling g mk a) (H := U.heap) rfl qE⟩
theorem sub_P {D : va_G} {cl : List vw_C} {ws wc : va_W} {H : Heap} (hP : va_P D cl ws H) (isC : List Nat) (hC : isC.map (fun i => ws[i]?) = wc.map some) : va_P D cl wc H := by
  intro k q hq
  have h1 : (isC.map (fun i => ws[i]?))[k]? = some (some q) := by rw [hC, List.getElem?_map, hq]; rfl
  rw [List.getElem?_map] at h1
  cases hi : isC[k]? with
  | none => rw [hi] at h1; cases h1
  | some i => rw [hi] at h1; exact hP i q (Option.some.inj h1)
section GH
variable {l : Launch} {y : MethodName} {cc : ByteArray} {maxL : Nat} {rm : Room} {D : va_G} {k : Nat → ClassId} {av : List Value} {w0 w1 : va_W} {sz : Nat}
theorem g_headI {R : Type} {z : R} (rf : R → Int32) (w1f : R → va_W) (hy : plainName y.cls = true) (hn : (lg_sl av).length ≤ maxL)
    (body : ∀ (p : Program) (e : Env) (s : State) (m : MethodId) (args : Array Value) (below : List Frame) (meth : Method) (c : Code), p.tables.exec = Jvm.exec → c.code = cc → (∀ w ∈ ALL, w.before args s = true) → s.vm.findClass y.cls = some m.cls → meth.name = y.name → c.maxLocals = maxL →
      ∀ (A : Nat → Prop), (∀ q : Nat, s.heap.size ≤ q → A q) → ∀ (H : Heap) (locs : List Loc), va_P D classes w0 H → va_K D classes (TY k) s → va_D A w0 → va_S A s.heap H locs → EX k A s s.heap → ∀ ls : Array Slot, lv_has ls maxL (lv_args 0 av) →
      ∀ Qm : State → Prop, (∀ (pc : Nat) (ls : Array Slot) (H : Heap) (locs : List Loc) (z' : R), z' = z → decode cc pc = .ok (.ireturn, 1) → va_P D classes (w1f z') H → va_S A s.heap H locs → W p l e rm s m args below meth c H locs rm.cells rm.slots Qm (F0 m pc ls [.int (rf z')])) →
      W p l e rm s m args below meth c H locs 0 0 Qm (F0 m 0 ls [])) : CG l y cc maxL (some .int) rm D k av w0 (.returned (some (.int (rf z)))) (w1f z) sz := by
  refine Met.ofW (cc := cc) (maxL := maxL) (ret := some .int) hy rfl ?_
  intro p e s m args below meth c s₁ B hml hv
  obtain ⟨rfl, hsz, hP, hK, hD0, hE⟩ := hv
  subst hsz
  have hl := lv_entry av (n := maxL) hn
  rw [lg_entry_eq]
  refine body p e s m _ below meth c B.exec B.bytes (fun w h => atoms_spec (ws := Cond.code y cc maxL (some .int) :: ALL) B.pre w (List.mem_cons_of_mem _ h)) (findClass_of_methodNamed B.named) (name_of_methodNamed B.named B.method).1 hml (va_A w0 s.heap.size) (fun q h => Or.inr h) s.heap [] hP hK hD0.self va_S.rf hE _ hl _ ?_
  intro pc ls H locs z' hz' hd hP hS
  subst hz'
  exact W.iret B.exec B.bytes B.returns (fun t ht hW => ⟨rfl, by rw [ht]; exact hP, hS.F ht⟩) hS.2.2 hd B.notSynchronized
theorem g_headZ {R : Type} {z : R} (rf : R → Int32) (w1f : R → va_W) (hy : plainName y.cls = true) (hn : (lg_sl av).length ≤ maxL)
    (body : ∀ (p : Program) (e : Env) (s : State) (m : MethodId) (args : Array Value) (below : List Frame) (meth : Method) (c : Code), p.tables.exec = Jvm.exec → c.code = cc → (∀ w ∈ ALL, w.before args s = true) → s.vm.findClass y.cls = some m.cls → meth.name = y.name → c.maxLocals = maxL →
      ∀ (A : Nat → Prop), (∀ q : Nat, s.heap.size ≤ q → A q) → ∀ (H : Heap) (locs : List Loc), va_P D classes w0 H → va_K D classes (TY k) s → va_D A w0 → va_S A s.heap H locs → EX k A s s.heap → ∀ ls : Array Slot, lv_has ls maxL (lv_args 0 av) →
      ∀ Qm : State → Prop, (∀ (pc : Nat) (ls : Array Slot) (H : Heap) (locs : List Loc) (z' : R), z' = z → decode cc pc = .ok (.ireturn, 1) → va_P D classes (w1f z') H → va_S A s.heap H locs → narrow .boolean (.int (rf z')) = .int (rf z') → W p l e rm s m args below meth c H locs rm.cells rm.slots Qm (F0 m pc ls [.int (rf z')])) →
      W p l e rm s m args below meth c H locs 0 0 Qm (F0 m 0 ls [])) : CG l y cc maxL (some .boolean) rm D k av w0 (.returned (some (.int (rf z)))) (w1f z) sz := by
  refine Met.ofW (cc := cc) (maxL := maxL) (ret := some .boolean) hy rfl ?_
  intro p e s m args below meth c s₁ B hml hv
  obtain ⟨rfl, hsz, hP, hK, hD0, hE⟩ := hv
  subst hsz
  have hl := lv_entry av (n := maxL) hn
  rw [lg_entry_eq]
  refine body p e s m _ below meth c B.exec B.bytes (fun w h => atoms_spec (ws := Cond.code y cc maxL (some .boolean) :: ALL) B.pre w (List.mem_cons_of_mem _ h)) (findClass_of_methodNamed B.named) (name_of_methodNamed B.named B.method).1 hml (va_A w0 s.heap.size) (fun q h => Or.inr h) s.heap [] hP hK hD0.self va_S.rf hE _ hl _ ?_
  intro pc ls H locs z' hz' hd hP hS hz
  subst hz'
  exact W.zret B.exec B.bytes B.returns hz (fun t ht hW => ⟨rfl, by rw [ht]; exact hP, hS.F ht⟩) hS.2.2 hd B.notSynchronized
theorem g_headT {ty : FieldType} {R : Type} {z : R} (rf : R → Int32) (w1f : R → va_W) (hy : plainName y.cls = true) (hn : (lg_sl av).length ≤ maxL)
    (body : ∀ (p : Program) (e : Env) (s : State) (m : MethodId) (args : Array Value) (below : List Frame) (meth : Method) (c : Code), p.tables.exec = Jvm.exec → c.code = cc → (∀ w ∈ ALL, w.before args s = true) → s.vm.findClass y.cls = some m.cls → meth.name = y.name → c.maxLocals = maxL →
      ∀ (A : Nat → Prop), (∀ q : Nat, s.heap.size ≤ q → A q) → ∀ (H : Heap) (locs : List Loc), va_P D classes w0 H → va_K D classes (TY k) s → va_D A w0 → va_S A s.heap H locs → EX k A s s.heap → ∀ ls : Array Slot, lv_has ls maxL (lv_args 0 av) →
      ∀ Qm : State → Prop, (∀ (pc : Nat) (ls : Array Slot) (H : Heap) (locs : List Loc) (z' : R), z' = z → decode cc pc = .ok (.ireturn, 1) → va_P D classes (w1f z') H → va_S A s.heap H locs → narrow ty (.int (rf z')) = .int (rf z') → W p l e rm s m args below meth c H locs rm.cells rm.slots Qm (F0 m pc ls [.int (rf z')])) →
      W p l e rm s m args below meth c H locs 0 0 Qm (F0 m 0 ls [])) : CG l y cc maxL (some ty) rm D k av w0 (.returned (some (.int (rf z)))) (w1f z) sz := by
  refine Met.ofW (cc := cc) (maxL := maxL) (ret := some ty) hy rfl ?_
  intro p e s m args below meth c s₁ B hml hv
  obtain ⟨rfl, hsz, hP, hK, hD0, hE⟩ := hv
  subst hsz
  have hl := lv_entry av (n := maxL) hn
  rw [lg_entry_eq]
  refine body p e s m _ below meth c B.exec B.bytes (fun w h => atoms_spec (ws := Cond.code y cc maxL (some ty) :: ALL) B.pre w (List.mem_cons_of_mem _ h)) (findClass_of_methodNamed B.named) (name_of_methodNamed B.named B.method).1 hml (va_A w0 s.heap.size) (fun q h => Or.inr h) s.heap [] hP hK hD0.self va_S.rf hE _ hl _ ?_
  intro pc ls H locs z' hz' hd hP hS hz
  subst hz'
  exact W.zret B.exec B.bytes B.returns hz (fun t ht hW => ⟨rfl, by rw [ht]; exact hP, hS.F ht⟩) hS.2.2 hd B.notSynchronized
theorem g_headV {R : Type} {z : R} (w1f : R → va_W) (hy : plainName y.cls = true) (hn : (lg_sl av).length ≤ maxL)
    (body : ∀ (p : Program) (e : Env) (s : State) (m : MethodId) (args : Array Value) (below : List Frame) (meth : Method) (c : Code), p.tables.exec = Jvm.exec → c.code = cc → (∀ w ∈ ALL, w.before args s = true) → s.vm.findClass y.cls = some m.cls → meth.name = y.name → c.maxLocals = maxL →
      ∀ (A : Nat → Prop), (∀ q : Nat, s.heap.size ≤ q → A q) → ∀ (H : Heap) (locs : List Loc), va_P D classes w0 H → va_K D classes (TY k) s → va_D A w0 → va_S A s.heap H locs → EX k A s s.heap → ∀ ls : Array Slot, lv_has ls maxL (lv_args 0 av) →
      ∀ Qm : State → Prop, (∀ (pc : Nat) (ls : Array Slot) (H : Heap) (locs : List Loc) (z' : R), z' = z → decode cc pc = .ok (.return_, 1) → va_P D classes (w1f z') H → va_S A s.heap H locs → W p l e rm s m args below meth c H locs rm.cells rm.slots Qm (F0 m pc ls [])) →
      W p l e rm s m args below meth c H locs 0 0 Qm (F0 m 0 ls [])) : CG l y cc maxL none rm D k av w0 (.returned none) (w1f z) sz := by
  refine Met.ofW (cc := cc) (maxL := maxL) (ret := none) hy rfl ?_
  intro p e s m args below meth c s₁ B hml hv
  obtain ⟨rfl, hsz, hP, hK, hD0, hE⟩ := hv
  subst hsz
  have hl := lv_entry av (n := maxL) hn
  rw [lg_entry_eq]
  refine body p e s m _ below meth c B.exec B.bytes (fun w h => atoms_spec (ws := Cond.code y cc maxL none :: ALL) B.pre w (List.mem_cons_of_mem _ h)) (findClass_of_methodNamed B.named) (name_of_methodNamed B.named B.method).1 hml (va_A w0 s.heap.size) (fun q h => Or.inr h) s.heap [] hP hK hD0.self va_S.rf hE _ hl _ ?_
  intro pc ls H locs z' hz' hd hP hS
  subst hz'
  exact W.vret B.exec B.bytes B.returns (fun t ht hW => ⟨rfl, by rw [ht]; exact hP, hS.F ht⟩) hS.2.2 hd B.notSynchronized
theorem g_headA {rt : String} {R : Type} {z : R} (rf : R → Value) (hrf : ∀ z, rf z = .null ∨ ∃ a, rf z = .ref a) (w1f : R → va_W) (hy : plainName y.cls = true) (hn : (lg_sl av).length ≤ maxL)
    (body : ∀ (p : Program) (e : Env) (s : State) (m : MethodId) (args : Array Value) (below : List Frame) (meth : Method) (c : Code), p.tables.exec = Jvm.exec → c.code = cc → (∀ w ∈ ALL, w.before args s = true) → s.vm.findClass y.cls = some m.cls → meth.name = y.name → c.maxLocals = maxL →
      ∀ (A : Nat → Prop), (∀ q : Nat, s.heap.size ≤ q → A q) → ∀ (H : Heap) (locs : List Loc), va_P D classes w0 H → va_K D classes (TY k) s → va_D A w0 → va_S A s.heap H locs → EX k A s s.heap → ∀ ls : Array Slot, lv_has ls maxL (lv_args 0 av) →
      ∀ Qm : State → Prop, (∀ (pc : Nat) (ls : Array Slot) (H : Heap) (locs : List Loc) (z' : R), z' = z → decode cc pc = .ok (.areturn, 1) → va_P D classes (w1f z') H → va_S A s.heap H locs → W p l e rm s m args below meth c H locs rm.cells rm.slots Qm (F0 m pc ls [rf z'])) →
      W p l e rm s m args below meth c H locs 0 0 Qm (F0 m 0 ls [])) : CG l y cc maxL (some (.object rt)) rm D k av w0 (.returned (some (rf z))) (w1f z) sz := by
  refine Met.ofW (cc := cc) (maxL := maxL) (ret := some (.object rt)) hy rfl ?_
  intro p e s m args below meth c s₁ B hml hv
  obtain ⟨rfl, hsz, hP, hK, hD0, hE⟩ := hv
  subst hsz
  have hl := lv_entry av (n := maxL) hn
  rw [lg_entry_eq]
  refine body p e s m _ below meth c B.exec B.bytes (fun w h => atoms_spec (ws := Cond.code y cc maxL (some (.object rt)) :: ALL) B.pre w (List.mem_cons_of_mem _ h)) (findClass_of_methodNamed B.named) (name_of_methodNamed B.named B.method).1 hml (va_A w0 s.heap.size) (fun q h => Or.inr h) s.heap [] hP hK hD0.self va_S.rf hE _ hl _ ?_
  intro pc ls H locs z' hz' hd hP hS
  subst hz'
  exact W.aret B.exec B.bytes B.returns (Or.inl ⟨rt, rfl⟩) (hrf z') (fun t ht hW => ⟨rfl, by rw [ht]; exact hP, hS.F ht⟩) hS.2.2 hd B.notSynchronized
end GH
section GC
variable {p : Program} {l : Launch} {e : Env} {R : Room} {s : State} {m : MethodId} {args : Array Value} {below : List Frame} {meth : Method} {c : Code} {H : Heap} {locs : List Loc} {cells slots : Nat} {Q : State → Prop}
variable {cc bytes : ByteArray} {nL maxL index pc ci N : Nat} {own : String} {y : MethodName} {ret : Option FieldType} {rm : Room} {D : va_G} {k : Nat → ClassId} {A : Nat → Prop} {ws wc w1 : va_W} {ls : Array Slot} {st0 As rest fs : List Value} {b : Nat} {T : u_T} {v : Option Value}
theorem g_pre (hK : va_K D classes (TY k) s) (hP : va_P D classes ws H) (hD : va_D A ws) (hS : va_S A s.heap H locs) (hN : ∀ q, s.heap.size ≤ q → A q) (hE : EX k A s s.heap)
    (isC : List Nat) (hC : isC.map (fun i => ws[i]?) = wc.map some) (hnd : va_nd isC = true) {av : List Value} : ∀ U : State, U.heap = H → s.WarmedH U.vm → va_Pc av (PRE D k wc H.size) av.toArray U := by
  intro U hU hW
  refine ⟨rfl, by rw [hU], by rw [hU]; exact sub_P hP isC hC, va_K.moved hW.alike hK, (hD.sub isC hnd hC).weaken (fun _ _ _ _ => trivial), ?_⟩
  rw [hU]
  exact EX.call hE hS.2.1 (va_free (wc := wc) hD hS hN isC hC) hW
theorem g_goes {a : Array Value} (hr : va_Run p l e R s m args below meth c H locs cells slots rm.cells rm.slots (F0 m pc ls st0) rest (QG D (.returned v) wc w1 H.size a) (va_A wc H.size))
    (hP : va_P D classes ws H) (hD : va_D A ws) (hS : va_S A s.heap H locs) (hN : ∀ q, s.heap.size ≤ q → A q) (isC : List Nat) (hC : isC.map (fun i => ws[i]?) = wc.map some) (hlen : isC.length = w1.length)
    (kk : ∀ (H1 : Heap) (locs1 : List Loc), va_P D classes (setAll ws isC w1) H1 → va_S A s.heap H1 locs1 → W p l e R s m args below meth c H1 locs1 (cells + rm.cells) (slots + rm.slots) Q (F0 m (pc + 3) ls (v.toList ++ rest))) : W p l e R s m args below meth c H locs cells slots Q (F0 m pc ls st0) := by
  have hF := va_free (wc := wc) hD hS hN isC hC
  intro T hT X
  obtain ⟨v', st₀, t, T', L, h0, X', hL, e1, e2, ⟨hv, hp, hz, hk⟩, st⟩ := hr T hT X
  cases hv
  rw [h0] at hz hk
  have hk' : ∀ q : Nat, q < H.size → ¬ va_A wc H.size q → T'.heap[q]? = H[q]? := fun q h1 h2 => by rw [e1]; exact hk q h1 h2
  obtain ⟨t2, a1, b1⟩ := kk T'.heap (locs ++ L) (setAll_P hP hD isC hC hlen hk' (by rw [e1]; exact hp))
    ⟨Nat.le_trans hS.1 (by rw [e1]; exact hz), fun q h1 h2 => by rw [hk' q (Nat.lt_of_lt_of_le h1 hS.1) (fun z => h2 (hF q z))]; exact hS.2.1 q h1 h2, fun q hq => by
      rcases List.mem_append.mp hq with h | h
      · exact hS.2.2 q h
      · exact hF _ (hL q h)⟩ T' rfl X'
  exact ⟨t2, st t2 a1, b1⟩
theorem g_good {y : MethodName} {ret : Option FieldType} (h5 : Cond.code y bytes maxL ret ∈ ALL) : GoodIn ALL (Cond.code y bytes maxL ret :: ALL) := by
  intro w hw
  rcases List.mem_cons.mp hw with h | h
  · subst h
    exact ALL_good _ h5
  · exact ALL_good _ h
theorem g_callV (S : CallFix p m c cc nL s args ALL own) (hM : CG l y bytes maxL ret rm D k (.ref b :: As) wc (.returned v) w1 H.size)
    (h1 : Cond.methodLink own index y ∈ ALL) (h2 : Cond.instanceMethod y ∈ ALL) (h3 : Cond.selects y.cls y y ∈ ALL) (h4 : Cond.initialized y.cls ∈ ALL) (h5 : Cond.code y bytes maxL ret ∈ ALL)
    (hd : y.cls ≠ "java/lang/invoke/MethodHandle" ∧ y.cls ≠ "java/lang/invoke/VarHandle" ∧ (parseMethodDescriptor y.desc).map (fun d => d.parameters.length) = some As.length)
    (hR : rm.frames + 1 ≤ R.frames ∧ 8 + (maxL + 11) + rm.locals ≤ R.locals)
    (hK : va_K D classes (TY k) s) (hP : va_P D classes ws H) (hD : va_D A ws) (hS : va_S A s.heap H locs) (hN : ∀ q, s.heap.size ≤ q → A q) (hE : EX k A s s.heap)
    (isC : List Nat) (hC : isC.map (fun i => ws[i]?) = wc.map some) (hnd : va_nd isC = true) (hlen : isC.length = w1.length) (hrcv : wc[0]? = some (b, .inr (ci, fs))) (hcl : classes[ci]? = some (y.cls, T, N))
    (hls : ls.size = nL) (hW : (rest.map fun v => v.category).sum ≤ 8) (hdg : decode cc pc = .ok (.invokevirtual index, 3)) (hf : cells + rm.cells ≤ R.cells ∧ slots + rm.slots ≤ R.slots) (hst : st0 = As.reverse ++ .ref b :: rest)
    (kk : ∀ (H1 : Heap) (locs1 : List Loc), va_P D classes (setAll ws isC w1) H1 → va_S A s.heap H1 locs1 → W p l e R s m args below meth c H1 locs1 (cells + rm.cells) (slots + rm.slots) Q (F0 m (pc + 3) ls (v.toList ++ rest))) : W p l e R s m args below meth c H locs cells slots Q (F0 m pc ls st0) := by
  obtain ⟨cell, r1, r2, r3⟩ := va_recv hK (sub_P hP isC hC) hcl hrcv
  exact g_goes (va_runV S hM ⟨callB_of As.length S.2.2.2.2 (g_good h5) rfl rfl rfl (S.2.2.2.2 _ h4) (S.2.2.2.2 _ h1) hd hR, S.2.2.2.2 _ h2, S.2.2.2.2 _ h3⟩ ⟨PRE_blind, ⟨cell, r1, r2, r3⟩, g_pre hK hP hD hS hN hE isC hC hnd⟩ rfl rfl hls hst (lv_room hW) hdg hf) hP hD hS hN isC hC hlen kk
theorem g_callO (S : CallFix p m c cc nL s args ALL own) (hM : CG l y bytes maxL ret rm D k (.ref b :: As) wc (.returned v) w1 H.size)
    (h1 : Cond.methodLink own index y ∈ ALL) (h2 : Cond.instanceMethod y ∈ ALL) (h3 : Cond.selects y.cls y y ∈ ALL) (h4 : Cond.initialized y.cls ∈ ALL) (h5 : Cond.code y bytes maxL ret ∈ ALL)
    (hd : y.cls ≠ "java/lang/invoke/MethodHandle" ∧ y.cls ≠ "java/lang/invoke/VarHandle" ∧ (parseMethodDescriptor y.desc).map (fun d => d.parameters.length) = some As.length)
    (hR : rm.frames + 1 ≤ R.frames ∧ 8 + (maxL + 11) + rm.locals ≤ R.locals)
    (hK : va_K D classes (TY k) s) (hP : va_P D classes ws H) (hD : va_D A ws) (hS : va_S A s.heap H locs) (hN : ∀ q, s.heap.size ≤ q → A q) (hE : EX k A s s.heap)
    (isC : List Nat) (hC : isC.map (fun i => ws[i]?) = wc.map some) (hnd : va_nd isC = true) (hlen : isC.length = w1.length) (hrc : ∃ cell : Cell, H[b]? = some cell ∧ cell.vm.isStatics = false ∧ s.vm.findClass y.cls = some cell.cls)
    (hls : ls.size = nL) (hW : (rest.map fun v => v.category).sum ≤ 8) (hdg : decode cc pc = .ok (.invokevirtual index, 3)) (hf : cells + rm.cells ≤ R.cells ∧ slots + rm.slots ≤ R.slots) (hst : st0 = As.reverse ++ .ref b :: rest)
    (kk : ∀ (H1 : Heap) (locs1 : List Loc), va_P D classes (setAll ws isC w1) H1 → va_S A s.heap H1 locs1 → W p l e R s m args below meth c H1 locs1 (cells + rm.cells) (slots + rm.slots) Q (F0 m (pc + 3) ls (v.toList ++ rest))) : W p l e R s m args below meth c H locs cells slots Q (F0 m pc ls st0) := by
  obtain ⟨cell, r1, r2, r3⟩ := hrc
  exact g_goes (va_runV S hM ⟨callB_of As.length S.2.2.2.2 (g_good h5) rfl rfl rfl (S.2.2.2.2 _ h4) (S.2.2.2.2 _ h1) hd hR, S.2.2.2.2 _ h2, S.2.2.2.2 _ h3⟩ ⟨PRE_blind, ⟨cell, r1, r2, r3⟩, g_pre hK hP hD hS hN hE isC hC hnd⟩ rfl rfl hls hst (lv_room hW) hdg hf) hP hD hS hN isC hC hlen kk
theorem g_callS (S : CallFix p m c cc nL s args ALL own) (hM : CG l y bytes maxL ret rm D k As wc (.returned v) w1 H.size)
    (h1 : Cond.methodLink own index y ∈ ALL) (h2 : Cond.static y ∈ ALL) (h4 : Cond.initialized y.cls ∈ ALL) (h5 : Cond.code y bytes maxL ret ∈ ALL)
    (hd : y.cls ≠ "java/lang/invoke/MethodHandle" ∧ y.cls ≠ "java/lang/invoke/VarHandle" ∧ (parseMethodDescriptor y.desc).map (fun d => d.parameters.length) = some As.length)
    (hR : rm.frames + 1 ≤ R.frames ∧ 8 + (maxL + 11) + rm.locals ≤ R.locals)
    (hK : va_K D classes (TY k) s) (hP : va_P D classes ws H) (hD : va_D A ws) (hS : va_S A s.heap H locs) (hN : ∀ q, s.heap.size ≤ q → A q) (hE : EX k A s s.heap)
    (isC : List Nat) (hC : isC.map (fun i => ws[i]?) = wc.map some) (hnd : va_nd isC = true) (hlen : isC.length = w1.length)
    (hls : ls.size = nL) (hW : (rest.map fun v => v.category).sum ≤ 8) (hdg : decode cc pc = .ok (.invokestatic index, 3)) (hf : cells + rm.cells ≤ R.cells ∧ slots + rm.slots ≤ R.slots) (hst : st0 = As.reverse ++ rest)
    (kk : ∀ (H1 : Heap) (locs1 : List Loc), va_P D classes (setAll ws isC w1) H1 → va_S A s.heap H1 locs1 → W p l e R s m args below meth c H1 locs1 (cells + rm.cells) (slots + rm.slots) Q (F0 m (pc + 3) ls (v.toList ++ rest))) : W p l e R s m args below meth c H locs cells slots Q (F0 m pc ls st0) :=
  g_goes (va_runS S hM ⟨callB_of As.length S.2.2.2.2 (g_good h5) rfl rfl rfl (S.2.2.2.2 _ h4) (S.2.2.2.2 _ h1) hd hR, S.2.2.2.2 _ h2⟩ ⟨PRE_blind, g_pre hK hP hD hS hN hE isC hC hnd⟩ rfl rfl hls hst (lv_room hW) hdg hf) hP hD hS hN isC hC hlen kk
end GC
theorem in_of_lt {i : Int32} {n : Nat} (h : ¬ (i < 0 ∨ n ≤ i.toNatClampNeg)) : vp_in i n := h
def up {α : Type} (f : Nat → α) (k : Nat) (v : α) : Nat → α := fun j => if j = k then v else f j
theorem pd_I : parseFieldDescriptor "I" = some .int := by decide +kernel
theorem pd_Z : parseFieldDescriptor "Z" = some .boolean := by decide +kernel
theorem pd_aI : parseFieldDescriptor "[I" = some (.array .int) := by decide +kernel
theorem pd_aC : parseFieldDescriptor "[C" = some (.array .char) := by decide +kernel
section GF
variable {p : Program} {l : Launch} {e : Env} {R : Room} {s : State} {m : MethodId} {args : Array Value} {below : List Frame} {meth : Method} {c : Code} {H : Heap} {locs : List Loc} {cells slots : Nat} {Q : State → Prop}
variable {cc : ByteArray} {pc : Nat} {ls : Array Slot} {rest : List Value} {D : va_G} {k : Nat → ClassId} {A : Nat → Prop} {a : Nat} {ws : va_W} {H0 : Heap}
theorem g_get (hx : p.tables.exec = Jvm.exec) (hb : c.code = cc) {own C n d : String} {fin : Bool} {T : u_T} {N ci index : Nat} (hA : ∀ w ∈ ALL, w.before args s = true) (hin : ∀ w ∈ u_ws C T N, w ∈ ALL) (hown : s.vm.findClass own = some m.cls) (hK : va_K D classes (TY k) s) (hP : va_P D classes ws H) (q0 : Nat) {fs : List Value} (he : ws[q0]? = some (a, .inr (ci, fs))) (hc : classes[ci]? = some (C, T, N)) (k0 : Nat) (hk : k0 < N) (hT : T k0 = (C, n, d, fin)) (hl : Cond.fieldLink own index C n d ∈ ALL) {v : Value} (hv : fs[k0]? = some v) (hdg : decode cc pc = .ok (.getfield index, 3))
    (kk : W p l e R s m args below meth c H locs cells slots Q (F0 m (pc + 3) ls (v :: rest))) : W p l e R s m args below meth c H locs cells slots Q (F0 m pc ls (.ref a :: rest)) :=
  va_get (ref := C) hx hb hA hin hown hK hP q0 he hc k0 hk (by rw [hT]; exact hA _ hl) (fun x h => by rw [hT] at h ⊢; exact h) hv hdg kk
theorem g_put (hx : p.tables.exec = Jvm.exec) (hb : c.code = cc) {own C n d : String} {T : u_T} {N ci index : Nat} (hA : ∀ w ∈ ALL, w.before args s = true) (hin : ∀ w ∈ u_ws C T N, w ∈ ALL) (ty0 : Nat → FieldType) (hty : ∀ k, k < N → parseFieldDescriptor (T k).2.2.1 = some (ty0 k)) (hnm : ∀ a, a < N → ∀ b, b < N → a ≠ b → (T a).2.1 ≠ (T b).2.1) (hown : s.vm.findClass own = some m.cls) (hK : va_K D classes (TY k) s) (hP : va_P D classes ws H) (hD : va_D A ws) (hS : va_S A H0 H locs) (q0 : Nat) {fs : List Value} (he : ws[q0]? = some (a, .inr (ci, fs))) (hc : classes[ci]? = some (C, T, N)) (k0 : Nat) (hk : k0 < N) (hT : T k0 = (C, n, d, false)) (hl : Cond.fieldLink own index C n d ∈ ALL) {ty : FieldType} {v : Value} (hd : parseFieldDescriptor d = some ty) (hn : narrow ty v = v) (hfit : fits ty v = true) (hle : k0 < fs.length)
    (hdg : decode cc pc = .ok (.putfield index, 3)) (kk : ∀ (H1 : Heap) (locs1 : List Loc), va_P D classes (ws.set q0 (a, .inr (ci, fs.set k0 v))) H1 → va_D A (ws.set q0 (a, .inr (ci, fs.set k0 v))) → va_S A H0 H1 locs1 → W p l e R s m args below meth c H1 locs1 cells slots Q (F0 m (pc + 3) ls rest)) : W p l e R s m args below meth c H locs cells slots Q (F0 m pc ls (v :: .ref a :: rest)) :=
  va_put (ref := C) (ty := ty) hx hb hA hin ty0 hty hnm hown hK hP hD hS q0 he hc k0 hk (by rw [hT]; exact hA _ hl) (fun x h => by rw [hT] at h ⊢; exact h) (by rw [hT]) (by rw [hT]; exact hd) hn hfit hle hdg kk
end GF
def rf3 (a b c : Nat) : Nat → Option Nat := fun i => match i with
  | 0 => some a
  | 1 => some b
  | 2 => some c
  | _ => none
def rf4 (a b c d : Nat) : Nat → Option Nat := fun i => match i with
  | 0 => some a
  | 1 => some b
  | 2 => some c
  | 3 => some d
  | _ => none
def sp3 {α : Type} (x : Int32) (b0 b1 b2 : Option α) : Option α := if x = 0 then b0 else if x = 1 then b1 else if x = 2 then b2 else none
theorem sp3_some {α : Type} {x : Int32} {b0 b1 b2 : Option α} {z : α} (h : sp3 x b0 b1 b2 = some z) : (x = 0 ∧ b0 = some z) ∨ (x = 1 ∧ b1 = some z) ∨ (x = 2 ∧ b2 = some z) := by
  unfold sp3 at h
  split at h
  · exact Or.inl ⟨by assumption, h⟩
  · split at h
    · exact Or.inr (Or.inl ⟨by assumption, h⟩)
    · split at h
      · exact Or.inr (Or.inr ⟨by assumption, h⟩)
      · cases h
def sp4 {α : Type} (x : Int32) (b0 b1 b2 b3 : Option α) : Option α := if x = 0 then b0 else if x = 1 then b1 else if x = 2 then b2 else if x = 3 then b3 else none
theorem sp4_some {α : Type} {x : Int32} {b0 b1 b2 b3 : Option α} {z : α} (h : sp4 x b0 b1 b2 b3 = some z) : (x = 0 ∧ b0 = some z) ∨ (x = 1 ∧ b1 = some z) ∨ (x = 2 ∧ b2 = some z) ∨ (x = 3 ∧ b3 = some z) := by
  unfold sp4 at h
  split at h
  · exact Or.inl ⟨by assumption, h⟩
  · split at h
    · exact Or.inr (Or.inl ⟨by assumption, h⟩)
    · split at h
      · exact Or.inr (Or.inr (Or.inl ⟨by assumption, h⟩))
      · split at h
        · exact Or.inr (Or.inr (Or.inr ⟨by assumption, h⟩))
        · cases h
theorem in_at {x j : Int32} {n : Nat} (h : x = j) (hj : vp_in j n) : vp_in x n := by rw [h]; exact hj
theorem in_3_0 : vp_in 0 3 := by unfold vp_in; decide
theorem in_3_1 : vp_in 1 3 := by unfold vp_in; decide
theorem in_3_2 : vp_in 2 3 := by unfold vp_in; decide
theorem in_4_0 : vp_in 0 4 := by unfold vp_in; decide
theorem in_4_1 : vp_in 1 4 := by unfold vp_in; decide
theorem in_4_2 : vp_in 2 4 := by unfold vp_in; decide
theorem in_4_3 : vp_in 3 4 := by unfold vp_in; decide
/-- one of five values, by a number -/
def ch5 (v0 v1 v2 v3 v4 : Value) (n : Nat) : Value := match n with
  | 0 => v0
  | 1 => v1
  | 2 => v2
  | 3 => v3
  | _ => v4
theorem ch5_ref {v0 v1 v2 v3 v4 : Value} (n : Nat) (h : ∀ v ∈ [v0, v1, v2, v3, v4], v = .null ∨ ∃ a, v = .ref a) : ch5 v0 v1 v2 v3 v4 n = .null ∨ ∃ a, ch5 v0 v1 v2 v3 v4 n = .ref a := by
  unfold ch5
  split <;> exact h _ (by simp)
def sN5 {α : Type} (x : Nat) (b0 b1 b2 b3 b4 : Option α) : Option α := if x = 0 then b0 else if x = 1 then b1 else if x = 2 then b2 else if x = 3 then b3 else if x = 4 then b4 else none
theorem sN5_some {α : Type} {x : Nat} {b0 b1 b2 b3 b4 : Option α} {z : α} (h : sN5 x b0 b1 b2 b3 b4 = some z) : (x = 0 ∧ b0 = some z) ∨ (x = 1 ∧ b1 = some z) ∨ (x = 2 ∧ b2 = some z) ∨ (x = 3 ∧ b3 = some z) ∨ (x = 4 ∧ b4 = some z) := by
  unfold sN5 at h
  split at h
  · exact Or.inl ⟨by assumption, h⟩
  · split at h
    · exact Or.inr (Or.inl ⟨by assumption, h⟩)
    · split at h
      · exact Or.inr (Or.inr (Or.inl ⟨by assumption, h⟩))
      · split at h
        · exact Or.inr (Or.inr (Or.inr (Or.inl ⟨by assumption, h⟩)))
        · split at h
          · exact Or.inr (Or.inr (Or.inr (Or.inr ⟨by assumption, h⟩)))
          · cases h
section GQ
variable {p : Program} {l : Launch} {e : Env} {R : Room} {s : State} {m : MethodId} {args : Array Value} {below : List Frame} {meth : Method} {c : Code} {H : Heap} {locs : List Loc} {cells slots : Nat} {Q : State → Prop}
variable {cc : ByteArray} {pc : Nat} {ls : Array Slot} {rest : List Value} {D : va_G} {k : Nat → ClassId} {A : Nat → Prop} {a : Nat} {ws : va_W}
theorem g_aldq (hx : p.tables.exec = Jvm.exec) (hb : c.code = cc) (hK : va_K D classes (TY k) s) (hP : va_P D classes ws H) (q0 t0 : Nat) {cA : ClassId} {C : String} {n : Nat} {f : Nat → Option Nat} {v : Value} (ha : ws[q0]? = some (a, .inl (cA, n, .inr (.inr (.inr (.inr f)))))) (ht : (TY k)[t0]? = some (cA, .object C)) {i : Int32} (hin : vp_in i n) (hv : va_rf (f i.toNatClampNeg) = v) (hdg : decode cc pc = .ok (.aaload, 1))
    (kk : W p l e R s m args below meth c H locs cells slots Q (F0 m (pc + 1) ls (v :: rest))) : W p l e R s m args below meth c H locs cells slots Q (F0 m pc ls (.int i :: .ref a :: rest)) := by
  subst hv
  exact va_aldq hx hb hK hP q0 t0 ha ht hin hdg kk
end GQ
/-! constructors -/
def QN (D : va_G) (w0 : va_W) (w1 : (Nat → Nat) → va_W) (sz : Nat) : Array Value → State → Outcome → State → Prop := fun _ st oc t => oc = .returned none ∧ (∃ q : Nat → Nat, va_P D classes (w1 q) t.heap ∧ va_D (va_A w0 sz) (w1 q)) ∧ va_F (va_A w0 sz) st t
abbrev CN (l : Launch) (y : MethodName) (cc : ByteArray) (maxL : Nat) (rm : Room) (D : va_G) (k : Nat → ClassId) (av : List Value) (w0 : va_W) (w1 : (Nat → Nat) → va_W) (sz : Nat) : Prop :=
  Met l y (Cond.code y cc maxL none :: ALL) rm (va_Pc av (PRE D k w0 sz)) (QN D w0 w1 sz) rm.cells rm.slots (va_A w0 sz)
theorem g_headN {l : Launch} {y : MethodName} {cc : ByteArray} {maxL : Nat} {rm : Room} {D : va_G} {k : Nat → ClassId} {av : List Value} {w0 : va_W} {sz : Nat} (w1 : (Nat → Nat) → va_W) (hy : plainName y.cls = true) (hn : (lg_sl av).length ≤ maxL)
    (body : ∀ (p : Program) (e : Env) (s : State) (m : MethodId) (args : Array Value) (below : List Frame) (meth : Method) (c : Code), p.tables.exec = Jvm.exec → c.code = cc → (∀ w ∈ ALL, w.before args s = true) → s.vm.findClass y.cls = some m.cls → meth.name = y.name → c.maxLocals = maxL →
      ∀ (A : Nat → Prop), (∀ q : Nat, s.heap.size ≤ q → A q) → ∀ (H : Heap) (locs : List Loc), va_P D classes w0 H → va_K D classes (TY k) s → va_D A w0 → va_S A s.heap H locs → EX k A s s.heap → ∀ ls : Array Slot, lv_has ls maxL (lv_args 0 av) →
      ∀ Qm : State → Prop, (∀ (pc : Nat) (ls : Array Slot) (H : Heap) (locs : List Loc) (q : Nat → Nat), decode cc pc = .ok (.return_, 1) → va_P D classes (w1 q) H → va_D A (w1 q) → va_S A s.heap H locs → W p l e rm s m args below meth c H locs rm.cells rm.slots Qm (F0 m pc ls [])) →
      W p l e rm s m args below meth c H locs 0 0 Qm (F0 m 0 ls [])) : CN l y cc maxL rm D k av w0 w1 sz := by
  refine Met.ofW (cc := cc) (maxL := maxL) (ret := none) hy rfl ?_
  intro p e s m args below meth c s₁ B hml hv
  obtain ⟨rfl, hsz, hP, hK, hD0, hE⟩ := hv
  subst hsz
  have hl := lv_entry av (n := maxL) hn
  rw [lg_entry_eq]
  refine body p e s m _ below meth c B.exec B.bytes (fun w h => atoms_spec (ws := Cond.code y cc maxL none :: ALL) B.pre w (List.mem_cons_of_mem _ h)) (findClass_of_methodNamed B.named) (name_of_methodNamed B.named B.method).1 hml (va_A w0 s.heap.size) (fun q h => Or.inr h) s.heap [] hP hK hD0.self va_S.rf hE _ hl _ ?_
  intro pc ls H locs q hd hP hD hS
  exact W.vret B.exec B.bytes B.returns (fun t ht hW => ⟨rfl, ⟨q, by rw [ht]; exact hP, hD⟩, hS.F ht⟩) hS.2.2 hd B.notSynchronized
section GN
variable {p : Program} {l : Launch} {e : Env} {R : Room} {s : State} {m : MethodId} {args : Array Value} {below : List Frame} {meth : Method} {c : Code} {H : Heap} {locs : List Loc} {cells slots : Nat} {Q : State → Prop}
variable {cc bytes : ByteArray} {nL maxL index pc : Nat} {own host : String} {y : MethodName} {rm : Room} {D : va_G} {k : Nat → ClassId} {A : Nat → Prop} {ws wc wr : va_W} {w1 : (Nat → Nat) → va_W} {ls : Array Slot} {st0 As rest : List Value} {b a : Nat}
theorem g_goesN {a : Array Value} (hr : va_Run p l e R s m args below meth c H locs cells slots rm.cells rm.slots (F0 m pc ls st0) rest (QN D wc w1 H.size a) (va_A wc H.size))
    (hP : va_P D classes ws H) (hD : va_D A ws) (hS : va_S A s.heap H locs) (hN : ∀ q, s.heap.size ≤ q → A q) (isC isR : List Nat) (hC : isC.map (fun i => ws[i]?) = wc.map some) (hR : isR.map (fun i => ws[i]?) = wr.map some) (hn : va_nd isR = true) (hdis : ∀ i ∈ isR, i ∉ isC)
    (kk : ∀ (q : Nat → Nat) (H1 : Heap) (locs1 : List Loc), va_P D classes (wr ++ w1 q) H1 → va_D A (wr ++ w1 q) → va_S A s.heap H1 locs1 → W p l e R s m args below meth c H1 locs1 (cells + rm.cells) (slots + rm.slots) Q (F0 m (pc + 3) ls rest)) : W p l e R s m args below meth c H locs cells slots Q (F0 m pc ls st0) := by
  have hF := va_free (wc := wc) hD hS hN isC hC
  intro T hT X
  obtain ⟨v', st₀, t, T', L, h0, X', hL, e1, e2, ⟨hv, ⟨q, hp, hd⟩, hz, hk⟩, st⟩ := hr T hT X
  cases hv
  rw [h0] at hz hk
  have hk' : ∀ q : Nat, q < H.size → ¬ va_A wc H.size q → T'.heap[q]? = H[q]? := fun q h1 h2 => by rw [e1]; exact hk q h1 h2
  obtain ⟨hP2, hD2⟩ := va_join (wr := wr) (w1 := w1 q) hP hD isC isR hC hR hn hdis hk' hF (by rw [e1]; exact hp) hd
  obtain ⟨t2, a1, b1⟩ := kk q T'.heap (locs ++ L) hP2 hD2
    ⟨Nat.le_trans hS.1 (by rw [e1]; exact hz), fun q h1 h2 => by rw [hk' q (Nat.lt_of_lt_of_le h1 hS.1) (fun z => h2 (hF q z))]; exact hS.2.1 q h1 h2, fun q hq => by
      rcases List.mem_append.mp hq with h | h
      · exact hS.2.2 q h
      · exact hF _ (hL q h)⟩ T' rfl X'
  exact ⟨t2, st t2 a1, b1⟩
theorem g_callI (S : CallFix p m c cc nL s args ALL own) (hM : CN l y bytes maxL rm D k [.ref b] wc w1 H.size)
    (h1 : Cond.methodLink own index y ∈ ALL) (h2 : Cond.instanceMethod y ∈ ALL) (h4 : Cond.initialized y.cls ∈ ALL) (h5 : Cond.code y bytes maxL none ∈ ALL) (hy : y.name = "<init>")
    (hd : y.cls ≠ "java/lang/invoke/MethodHandle" ∧ y.cls ≠ "java/lang/invoke/VarHandle" ∧ (parseMethodDescriptor y.desc).map (fun d => d.parameters.length) = some 0)
    (hR : rm.frames + 1 ≤ R.frames ∧ 8 + (maxL + 11) + rm.locals ≤ R.locals)
    (hK : va_K D classes (TY k) s) (hP : va_P D classes ws H) (hD : va_D A ws) (hS : va_S A s.heap H locs) (hN : ∀ q, s.heap.size ≤ q → A q) (hE : EX k A s s.heap)
    (isC isR : List Nat) (hC : isC.map (fun i => ws[i]?) = wc.map some) (hnd : va_nd isC = true) (hRr : isR.map (fun i => ws[i]?) = wr.map some) (hn : va_nd isR = true) (hdis : ∀ i ∈ isR, i ∉ isC)
    (hls : ls.size = nL) (hW : (rest.map fun v => v.category).sum ≤ 8) (hdg : decode cc pc = .ok (.invokespecial index, 3)) (hf : cells + rm.cells ≤ R.cells ∧ slots + rm.slots ≤ R.slots) (hst : st0 = .ref b :: rest)
    (kk : ∀ (q : Nat → Nat) (H1 : Heap) (locs1 : List Loc), va_P D classes (wr ++ w1 q) H1 → va_D A (wr ++ w1 q) → va_S A s.heap H1 locs1 → W p l e R s m args below meth c H1 locs1 (cells + rm.cells) (slots + rm.slots) Q (F0 m (pc + 3) ls rest)) : W p l e R s m args below meth c H locs cells slots Q (F0 m pc ls st0) :=
  g_goesN (va_runI (As := []) S hM ⟨callB_of 0 S.2.2.2.2 (g_good h5) rfl rfl rfl (S.2.2.2.2 _ h4) (S.2.2.2.2 _ h1) hd hR, hy, S.2.2.2.2 _ h2⟩ ⟨PRE_blind, g_pre hK hP hD hS hN hE isC hC hnd⟩ rfl rfl hls hst (lv_room hW) hdg hf) hP hD hS hN isC isR hC hRr hn hdis kk
theorem g_callIN (S : CallFix p m c cc nL s args ALL own) (hM : CN l y bytes maxL rm D k [.ref b] wc w1 H.size)
    (h1 : va_Nw (.methodLinkNest own index y host) s) (h2 : Cond.instanceMethod y ∈ ALL) (h4 : Cond.initialized y.cls ∈ ALL) (h5 : Cond.code y bytes maxL none ∈ ALL) (hy : y.name = "<init>")
    (hd : y.cls ≠ "java/lang/invoke/MethodHandle" ∧ y.cls ≠ "java/lang/invoke/VarHandle" ∧ (parseMethodDescriptor y.desc).map (fun d => d.parameters.length) = some 0)
    (hR : rm.frames + 1 ≤ R.frames ∧ 8 + (maxL + 11) + rm.locals ≤ R.locals)
    (hK : va_K D classes (TY k) s) (hP : va_P D classes ws H) (hD : va_D A ws) (hS : va_S A s.heap H locs) (hN : ∀ q, s.heap.size ≤ q → A q) (hE : EX k A s s.heap)
    (isC isR : List Nat) (hC : isC.map (fun i => ws[i]?) = wc.map some) (hnd : va_nd isC = true) (hRr : isR.map (fun i => ws[i]?) = wr.map some) (hn : va_nd isR = true) (hdis : ∀ i ∈ isR, i ∉ isC)
    (hls : ls.size = nL) (hW : (rest.map fun v => v.category).sum ≤ 8) (hdg : decode cc pc = .ok (.invokespecial index, 3)) (hf : cells + rm.cells ≤ R.cells ∧ slots + rm.slots ≤ R.slots) (hst : st0 = .ref b :: rest)
    (kk : ∀ (q : Nat → Nat) (H1 : Heap) (locs1 : List Loc), va_P D classes (wr ++ w1 q) H1 → va_D A (wr ++ w1 q) → va_S A s.heap H1 locs1 → W p l e R s m args below meth c H1 locs1 (cells + rm.cells) (slots + rm.slots) Q (F0 m (pc + 3) ls rest)) : W p l e R s m args below meth c H locs cells slots Q (F0 m pc ls st0) :=
  g_goesN (va_runIN (As := []) S hM ⟨va_cnB 0 S.2.2.2.2 (g_good h5) rfl rfl rfl h1 (S.2.2.2.2 _ h4) hd hR, hy, S.2.2.2.2 _ h2⟩ ⟨PRE_blind, g_pre hK hP hD hS hN hE isC hC hnd⟩ rfl rfl hls hst (lv_room hW) hdg hf) hP hD hS hN isC isR hC hRr hn hdis kk
theorem g_putF (hx : p.tables.exec = Jvm.exec) (hb : c.code = cc) {C n d : String} {T : u_T} {N ci : Nat} (hA : ∀ w ∈ ALL, w.before args s = true) (hin : ∀ w ∈ u_ws C T N, w ∈ ALL) (ty0 : Nat → FieldType) (hty : ∀ k, k < N → parseFieldDescriptor (T k).2.2.1 = some (ty0 k)) (hnm : ∀ a, a < N → ∀ b, b < N → a ≠ b → (T a).2.1 ≠ (T b).2.1) (hown : s.vm.findClass C = some m.cls) (hK : va_K D classes (TY k) s) (hP : va_P D classes ws H) (hD : va_D A ws) {H0 : Heap} (hS : va_S A H0 H locs) (q0 : Nat) {fs : List Value} (he : ws[q0]? = some (b, .inr (ci, fs))) (hc : classes[ci]? = some (C, T, N)) (k0 : Nat) (hk : k0 < N) (hT : T k0 = (C, n, d, true)) (hl : Cond.fieldLink C index C n d ∈ ALL) (hin2 : meth.name = "<init>") {ty : FieldType} {v : Value} (hd : parseFieldDescriptor d = some ty) (hn : narrow ty v = v) (hfit : fits ty v = true) (hle : k0 < fs.length)
    (hdg : decode cc pc = .ok (.putfield index, 3)) (kk : ∀ (H1 : Heap) (locs1 : List Loc), va_P D classes (ws.set q0 (b, .inr (ci, fs.set k0 v))) H1 → va_D A (ws.set q0 (b, .inr (ci, fs.set k0 v))) → va_S A H0 H1 locs1 → W p l e R s m args below meth c H1 locs1 cells slots Q (F0 m (pc + 3) ls rest)) : W p l e R s m args below meth c H locs cells slots Q (F0 m pc ls (v :: .ref b :: rest)) :=
  va_putF (ref := C) (ty := ty) hx hb hA hin ty0 hty hnm hown hK hP hD hS q0 he hc k0 hk (by rw [hT]; exact hA _ hl) (fun x h => by rw [hT] at h ⊢; exact h) (by rw [hT]) hin2 (by rw [hT]) (by rw [hT]; exact hd) hn hfit hle hdg kk
theorem g_newI (hx : p.tables.exec = Jvm.exec) (hb : c.code = cc) (hA : ∀ w ∈ ALL, w.before args s = true) (harr : Cond.arrayClass .int ∈ ALL) (hK : va_K D classes (TY k) s) (hP : va_P D classes ws H) (hD : va_D A ws) (hS : va_S A s.heap H locs) (hN : ∀ q, s.heap.size ≤ q → A q)
    {n : Int32} (N : Nat) (hn : ¬ n < 0) (hNn : n.toNatClampNeg = N) (hb2 : N * componentBytes .int ≤ 536870912) (hc : cells + 1 ≤ R.cells) (hs : slots + N ≤ R.slots) (hdg : decode cc pc = .ok (.newarray .int, 2))
    (kk : ∀ (q : Nat) (H1 : Heap), va_P D classes (ws ++ [(q, .inl (k 0, N, .inl (fun _ => 0)))]) H1 → va_D A (ws ++ [(q, .inl (k 0, N, .inl (fun _ => 0)))]) → va_S A s.heap H1 locs → W p l e R s m args below meth c H1 locs (cells + 1) (slots + N) Q (F0 m (pc + 2) ls (.ref q :: rest))) : W p l e R s m args below meth c H locs cells slots Q (F0 m pc ls (.int n :: rest)) := by
  refine va_newa (atype := .int) (ty := .int) (a0 := (N, .inl (fun _ => 0))) hx hb (hA _ harr) rfl hK hP hD hS hN (fun cA => rfl) hn hNn hb2 hc hs hdg (fun q cA H1 hK1 hP1 hD1 hS1 => ?_)
  have e1 := (hK1.2 6 (cA, .int) rfl).2
  have e2 := (hK.2 0 (k 0, .int) rfl).2
  have e : cA = k 0 := Option.some.inj (e1.symm.trans e2)
  subst e
  exact kk q H1 hP1 hD1 hS1
theorem g_newC (hx : p.tables.exec = Jvm.exec) (hb : c.code = cc) (hA : ∀ w ∈ ALL, w.before args s = true) (harr : Cond.arrayClass .char ∈ ALL) (hK : va_K D classes (TY k) s) (hP : va_P D classes ws H) (hD : va_D A ws) (hS : va_S A s.heap H locs) (hN : ∀ q, s.heap.size ≤ q → A q)
    {n : Int32} (N : Nat) (hn : ¬ n < 0) (hNn : n.toNatClampNeg = N) (hb2 : N * componentBytes .char ≤ 536870912) (hc : cells + 1 ≤ R.cells) (hs : slots + N ≤ R.slots) (hdg : decode cc pc = .ok (.newarray .char, 2))
    (kk : ∀ (q : Nat) (H1 : Heap), va_P D classes (ws ++ [(q, .inl (k 1, N, .inl (fun _ => 0)))]) H1 → va_D A (ws ++ [(q, .inl (k 1, N, .inl (fun _ => 0)))]) → va_S A s.heap H1 locs → W p l e R s m args below meth c H1 locs (cells + 1) (slots + N) Q (F0 m (pc + 2) ls (.ref q :: rest))) : W p l e R s m args below meth c H locs cells slots Q (F0 m pc ls (.int n :: rest)) := by
  refine va_newa (atype := .char) (ty := .char) (a0 := (N, .inl (fun _ => 0))) hx hb (hA _ harr) rfl hK hP hD hS hN (fun cA => rfl) hn hNn hb2 hc hs hdg (fun q cA H1 hK1 hP1 hD1 hS1 => ?_)
  have e1 := (hK1.2 6 (cA, .char) rfl).2
  have e2 := (hK.2 1 (k 1, .char) rfl).2
  have e : cA = k 1 := Option.some.inj (e1.symm.trans e2)
  subst e
  exact kk q H1 hP1 hD1 hS1
theorem g_newQ (hx : p.tables.exec = Jvm.exec) (hb : c.code = cc) (hA : ∀ w ∈ ALL, w.before args s = true) {C : String} (hown : s.vm.findClass own = some m.cls) (hcl : Cond.classLink own index C ∈ ALL) (hao : va_AO C s) (t : Nat) (ht : (TY k)[t]? = some (k t, .object C)) (hK : va_K D classes (TY k) s) (hP : va_P D classes ws H) (hD : va_D A ws) (hS : va_S A s.heap H locs) (hN : ∀ q, s.heap.size ≤ q → A q)
    {n : Int32} (N : Nat) (hn : ¬ n < 0) (hNn : n.toNatClampNeg = N) (hb2 : N * 4 ≤ 536870912) (hc : cells + 1 ≤ R.cells) (hs : slots + N ≤ R.slots) (hdg : decode cc pc = .ok (.anewarray index, 3))
    (kk : ∀ (q : Nat) (H1 : Heap), va_P D classes (ws ++ [(q, .inl (k t, N, .inr (.inr (.inr (.inr (fun _ => none))))))]) H1 → va_D A (ws ++ [(q, .inl (k t, N, .inr (.inr (.inr (.inr (fun _ => none))))))]) → va_S A s.heap H1 locs → W p l e R s m args below meth c H1 locs (cells + 1) (slots + N) Q (F0 m (pc + 3) ls (.ref q :: rest))) : W p l e R s m args below meth c H locs cells slots Q (F0 m pc ls (.int n :: rest)) := by
  refine va_newq hx hb hown (hA _ hcl) hao hK hP hD hS hN hn hNn hb2 hc hs hdg (fun q cA H1 hK1 hP1 hD1 hS1 => ?_)
  obtain ⟨_, _, _, _, _, e1⟩ := (hK1.2 6 (cA, .object C) rfl).2
  obtain ⟨_, _, _, _, _, e2⟩ := (hK.2 t (k t, .object C) ht).2
  have e : cA = k t := Option.some.inj (e1.symm.trans e2)
  subst e
  exact kk q H1 hP1 hD1 hS1
end GN
theorem rf4_made (a b c d : Nat) : va_up (va_up (va_up (va_up (fun _ => none) 0 (some a)) 1 (some b)) 2 (some c)) 3 (some d) = rf4 a b c d := by
  funext i
  unfold va_up rf4
  match i with
  | 0 => rfl
  | 1 => rfl
  | 2 => rfl
  | 3 => rfl
  | n + 4 => simp
theorem rf3_made (a b c : Nat) : va_up (va_up (va_up (fun _ => none) 0 (some a)) 1 (some b)) 2 (some c) = rf3 a b c := by
  funext i
  unfold va_up rf3
  match i with
  | 0 => rfl
  | 1 => rfl
  | 2 => rfl
  | n + 3 => simp
