/** The promises 1 to 7, sentence by sentence. */
final class GuestSentences {
    private GuestSentences() {
    }

    static void tell(Sentences all) {
        newObject(all);
        guest(all);
        wish(all);
        table(all);
        feud(all);
        peace(all);
        set(all);
    }

    private static void newObject(Sentences all) {
        all.hold(1, "Creates a supper without guests", GuestSentences::withoutGuests);
        all.hold(1, "without guests, tables", GuestSentences::withoutTables);
        all.hold(1, "tables, feuds", GuestSentences::withoutFeuds);
        all.hold(1, "and a snapshot", GuestSentences::withoutSnapshot);
        all.hold(1, "with an empty buffer", GuestSentences::withEmptyBuffer);
    }

    private static void guest(Sentences all) {
        all.hold(2, "Lets a guest come, who stands", GuestSentences::guestStands);
        all.hold(2, "Undoable", GuestSentences::guestUndone);
        all.hold(2, "`family`: 0 to 5", GuestSentences::guestFamily);
        all.hold(2, "`size`: 1 to 3", GuestSentences::guestSize);
        all.hold(2, "Returns the number of the guest", GuestSentences::guestNumber);
        all.hold(2, "if family or size is out of range", GuestSentences::guestOutOfRange);
        all.hold(2, "if there are 16 guests", GuestSentences::guestsAreSixteen);
    }

    private static void wish(Sentences all) {
        all.hold(3, "Changes the wish of a guest", GuestSentences::wishChanges);
        all.hold(3, "Undoable", GuestSentences::wishUndone);
        all.hold(3, "`guest`: the number", GuestSentences::wishGuest);
        all.hold(3, "`friend`: another guest, or NONE", GuestSentences::wishFriend);
        all.hold(3, "Returns the previous wish, NONE without one", GuestSentences::wishPrevious);
        all.hold(3, "if there is no such guest", GuestSentences::wishOfNoGuest);
        all.hold(3, "or friend is neither NONE nor a guest", GuestSentences::wishForNoGuest);
        all.hold(3, "if friend is the guest", GuestSentences::wishForOneself);
    }

    private static void table(Sentences all) {
        all.hold(4, "Lets a table come", GuestSentences::tableComes);
        all.hold(4, "Undoable", GuestSentences::tableUndone);
        all.hold(4, "`seats`: 3 to 8", GuestSentences::tableSeats);
        all.hold(4, "Returns its number", GuestSentences::tableNumber);
        all.hold(4, "if seats is out of range", GuestSentences::tableOutOfRange);
        all.hold(4, "if there are 4 tables", GuestSentences::tablesAreFour);
    }

    private static void feud(Sentences all) {
        all.hold(5, "Lets a feud begin", GuestSentences::feudBegins);
        all.hold(5, "Undoable", GuestSentences::feudUndone);
        all.hold(5, "`family`: 0 to 5", GuestSentences::feudFamily);
        all.hold(5, "`other`: 0 to 5", GuestSentences::feudOther);
        all.hold(5, "Returns how many guests stand up by it", GuestSentences::feudRisers);
        all.hold(5, "if a family is out of range", GuestSentences::feudOutOfRange);
        all.hold(5, "or both are the same", GuestSentences::feudOfOne);
        all.hold(5, "if there is this feud already", GuestSentences::feudAlready);
        all.hold(5, "or there are 8", GuestSentences::feudsAreEight);
    }

    private static void peace(Sentences all) {
        all.hold(6, "Ends a feud", GuestSentences::peaceEnds);
        all.hold(6, "Undoable", GuestSentences::peaceUndone);
        all.hold(6, "`family`: 0 to 5", GuestSentences::peaceFamily);
        all.hold(6, "`other`: 0 to 5", GuestSentences::peaceOther);
        all.hold(6, "Returns how many feuds are left", GuestSentences::peaceLeft);
        all.hold(6, "if a family is out of range", GuestSentences::peaceOutOfRange);
        all.hold(6, "or both are the same", GuestSentences::peaceOfOne);
        all.hold(6, "if there is no such feud", GuestSentences::peaceOfNoFeud);
    }

    private static void set(Sentences all) {
        all.hold(7, "Changes a setting", GuestSentences::setChanges);
        all.hold(7, "Undoable", GuestSentences::setUndone);
        all.hold(7, "`setting`: 0 to 3", GuestSentences::setSetting);
        all.hold(7, "`value`: the new value", GuestSentences::setValue);
        all.hold(7, "Returns the previous value", GuestSentences::setPrevious);
        all.hold(7, "if there is no such setting", GuestSentences::setOfNoSetting);
        all.hold(7, "if value is out of range", GuestSentences::setOutOfRange);
    }

    // ---- promise 1

    private static void withoutGuests() {
        SupperSeats x = new SupperSeats();
        Due.is("guests", x.count(0), 0);
        Due.is("guests who sit", x.count(3), 0);
        Due.is("seated(0)", x.seated(0), -1);
        Due.is("sat down", x.count(7), 0);
        Due.is("stood up", x.count(8), 0);
        Due.is("seatAll", x.seatAll(), 0);
        Due.fails(x, "guestOf(0, 0)", Due.INDEX, () -> x.guestOf(0, 0));
        Due.fails(x, "rise(0)", Due.INDEX, () -> x.rise(0));
    }

    private static void withoutTables() {
        SupperSeats x = new SupperSeats();
        Due.is("tables", x.count(1), 0);
        Due.fails(x, "tableOf(0, 0)", Due.INDEX, () -> x.tableOf(0, 0));
        Due.fails(x, "who(0, 0)", Due.INDEX, () -> x.who(0, 0));
        Due.fails(x, "told(0, 0)", Due.INDEX, () -> x.told(0, 0));
    }

    private static void withoutFeuds() {
        SupperSeats x = new SupperSeats();
        Due.is("feuds", x.count(2), 0);
        Due.is("feudAt(0)", x.feudAt(0), -1);
        for (int i = 0; i < 36; i++) {
            int family = i / 6;
            int other = i % 6;
            if (family != other) {
                Due.fails(x, "peace(" + family + ", " + other + ")", Due.STATE, () -> x.peace(family, other));
            }
        }
    }

    private static void withoutSnapshot() {
        SupperSeats x = new SupperSeats();
        Due.fails(x, "restore", Due.STATE, x::restore);
        Due.fails(x, "undo", Due.STATE, x::undo);
        Due.is("saved states", x.count(13), 0);
    }

    private static void withEmptyBuffer() {
        SupperSeats x = new SupperSeats();
        Due.is("firstError", x.firstError(), 0);
        Due.fails(x, "seats", Due.ARGUMENT, x::seats);
        Due.is("clearBuffer", x.clearBuffer(), 0);
        Due.is("append", x.append('-'), 1);
        Due.is("the buffer of another object", new SupperSeats().clearBuffer(), 0);
    }

    // ---- promise 2

    private static void guestStands() {
        SupperSeats x = Given.supper("3", "A1 B1", "0@0a");
        Due.is("table", x.guestOf(1, 3), -1);
        Due.is("seat", x.guestOf(1, 4), -1);
        Due.is("guests who sit", x.count(3), 1);
        x.undo();
        x.sit(1, 0, 1);
        x.undo();
        x.undo();
        x.guest(1, 1);
        Due.is("table of one who comes in place of one who sat", x.guestOf(1, 3), -1);
    }

    private static void guestUndone() {
        SupperSeats x = Given.supper("3", "A1", "0@0a");
        Due.undoable(x, "guest", () -> x.guest(1, 2));
        Due.is("guests", x.count(0), 1);
    }

    private static void guestFamily() {
        SupperSeats x = Given.supper("3", "A1 F1", "0@0a 1@0b");
        Due.is("the least family", x.guestOf(0, 0), 0);
        Due.is("the greatest family", x.guestOf(1, 0), 5);
        Due.isText("told", Due.told(x, 0), "A|F.");
    }

    private static void guestSize() {
        SupperSeats x = Given.supper("3", "A1 A3", "");
        Due.is("the least size", x.guestOf(0, 1), 1);
        Due.is("the greatest size", x.guestOf(1, 1), 3);
        Due.is("whyNot of the least size", x.whyNot(0, 0, 0), 0);
        Due.is("whyNot of the greatest size", x.whyNot(1, 0, 0), 3);
    }

    private static void guestNumber() {
        SupperSeats x = new SupperSeats();
        Due.is("the first guest", x.guest(5, 3), 0);
        Due.is("the second guest", x.guest(5, 3), 1);
        x.undo();
        Due.is("the second guest anew", x.guest(0, 1), 1);
        for (int guest = 2; guest < 15; guest++) {
            x.guest(0, 1);
        }
        Due.is("the last guest", x.guest(0, 1), 15);
    }

    private static void guestOutOfRange() {
        SupperSeats x = new SupperSeats();
        for (int wrong : Given.outside(0, 5)) {
            Due.fails(x, "guest(" + wrong + ", 1)", Due.ARGUMENT, () -> x.guest(wrong, 1));
        }
        for (int wrong : Given.outside(1, 3)) {
            Due.fails(x, "guest(5, " + wrong + ")", Due.ARGUMENT, () -> x.guest(5, wrong));
        }
        Due.is("guests", x.count(0), 0);
    }

    private static void guestsAreSixteen() {
        SupperSeats x = new SupperSeats();
        for (int guest = 0; guest < 16; guest++) {
            Due.is("guest", x.guest(0, 1), guest);
        }
        Due.fails(x, "guest(0, 1)", Due.STATE, () -> x.guest(0, 1));
        Due.fails(x, "guest(5, 3)", Due.STATE, () -> x.guest(5, 3));
        Due.is("guests", x.count(0), 16);
    }

    // ---- promise 3

    private static void wishChanges() {
        SupperSeats x = Given.supper("", "A1 B1 C1", "");
        x.wish(1, 2);
        Due.is("the wish", x.guestOf(1, 2), 2);
        x.wish(1, 0);
        Due.is("the wish", x.guestOf(1, 2), 0);
        Due.is("the wish of the friend", x.guestOf(0, 2), -1);
        x.wish(1, SupperSeats.NONE);
        Due.is("the wish", x.guestOf(1, 2), -1);
    }

    private static void wishUndone() {
        SupperSeats x = Given.supper("", "A1 B1 C1", "");
        Due.undoable(x, "wish", () -> x.wish(0, 1));
        x.wish(0, 2);
        Due.undoable(x, "wish NONE", () -> x.wish(0, SupperSeats.NONE));
        Due.is("the wish", x.guestOf(0, 2), 2);
    }

    private static void wishGuest() {
        SupperSeats x = Given.supper("", Given.sixteenGuests(), "");
        Due.is("wish of the first guest", x.wish(0, 7), -1);
        Due.is("wish of the last guest", x.wish(15, 7), -1);
        Due.is("the first one's wish", x.guestOf(0, 2), 7);
        Due.is("the last one's wish", x.guestOf(15, 2), 7);
    }

    private static void wishFriend() {
        SupperSeats x = Given.supper("", Given.sixteenGuests(), "");
        x.wish(7, 0);
        Due.is("wish for the first guest", x.guestOf(7, 2), 0);
        x.wish(7, 15);
        Due.is("wish for the last guest", x.guestOf(7, 2), 15);
        x.wish(7, -1);
        Due.is("no wish", x.guestOf(7, 2), -1);
    }

    private static void wishPrevious() {
        SupperSeats x = Given.supper("", "A1 B1 C1", "");
        Due.is("the first wish", x.wish(2, 0), -1);
        Due.is("the second wish", x.wish(2, 1), 0);
        Due.is("the same wish", x.wish(2, 1), 1);
        Due.is("NONE", x.wish(2, -1), 1);
        Due.is("NONE again", x.wish(2, -1), -1);
    }

    private static void wishOfNoGuest() {
        SupperSeats x = Given.supper("", "A1 B1", "");
        for (int wrong : Given.outside(0, 1)) {
            Due.fails(x, "wish(" + wrong + ", 0)", Due.INDEX, () -> x.wish(wrong, 0));
            Due.fails(x, "wish(" + wrong + ", NONE)", Due.INDEX, () -> x.wish(wrong, SupperSeats.NONE));
        }
        SupperSeats y = Given.supper("", "A1 B1", "");
        y.undo();
        Due.fails(y, "wish of one whose coming is undone", Due.INDEX, () -> y.wish(1, 0));
    }

    private static void wishForNoGuest() {
        SupperSeats x = Given.supper("", "A1 B1", "");
        for (int wrong : Given.outside(-1, 1)) {
            Due.fails(x, "wish(0, " + wrong + ")", Due.INDEX, () -> x.wish(0, wrong));
        }
        SupperSeats y = Given.supper("", Given.sixteenGuests(), "");
        Due.fails(y, "wish(0, 16)", Due.INDEX, () -> y.wish(0, 16));
        Due.fails(y, "wish(0, -2)", Due.INDEX, () -> y.wish(0, -2));
    }

    private static void wishForOneself() {
        SupperSeats x = Given.supper("", Given.sixteenGuests(), "");
        for (int i = 0; i < 16; i++) {
            int guest = i;
            Due.fails(x, "wish(" + guest + ", " + guest + ")", Due.ARGUMENT, () -> x.wish(guest, guest));
        }
    }

    // ---- promise 4

    private static void tableComes() {
        SupperSeats x = new SupperSeats();
        x.table(3);
        Due.is("tables", x.count(1), 1);
        for (int seat = 0; seat < 3; seat++) {
            Due.is("who", x.who(0, seat), -1);
        }
        x.guest(0, 1);
        x.table(4);
        x.sit(0, 1, 2);
        x.undo();
        x.undo();
        x.table(4);
        Due.is("who at a table that comes in place of one", x.who(1, 2), -1);
        SupperSeats y = Given.supper("8", "A1 B1", "0@0a 1@0h");
        y.table(8);
        Due.is("who on the first seat of the table before", y.who(0, 0), 0);
        Due.is("who on the last seat of the table before", y.who(0, 7), 1);
    }

    private static void tableUndone() {
        SupperSeats x = Given.supper("3", "A1", "0@0a");
        Due.undoable(x, "table", () -> x.table(8));
        Due.is("tables", x.count(1), 1);
        Due.fails(x, "tableOf(1, 0)", Due.INDEX, () -> x.tableOf(1, 0));
    }

    private static void tableSeats() {
        SupperSeats x = Given.supper("38", "A1", "");
        Due.is("the last seat of 3", x.sit(0, 0, 2), 1);
        Due.is("the last seat of 8", x.sit(0, 1, 7), 1);
        Due.fails(x, "behind the last seat of 3", Due.INDEX, () -> x.sit(0, 0, 3));
        Due.fails(x, "behind the last seat of 8", Due.INDEX, () -> x.sit(0, 1, 8));
    }

    private static void tableNumber() {
        SupperSeats x = new SupperSeats();
        Due.is("the first table", x.table(8), 0);
        Due.is("the second table", x.table(8), 1);
        x.undo();
        Due.is("the second table anew", x.table(3), 1);
        Due.is("the third table", x.table(3), 2);
        Due.is("the last table", x.table(3), 3);
    }

    private static void tableOutOfRange() {
        SupperSeats x = new SupperSeats();
        for (int wrong : Given.outside(3, 8)) {
            Due.fails(x, "table(" + wrong + ")", Due.ARGUMENT, () -> x.table(wrong));
        }
        Due.fails(x, "table(0)", Due.ARGUMENT, () -> x.table(0));
        Due.is("tables", x.count(1), 0);
    }

    private static void tablesAreFour() {
        SupperSeats x = new SupperSeats();
        for (int table = 0; table < 4; table++) {
            Due.is("table", x.table(3), table);
        }
        Due.fails(x, "table(3)", Due.STATE, () -> x.table(3));
        Due.fails(x, "table(8)", Due.STATE, () -> x.table(8));
        Due.is("tables", x.count(1), 4);
    }

    // ---- promise 5

    private static void feudBegins() {
        SupperSeats x = Given.supper("3", "A1 B1", "0@0a");
        x.feud(0, 1);
        Due.is("feuds", x.count(2), 1);
        Due.is("feudAt(0)", x.feudAt(0), 1);
        Due.is("whyNot", x.whyNot(1, 0, 1), 4);
    }

    private static void feudUndone() {
        SupperSeats x = Given.supper("3", "A1 B1", "0@0a 1@0b");
        Due.undoable(x, "feud", () -> x.feud(0, 1));
        Due.is("who stood up by it", x.who(0, 1), 1);
        Due.is("stood up", x.count(8), 0);
        Due.is("feud anew", x.feud(0, 1), 1);
    }

    private static void feudFamily() {
        SupperSeats x = new SupperSeats();
        x.feud(0, 3);
        x.feud(5, 3);
        Due.line("feudAt", x::feudAt, 3, 23);
    }

    private static void feudOther() {
        SupperSeats x = new SupperSeats();
        x.feud(3, 0);
        x.feud(3, 5);
        Due.line("feudAt", x::feudAt, 3, 23);
    }

    private static void feudRisers() {
        SupperSeats x = Given.supper("88", "A1 A1 B1 B1 B1 C1", "0@0a 1@0b 2@0c 3@1a 4@1b");
        Due.is("of those who do not sit", x.feud(0, 5), 0);
        Due.is("of those of whom one family sits", x.feud(1, 2), 0);
        Due.is("of two and one", x.feud(1, 0), 1);
        SupperSeats y = Given.supper("8888", Given.sixteenGuests(),
            "0@0a 1@0b 6@0c 7@0d 2@1a 8@1b 3@2a 14@2b 9@2c 15@2d 4@3a");
        Due.is("of families at different tables", y.feud(0, 2), 0);
        Due.is("of two and two", y.feud(0, 1), 2);
        Due.is("of one and three", y.feud(2, 3), 1);
        SupperSeats z = Given.supper("8", "A1 A1 A1 A1 B1 B1 B1 B1", "");
        z.set(0, 4);
        Given.sit(z, "0@0a 1@0b 2@0c 3@0d 4@0e 5@0f 6@0g 7@0h");
        Due.is("of four and four, at a full table", z.feud(0, 1), 4);
        Due.is("guests who sit", z.count(3), 4);
        Due.is("stood up", z.count(8), 4);
    }

    private static void feudOutOfRange() {
        SupperSeats x = new SupperSeats();
        for (int wrong : Given.outside(0, 5)) {
            Due.fails(x, "feud(" + wrong + ", 2)", Due.ARGUMENT, () -> x.feud(wrong, 2));
            Due.fails(x, "feud(2, " + wrong + ")", Due.ARGUMENT, () -> x.feud(2, wrong));
        }
        Due.is("feuds", x.count(2), 0);
    }

    private static void feudOfOne() {
        SupperSeats x = new SupperSeats();
        Due.fails(x, "feud(0, 0)", Due.ARGUMENT, () -> x.feud(0, 0));
        Due.fails(x, "feud(5, 5)", Due.ARGUMENT, () -> x.feud(5, 5));
        Due.fails(x, "feud(6, 6)", Due.ARGUMENT, () -> x.feud(6, 6));
    }

    private static void feudAlready() {
        SupperSeats x = new SupperSeats();
        Given.feud(x, "AB FE");
        Due.fails(x, "feud(0, 1)", Due.STATE, () -> x.feud(0, 1));
        Due.fails(x, "feud(1, 0)", Due.STATE, () -> x.feud(1, 0));
        Due.fails(x, "feud(4, 5)", Due.STATE, () -> x.feud(4, 5));
        x.peace(1, 0);
        Due.is("feud after peace", x.feud(1, 0), 0);
    }

    private static void feudsAreEight() {
        SupperSeats x = new SupperSeats();
        Given.feud(x, "AB AC AD AE AF BC BD");
        Due.is("the eighth feud", x.feud(1, 4), 0);
        Due.fails(x, "the ninth feud", Due.STATE, () -> x.feud(4, 5));
        Due.fails(x, "one of the eight", Due.STATE, () -> x.feud(0, 1));
        Due.is("feuds", x.count(2), 8);
    }

    // ---- promise 6

    private static void peaceEnds() {
        SupperSeats x = Given.supper("3", "A1 B1 C1", "0@0a");
        Given.feud(x, "AB AC");
        x.peace(0, 1);
        Due.is("whyNot of the foe", x.whyNot(1, 0, 1), 0);
        Due.is("whyNot of the other foe", x.whyNot(2, 0, 1), 4);
        Due.line("feudAt", x::feudAt, 2);
        Due.is("guests who sit", x.count(3), 1);
    }

    private static void peaceUndone() {
        SupperSeats x = new SupperSeats();
        Given.feud(x, "AB CD EF");
        Due.undoable(x, "peace", () -> x.peace(2, 3));
        Due.line("feudAt", x::feudAt, 1, 15, 29);
    }

    private static void peaceFamily() {
        SupperSeats x = new SupperSeats();
        Given.feud(x, "AD FD");
        Due.is("peace(5, 3)", x.peace(5, 3), 1);
        Due.is("peace(0, 3)", x.peace(0, 3), 0);
    }

    private static void peaceOther() {
        SupperSeats x = new SupperSeats();
        Given.feud(x, "AD FD");
        Due.is("peace(3, 5)", x.peace(3, 5), 1);
        Due.is("peace(3, 0)", x.peace(3, 0), 0);
    }

    private static void peaceLeft() {
        SupperSeats x = new SupperSeats();
        Given.feud(x, "AB AC AD AE AF BC BD BE");
        for (int other = 5; other >= 1; other--) {
            Due.is("peace(0, " + other + ")", x.peace(0, other), other + 2);
        }
        Due.is("peace(1, 2)", x.peace(1, 2), 2);
        Due.is("peace(1, 3)", x.peace(1, 3), 1);
        Due.is("the last peace", x.peace(4, 1), 0);
    }

    private static void peaceOutOfRange() {
        SupperSeats x = new SupperSeats();
        Given.feud(x, "AB CD");
        for (int wrong : Given.outside(0, 5)) {
            Due.fails(x, "peace(" + wrong + ", 2)", Due.ARGUMENT, () -> x.peace(wrong, 2));
            Due.fails(x, "peace(2, " + wrong + ")", Due.ARGUMENT, () -> x.peace(2, wrong));
        }
        Due.fails(x, "peace(-1, 7), which has the code of A and B", Due.ARGUMENT, () -> x.peace(-1, 7));
    }

    private static void peaceOfOne() {
        SupperSeats x = new SupperSeats();
        Given.feud(x, "AB");
        Due.fails(x, "peace(0, 0)", Due.ARGUMENT, () -> x.peace(0, 0));
        Due.fails(x, "peace(5, 5)", Due.ARGUMENT, () -> x.peace(5, 5));
        Due.fails(x, "peace(-1, -1)", Due.ARGUMENT, () -> x.peace(-1, -1));
    }

    private static void peaceOfNoFeud() {
        SupperSeats x = new SupperSeats();
        Due.fails(x, "peace without any feud", Due.STATE, () -> x.peace(0, 1));
        Given.feud(x, "AB");
        Due.fails(x, "peace(0, 2)", Due.STATE, () -> x.peace(0, 2));
        Due.fails(x, "peace(1, 2)", Due.STATE, () -> x.peace(1, 2));
        x.peace(0, 1);
        Due.fails(x, "peace once more", Due.STATE, () -> x.peace(0, 1));
    }

    // ---- promise 7

    private static void setChanges() {
        SupperSeats x = Given.supper("8", "A2 B1", "0@0a 1@0b");
        x.wish(0, 1);
        x.set(0, 1);
        x.set(1, 10);
        x.set(2, 7);
        x.set(3, 4);
        int[] due = {1, 10, 7, 4};
        for (int setting = 0; setting < 4; setting++) {
            Due.is("setting " + setting, x.count(9 + setting), due[setting]);
        }
        Due.is("points", x.count(4), 2 - 4 + 10 + 7);
    }

    private static void setUndone() {
        SupperSeats x = Given.supper("8", "A2 B1", "0@0a 1@0b");
        x.wish(0, 1);
        for (int i = 0; i < 4; i++) {
            int setting = i;
            Due.undoable(x, "set", () -> x.set(setting, 8));
        }
    }

    private static void setSetting() {
        SupperSeats x = new SupperSeats();
        x.set(0, 8);
        x.set(3, 9);
        Due.is("the first setting", x.count(9), 8);
        Due.is("the second setting", x.count(10), 5);
        Due.is("the third setting", x.count(11), 3);
        Due.is("the last setting", x.count(12), 9);
    }

    private static void setValue() {
        SupperSeats x = new SupperSeats();
        int[] least = {1, 0, 0, 0};
        int[] most = {8, 20, 20, 9};
        for (int setting = 0; setting < 4; setting++) {
            x.set(setting, least[setting]);
            Due.is("the least value", x.count(9 + setting), least[setting]);
            x.set(setting, most[setting]);
            Due.is("the greatest value", x.count(9 + setting), most[setting]);
        }
    }

    private static void setPrevious() {
        SupperSeats x = new SupperSeats();
        int[] first = {3, 5, 3, 2};
        for (int setting = 0; setting < 4; setting++) {
            Due.is("set", x.set(setting, 7), first[setting]);
            Due.is("set to the same", x.set(setting, 7), 7);
            Due.is("set", x.set(setting, 1), 7);
        }
    }

    private static void setOfNoSetting() {
        SupperSeats x = new SupperSeats();
        for (int wrong : Given.outside(0, 3)) {
            Due.fails(x, "set(" + wrong + ", 3)", Due.INDEX, () -> x.set(wrong, 3));
        }
    }

    private static void setOutOfRange() {
        SupperSeats x = new SupperSeats();
        int[] below = {0, -1, -1, -1};
        int[] above = {9, 21, 21, 10};
        for (int i = 0; i < 4; i++) {
            int setting = i;
            Due.fails(x, "set too little", Due.ARGUMENT, () -> x.set(setting, below[setting]));
            Due.fails(x, "set too much", Due.ARGUMENT, () -> x.set(setting, above[setting]));
            Due.fails(x, "set the least int", Due.ARGUMENT, () -> x.set(setting, Integer.MIN_VALUE));
            Due.fails(x, "set the greatest int", Due.ARGUMENT, () -> x.set(setting, Integer.MAX_VALUE));
        }
    }
}
