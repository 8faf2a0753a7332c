/** The promises 8 to 11, sentence by sentence. */
final class SeatSentences {
    private SeatSentences() {
    }

    static void tell(Sentences all) {
        sit(all);
        rise(all);
        swap(all);
        seatAll(all);
    }

    private static void sit(Sentences all) {
        all.hold(8, "Lets a guest take a seat", SeatSentences::sitTakes);
        all.hold(8, "(from another seat, too)", SeatSentences::sitFromAnother);
        all.hold(8, "Undoable", SeatSentences::sitUndone);
        all.hold(8, "`guest`: the number", SeatSentences::sitGuest);
        all.hold(8, "`table`: its number", SeatSentences::sitTable);
        all.hold(8, "`seat`: its number", SeatSentences::sitSeat);
        all.hold(8, "Returns the points then", SeatSentences::sitPoints);
        all.hold(8, "if there is no such guest", SeatSentences::sitOfNoGuest);
        all.hold(8, "guest, table", SeatSentences::sitAtNoTable);
        all.hold(8, "or seat at it", SeatSentences::sitOnNoSeat);
        all.hold(8, "if the guest cannot take it", SeatSentences::sitRefused);
    }

    private static void rise(Sentences all) {
        all.hold(9, "Lets a guest stand up", SeatSentences::riseStands);
        all.hold(9, "Undoable", SeatSentences::riseUndone);
        all.hold(9, "`guest`: the number", SeatSentences::riseGuest);
        all.hold(9, "Returns the points then", SeatSentences::risePoints);
        all.hold(9, "if there is no such guest", SeatSentences::riseOfNoGuest);
        all.hold(9, "if the guest stands", SeatSentences::riseOfWhoStands);
    }

    private static void swap(Sentences all) {
        all.hold(10, "Swaps two guests who sit", SeatSentences::swapSwaps);
        all.hold(10, "both stand up", SeatSentences::swapBothStandUp);
        all.hold(10, "then the first one takes the seat of the other one, and then the other one that of the first one",
            SeatSentences::swapOrder);
        all.hold(10, "Undoable", SeatSentences::swapUndone);
        all.hold(10, "`guest`: the number", SeatSentences::swapGuest);
        all.hold(10, "`other`: the number", SeatSentences::swapOther);
        all.hold(10, "Returns the points then", SeatSentences::swapPoints);
        all.hold(10, "if there is no such guest", SeatSentences::swapOfNoGuest);
        all.hold(10, "if both are the same", SeatSentences::swapOfOne);
        all.hold(10, "if one of both stands", SeatSentences::swapOfWhoStands);
        all.hold(10, "or cannot take the seat so", SeatSentences::swapRefused);
    }

    private static void seatAll(Sentences all) {
        all.hold(11, "Seats all", SeatSentences::seatAllSeats);
        all.hold(11, "Undoable", SeatSentences::seatAllUndone);
        all.hold(11, "Returns how many stay standing", SeatSentences::seatAllStanding);
    }

    // ---- promise 8

    private static void sitTakes() {
        SupperSeats x = Given.supper("38", "A1 B1", "");
        x.sit(1, 1, 7);
        Due.is("who", x.who(1, 7), 1);
        Due.is("table", x.guestOf(1, 3), 1);
        Due.is("seat", x.guestOf(1, 4), 7);
        Due.line("seated", x::seated, 1);
        Due.is("sat down", x.count(7), 1);
        Due.is("stood up", x.count(8), 0);
    }

    private static void sitFromAnother() {
        SupperSeats x = Given.supper("38", "A1 B1", "0@0a 1@0b");
        x.sit(0, 0, 2);
        Due.is("who, at the same table", x.who(0, 2), 0);
        Due.is("the seat that was left", x.who(0, 0), -1);
        x.sit(0, 1, 0);
        Due.is("who, at another table", x.who(1, 0), 0);
        Due.is("the seat that was left", x.who(0, 2), -1);
        Due.is("sat down", x.count(7), 4);
        Due.is("stood up", x.count(8), 2);
        Due.line("seated", x::seated, 1, 0);
    }

    private static void sitUndone() {
        SupperSeats x = Given.supper("38", "A1 B1", "0@0a");
        Due.undoable(x, "sit of one who stands", () -> x.sit(1, 1, 7));
        Due.undoable(x, "sit at the same table", () -> x.sit(0, 0, 2));
        Due.undoable(x, "sit at another table", () -> x.sit(0, 1, 0));
        Due.is("who", x.who(0, 0), 0);
    }

    private static void sitGuest() {
        SupperSeats x = Given.supper("3", Given.sixteenGuests(), "");
        x.sit(0, 0, 0);
        x.sit(15, 0, 1);
        Due.is("the first guest", x.who(0, 0), 0);
        Due.is("the last guest", x.who(0, 1), 15);
    }

    private static void sitTable() {
        SupperSeats x = Given.supper("3333", "A1 B1", "");
        x.sit(0, 0, 1);
        x.sit(1, 3, 1);
        Due.is("the first table", x.who(0, 1), 0);
        Due.is("the last table", x.who(3, 1), 1);
    }

    private static void sitSeat() {
        SupperSeats x = Given.supper("85", "A1 B1 C1", "");
        x.sit(0, 0, 0);
        x.sit(1, 0, 7);
        x.sit(2, 1, 4);
        Due.is("the first seat", x.who(0, 0), 0);
        Due.is("the last seat of 8", x.who(0, 7), 1);
        Due.is("the last seat of 5", x.who(1, 4), 2);
    }

    private static void sitPoints() {
        SupperSeats x = Given.supper("48", "A2 B1", "");
        Given.wish(x, "0>1 1>0");
        Due.is("points below 0", x.sit(0, 0, 0), -1);
        Due.is("side by side, around the table", x.sit(1, 0, 3), 16);
        Due.is("opposite", x.sit(1, 0, 2), 10);
        Due.is("at another table", x.sit(1, 1, 1), 0);
    }

    private static void sitOfNoGuest() {
        SupperSeats x = Given.supper("3", "A1 B1", "");
        for (int wrong : Given.outside(0, 1)) {
            Due.fails(x, "sit(" + wrong + ", 0, 0)", Due.INDEX, () -> x.sit(wrong, 0, 0));
        }
        SupperSeats y = Given.supper("3", Given.sixteenGuests(), "");
        Due.fails(y, "sit(16, 0, 0)", Due.INDEX, () -> y.sit(16, 0, 0));
    }

    private static void sitAtNoTable() {
        SupperSeats x = Given.supper("33", "A1", "");
        for (int wrong : Given.outside(0, 1)) {
            Due.fails(x, "sit(0, " + wrong + ", 0)", Due.INDEX, () -> x.sit(0, wrong, 0));
        }
        SupperSeats y = Given.supper("8888", "A1", "");
        Due.fails(y, "sit(0, 4, 0)", Due.INDEX, () -> y.sit(0, 4, 0));
        SupperSeats z = Given.supper("", "A1", "");
        Due.fails(z, "sit without a table", Due.INDEX, () -> z.sit(0, 0, 0));
    }

    private static void sitOnNoSeat() {
        SupperSeats x = Given.supper("3838", "A1", "");
        for (int wrong : Given.outside(0, 2)) {
            Due.fails(x, "sit(0, 0, " + wrong + ")", Due.INDEX, () -> x.sit(0, 0, wrong));
        }
        for (int wrong : Given.outside(0, 7)) {
            Due.fails(x, "sit(0, 3, " + wrong + ")", Due.INDEX, () -> x.sit(0, 3, wrong));
        }
    }

    private static void sitRefused() {
        SupperSeats x = Given.supper("83", "A1 A1 B3 C1 A1", "0@0b 1@0c");
        x.set(0, 2);
        x.feud(0, 2);
        Due.fails(x, "1", Due.STATE, () -> x.sit(0, 0, 1));
        Due.fails(x, "2", Due.STATE, () -> x.sit(2, 0, 1));
        Due.fails(x, "3", Due.STATE, () -> x.sit(2, 0, 6));
        Due.fails(x, "4", Due.STATE, () -> x.sit(3, 0, 0));
        Due.fails(x, "5", Due.STATE, () -> x.sit(4, 0, 0));
        Due.is("what can be taken", x.sit(2, 0, 7), 3);
        Due.is("what can be taken", x.sit(3, 1, 0), 4);
        Due.is("what can be taken", x.sit(0, 0, 0), 4);
    }

    // ---- promise 9

    private static void riseStands() {
        SupperSeats x = Given.supper("8", "A1 B1 C1", "0@0a 1@0h 2@0b");
        x.rise(1);
        Due.is("table", x.guestOf(1, 3), -1);
        Due.is("seat", x.guestOf(1, 4), -1);
        Due.is("who", x.who(0, 7), -1);
        Due.line("seated", x::seated, 0, 2);
        Due.is("sat down", x.count(7), 3);
        Due.is("stood up", x.count(8), 1);
    }

    private static void riseUndone() {
        SupperSeats x = Given.supper("8", "A1 B1 C1", "0@0a 1@0h 2@0b");
        Due.undoable(x, "rise", () -> x.rise(1));
        Due.line("seated", x::seated, 0, 1, 2);
    }

    private static void riseGuest() {
        SupperSeats x = Given.supper("3", Given.sixteenGuests(), "0@0a 15@0b");
        Due.is("rise of the first guest", x.rise(0), 1);
        Due.is("rise of the last guest", x.rise(15), 0);
    }

    private static void risePoints() {
        SupperSeats x = Given.supper("4", "A2 B1 C2", "0@0a 1@0b 2@0d");
        Given.wish(x, "0>1 1>0");
        Due.is("rise of one who has no friend", x.rise(2), 16);
        Due.is("rise of a friend", x.rise(1), -1);
        Due.is("rise of the last one", x.rise(0), 0);
    }

    private static void riseOfNoGuest() {
        SupperSeats x = Given.supper("3", "A1 B1", "0@0a 1@0b");
        for (int wrong : Given.outside(0, 1)) {
            Due.fails(x, "rise(" + wrong + ")", Due.INDEX, () -> x.rise(wrong));
        }
        SupperSeats y = Given.supper("3", Given.sixteenGuests(), "");
        Due.fails(y, "rise(16)", Due.INDEX, () -> y.rise(16));
    }

    private static void riseOfWhoStands() {
        SupperSeats x = Given.supper("3", "A1 B1", "0@0a");
        Due.fails(x, "rise of one who never sat", Due.STATE, () -> x.rise(1));
        x.rise(0);
        Due.fails(x, "rise of one who stood up", Due.STATE, () -> x.rise(0));
    }

    // ---- promise 10

    private static void swapSwaps() {
        SupperSeats x = Given.supper("38", "A1 B1 C1", "0@0a 1@1h 2@0b");
        x.swap(0, 1);
        Due.is("the first one", x.who(1, 7), 0);
        Due.is("the other one", x.who(0, 0), 1);
        Due.is("a third one", x.who(0, 1), 2);
        x.swap(1, 2);
        Due.is("at one table", x.who(0, 1), 1);
        Due.is("at one table", x.who(0, 0), 2);
    }

    private static void swapBothStandUp() {
        SupperSeats x = Given.supper("33", "A1 B1", "0@0a 1@1b");
        x.feud(0, 1);
        Due.is("swap of two foes, each alone at a table", x.swap(0, 1), 2);
        Due.is("stood up", x.count(8), 2);
        Due.is("sat down", x.count(7), 4);
        SupperSeats y = Given.supper("33", "A1 A1", "0@0a 1@1b");
        y.set(0, 1);
        Due.is("swap of two of a family, of which one may sit there", y.swap(0, 1), 2);
        SupperSeats z = Given.supper("3", "A1 A1", "0@0a 1@0b");
        z.set(0, 1);
        Due.fails(z, "swap of two of a family at one table, where one may", Due.STATE, () -> z.swap(0, 1));
    }

    private static void swapOrder() {
        SupperSeats x = Given.supper("83", "A1 B1 C1", "1@0a 0@1a 2@0b");
        x.swap(0, 1);
        Due.line("seated", x::seated, 2, 0, 1);
        x.swap(1, 0);
        Due.line("seated", x::seated, 2, 1, 0);
        Due.is("who", x.who(0, 0), 1);
    }

    private static void swapUndone() {
        SupperSeats x = Given.supper("83", "A1 B1 C1", "1@0a 0@1a 2@0b");
        Due.undoable(x, "swap", () -> x.swap(0, 1));
        Due.line("seated", x::seated, 1, 0, 2);
        Due.is("stood up", x.count(8), 0);
    }

    private static void swapGuest() {
        SupperSeats x = Given.supper("3", Given.sixteenGuests(), "0@0a 15@0b 7@0c");
        Due.is("swap(0, 7)", x.swap(0, 7), 3);
        Due.is("swap(15, 7)", x.swap(15, 7), 3);
        Due.is("the first guest", x.who(0, 2), 0);
        Due.is("the last guest", x.who(0, 0), 15);
    }

    private static void swapOther() {
        SupperSeats x = Given.supper("3", Given.sixteenGuests(), "0@0a 15@0b 7@0c");
        Due.is("swap(7, 0)", x.swap(7, 0), 3);
        Due.is("swap(7, 15)", x.swap(7, 15), 3);
        Due.is("the first guest", x.who(0, 2), 0);
        Due.is("the last guest", x.who(0, 0), 15);
    }

    private static void swapPoints() {
        SupperSeats x = Given.supper("46", "A2 B1 C1", "0@0b 1@0c 2@1a");
        Given.wish(x, "0>1 1>2");
        Due.is("swap by which a wish is met no more", x.swap(0, 2), 3 - 2 + 8);
        Due.is("swap by which another one is met", x.swap(2, 0), 11);
        Due.is("swap at one table", x.swap(0, 1), 11);
    }

    private static void swapOfNoGuest() {
        SupperSeats x = Given.supper("3", "A1 B1", "0@0a 1@0b");
        for (int wrong : Given.outside(0, 1)) {
            Due.fails(x, "swap(" + wrong + ", 0)", Due.INDEX, () -> x.swap(wrong, 0));
            Due.fails(x, "swap(0, " + wrong + ")", Due.INDEX, () -> x.swap(0, wrong));
            Due.fails(x, "swap(" + wrong + ", " + wrong + ")", Due.INDEX, () -> x.swap(wrong, wrong));
        }
    }

    private static void swapOfOne() {
        SupperSeats x = Given.supper("3", "A1 B1", "0@0a");
        Due.fails(x, "swap of one who sits", Due.ARGUMENT, () -> x.swap(0, 0));
        Due.fails(x, "swap of one who stands", Due.ARGUMENT, () -> x.swap(1, 1));
    }

    private static void swapOfWhoStands() {
        SupperSeats x = Given.supper("3", "A1 B1 C1", "0@0a");
        Due.fails(x, "the first one stands", Due.STATE, () -> x.swap(1, 0));
        Due.fails(x, "the other one stands", Due.STATE, () -> x.swap(0, 1));
        Due.fails(x, "both stand", Due.STATE, () -> x.swap(1, 2));
    }

    private static void swapRefused() {
        SupperSeats knees = Given.supper("33", "A3 B1", "0@0b 1@1a");
        Due.fails(knees, "the first one's knees", Due.STATE, () -> knees.swap(0, 1));
        Due.fails(knees, "the other one's knees", Due.STATE, () -> knees.swap(1, 0));
        SupperSeats foes = Given.supper("33", "A1 B1 C1", "0@0a 1@1a 2@1b");
        foes.feud(0, 2);
        Due.fails(foes, "the first one's foe", Due.STATE, () -> foes.swap(0, 1));
        Due.fails(foes, "the other one's foe", Due.STATE, () -> foes.swap(1, 0));
        SupperSeats kin = Given.supper("33", "A1 B1 A1", "0@0a 1@1a 2@1b");
        kin.set(0, 1);
        Due.fails(kin, "the first one's kin", Due.STATE, () -> kin.swap(0, 1));
        Due.fails(kin, "the other one's kin", Due.STATE, () -> kin.swap(1, 0));
        SupperSeats three = Given.supper("8", "A1 A1 A1", "0@0a 1@0b 2@0c");
        three.set(0, 2);
        Due.fails(three, "the second one to sit down has too many kin", Due.STATE, () -> three.swap(0, 1));
        three.set(0, 3);
        Due.is("where three may", three.swap(0, 1), 3);
    }

    // ---- promise 11

    private static void seatAllSeats() {
        SupperSeats x = Given.supper("8888", Given.sixteenGuests(), "");
        Due.is("seatAll", x.seatAll(), 0);
        Due.is("guests who sit", x.count(3), 16);
        Due.is("sat down", x.count(7), 16);
        Due.is("stood up", x.count(8), 0);
        Due.is("the last one's seat", x.who(1, 7), 15);
        SupperSeats y = new SupperSeats();
        Due.is("seatAll without guests", y.seatAll(), 0);
    }

    private static void seatAllUndone() {
        SupperSeats x = Given.supper("83", "A1 B2 C3", "0@0b");
        Due.undoable(x, "seatAll", x::seatAll);
        Due.line("seated", x::seated, 0);
        SupperSeats y = new SupperSeats();
        Due.undoable(y, "seatAll of none", y::seatAll);
    }

    private static void seatAllStanding() {
        SupperSeats x = Given.supper("", "A1 B3 C3", "");
        Due.is("without a table", x.seatAll(), 3);
        x.table(3);
        Due.is("with one table", x.seatAll(), 0);
        SupperSeats y = Given.supper("3", "A3 B3 C3 D3", "");
        Due.is("with two seats at no leg", y.seatAll(), 2);
        Due.is("once more", y.seatAll(), 2);
    }
}
