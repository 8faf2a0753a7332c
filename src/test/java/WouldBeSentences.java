/** The promises 27 to 31, sentence by sentence. */
final class WouldBeSentences {
    private WouldBeSentences() {
    }

    static void tell(Sentences all) {
        ifSat(all);
        bestSeat(all);
        ifFeud(all);
        ifSeated(all);
        met(all);
    }

    private static void ifSat(Sentences all) {
        all.hold(27, "Tells what a seat would bring", WouldBeSentences::ifSatChangesNothing);
        all.hold(27, "`guest`: the number", WouldBeSentences::ifSatGuest);
        all.hold(27, "`table`: its number", WouldBeSentences::ifSatTable);
        all.hold(27, "`seat`: its number", WouldBeSentences::ifSatSeat);
        all.hold(27, "Returns the points that there would be then", WouldBeSentences::ifSatPoints);
        all.hold(27, "and 1000 more", WouldBeSentences::ifSatMostAndLeast);
        all.hold(27, "NONE if the guest cannot take it", WouldBeSentences::ifSatRefused);
        all.hold(27, "if there is no such guest", WouldBeSentences::ifSatNoGuest);
        all.hold(27, "guest, table", WouldBeSentences::ifSatNoTable);
        all.hold(27, "or seat at it", WouldBeSentences::ifSatNoSeat);
    }

    private static void bestSeat(Sentences all) {
        all.hold(28, "Finds the best seat for a guest", WouldBeSentences::bestSeatChangesNothing);
        all.hold(28, "of those that the guest can take", WouldBeSentences::bestSeatThatCanBeTaken);
        all.hold(28, "`guest`: the number", WouldBeSentences::bestSeatGuest);
        all.hold(28, "Returns 8 times the table and the seat, together", WouldBeSentences::bestSeatCodes);
        all.hold(28, "by which the points are the most then", WouldBeSentences::bestSeatMost);
        all.hold(28, "of several the one at the lowest table", WouldBeSentences::bestSeatLowestTable);
        all.hold(28, "of several of those the lowest one", WouldBeSentences::bestSeatLowestSeat);
        all.hold(28, "NONE if the guest can take none", WouldBeSentences::bestSeatNone);
        all.hold(28, "if there is no such guest", WouldBeSentences::bestSeatNoGuest);
    }

    private static void ifFeud(Sentences all) {
        all.hold(29, "Tells what a feud would bring", WouldBeSentences::ifFeudChangesNothing);
        all.hold(29, "`family`: 0 to 5", WouldBeSentences::ifFeudFamily);
        all.hold(29, "`other`: 0 to 5", WouldBeSentences::ifFeudOther);
        all.hold(29, "Returns how many guests would stand up by it", WouldBeSentences::ifFeudRisers);
        all.hold(29, "(also if there are 8)", WouldBeSentences::ifFeudWithEight);
        all.hold(29, "0 if there is this feud already", WouldBeSentences::ifFeudAlready);
        all.hold(29, "if a family is out of range", WouldBeSentences::ifFeudOutOfRange);
        all.hold(29, "or both are the same", WouldBeSentences::ifFeudOfOne);
    }

    private static void ifSeated(Sentences all) {
        all.hold(30, "Tells what seating all would bring", WouldBeSentences::ifSeatedChangesNothing);
        all.hold(30, "`what`: 0: how many would stay standing", WouldBeSentences::ifSeatedStanding);
        all.hold(30, "1: the points then, and 1000 more", WouldBeSentences::ifSeatedPoints);
        all.hold(30, "Returns the number", WouldBeSentences::ifSeatedAsSeatAll);
        all.hold(30, "if what is neither 0 nor 1", WouldBeSentences::ifSeatedWrongWhat);
    }

    private static void met(Sentences all) {
        all.hold(31, "Returns how many wishes are met", WouldBeSentences::metChangesNothing);
        all.hold(31, "Returns the wishes that are met, as a double, divided by all wishes", WouldBeSentences::metShares);
        all.hold(31, "1.0 without any", WouldBeSentences::metWithoutWishes);
    }

    // ---- promise 27

    private static void ifSatChangesNothing() {
        SupperSeats x = Given.supper("83", "A1 B2 C1", "0@0a 1@0b");
        Due.changesNothing(x, "ifSat of one who sits", () -> x.ifSat(0, 1, 0));
        Due.changesNothing(x, "ifSat of one who stands", () -> x.ifSat(2, 0, 7));
        Due.changesNothing(x, "ifSat of a seat that cannot be taken", () -> x.ifSat(2, 0, 0));
        Due.line("seated", x::seated, 0, 1);
    }

    private static void ifSatGuest() {
        SupperSeats x = Given.supper("3", "A2 B1 C1 D1 E1 F1 A1 B1 C1 D1 E1 F1 A1 B1 C1 D2", "");
        Due.is("the first guest", x.ifSat(0, 0, 0), 999);
        Due.is("the second guest", x.ifSat(1, 0, 0), 1001);
        Due.is("the last guest", x.ifSat(15, 0, 0), 999);
    }

    private static void ifSatTable() {
        SupperSeats x = Given.supper("3333", "A1 B1", "1@3b");
        x.wish(0, 1);
        Due.is("the first table", x.ifSat(0, 0, 0), 1002);
        Due.is("the last table", x.ifSat(0, 3, 0), 1010);
    }

    private static void ifSatSeat() {
        SupperSeats x = Given.supper("8", "A1 B1", "1@0a");
        x.wish(0, 1);
        int[] due = {-1, 1010, 1007, 1007, 1007, 1007, 1007, 1010};
        for (int seat = 0; seat < 8; seat++) {
            Due.is("ifSat(0, 0, " + seat + ")", x.ifSat(0, 0, seat), due[seat]);
        }
    }

    private static void ifSatPoints() {
        SupperSeats x = Given.supper("54", "A2 B1 C2", "0@0a 1@0b 2@1b");
        Given.wish(x, "0>1 1>0 2>0");
        for (int guest = 0; guest < 3; guest++) {
            for (int seat = 0; seat < 9; seat++) {
                int table = seat / 5;
                if (x.whyNot(guest, table, seat % 5) == 0) {
                    int would = x.ifSat(guest, table, seat % 5);
                    Due.is("ifSat as sit tells it", would, x.sit(guest, table, seat % 5) + 1000);
                    x.undo();
                }
            }
        }
        Due.is("from a leg to no leg, still beside", x.ifSat(0, 0, 2), 1019);
        Due.is("to another table, beside who wishes it", x.ifSat(0, 1, 2), 1011);
    }

    private static void ifSatMostAndLeast() {
        SupperSeats x = Given.supper("88", Given.sixteenGuests(), "");
        x.seatAll();
        for (int guest = 0; guest < 16; guest++) {
            x.wish(guest, guest % 8 == 7 ? guest - 7 : guest + 1);
        }
        x.set(1, 20);
        x.set(2, 20);
        x.rise(15);
        Due.is("the most points", x.ifSat(15, 1, 7), 1656);
        SupperSeats y = Given.supper("8888", "A2 B2 C2 D2 E2 F2 A2 B2 C2 D2 E2 F2",
            "0@0a 1@0d 2@0g 3@1a 4@1d 5@1g 6@2a 7@2d 8@2g 9@3a 10@3d");
        y.set(3, 9);
        Due.is("the fewest points", y.ifSat(11, 3, 6), 904);
        SupperSeats z = Given.supper("3", "A1", "");
        Due.is("one point", z.ifSat(0, 0, 0), 1001);
        z.guest(1, 2);
        z.set(3, 1);
        Due.is("no point", z.ifSat(1, 0, 0), 1000);
    }

    private static void ifSatRefused() {
        SupperSeats x = Given.supper("83", "A1 A1 B3 C1 A1", "0@0b 1@0c");
        x.set(0, 2);
        x.feud(0, 2);
        Due.is("1", x.ifSat(0, 0, 1), -1);
        Due.is("2", x.ifSat(2, 0, 1), -1);
        Due.is("3", x.ifSat(2, 0, 6), -1);
        Due.is("4", x.ifSat(3, 0, 0), -1);
        Due.is("5", x.ifSat(4, 0, 0), -1);
        Due.is("a seat that can be taken", x.ifSat(4, 1, 0), 1003);
    }

    private static void ifSatNoGuest() {
        SupperSeats x = Given.supper("3", "A1 B1", "");
        for (int wrong : Given.outside(0, 1)) {
            Due.fails(x, "ifSat(" + wrong + ", 0, 0)", Due.INDEX, () -> x.ifSat(wrong, 0, 0));
        }
        SupperSeats y = Given.supper("3", Given.sixteenGuests(), "");
        Due.fails(y, "ifSat(16, 0, 0)", Due.INDEX, () -> y.ifSat(16, 0, 0));
    }

    private static void ifSatNoTable() {
        SupperSeats x = Given.supper("33", "A1", "");
        for (int wrong : Given.outside(0, 1)) {
            Due.fails(x, "ifSat(0, " + wrong + ", 0)", Due.INDEX, () -> x.ifSat(0, wrong, 0));
        }
        SupperSeats y = Given.supper("8888", "A1", "");
        Due.fails(y, "ifSat(0, 4, 0)", Due.INDEX, () -> y.ifSat(0, 4, 0));
    }

    private static void ifSatNoSeat() {
        SupperSeats x = Given.supper("383", "A1", "");
        for (int wrong : Given.outside(0, 2)) {
            Due.fails(x, "ifSat(0, 0, " + wrong + ")", Due.INDEX, () -> x.ifSat(0, 0, wrong));
        }
        for (int wrong : Given.outside(0, 7)) {
            Due.fails(x, "ifSat(0, 1, " + wrong + ")", Due.INDEX, () -> x.ifSat(0, 1, wrong));
        }
    }

    // ---- promise 28

    private static void bestSeatChangesNothing() {
        SupperSeats x = Given.supper("83", "A1 B2 C1", "0@0a 1@0b");
        Due.changesNothing(x, "bestSeat of one who sits", () -> x.bestSeat(0));
        Due.changesNothing(x, "bestSeat of one who stands", () -> x.bestSeat(2));
    }

    private static void bestSeatThatCanBeTaken() {
        SupperSeats x = Given.supper("3333", "A3 A1 B1 C1", "1@0a 2@1a 3@2a");
        Given.wish(x, "1>0 2>0");
        x.set(0, 1);
        x.feud(0, 1);
        Due.is("no kin, no foe, no leg", x.bestSeat(0), 17);
        x.sit(0, 2, 1);
        Due.is("not the seat of now", x.bestSeat(0), 18);
        x.sit(3, 2, 2);
        Due.is("not a leg", x.bestSeat(0), 25);
    }

    private static void bestSeatGuest() {
        SupperSeats x = Given.supper("3", "A3 B1 C1 D1 E1 F1 A1 B1 C1 D1 E1 F1 A1 B1 C1 D3", "");
        Due.is("the first guest", x.bestSeat(0), 1);
        Due.is("the second guest", x.bestSeat(1), 0);
        Due.is("the last guest", x.bestSeat(15), 1);
    }

    private static void bestSeatCodes() {
        SupperSeats x = Given.supper("8888", "A1 B1 C1", "");
        Due.is("the first seat", x.bestSeat(0), 0);
        Given.sit(x, "1@3g 2@3f");
        x.wish(0, 1);
        Due.is("the last seat", x.bestSeat(0), 31);
        x.rise(2);
        Due.is("the seat 5 of the table 3", x.bestSeat(0), 29);
        Given.sit(x, "1@1a 2@1b");
        Due.is("the seat 7 of the table 1", x.bestSeat(0), 15);
    }

    private static void bestSeatMost() {
        SupperSeats x = Given.supper("3838", "A2 B1 C1", "1@1d 2@3d");
        Due.is("without a wish: no leg", x.bestSeat(0), 1);
        x.wish(0, 2);
        Due.is("beside the friend", x.bestSeat(0), 26);
        x.wish(1, 0);
        x.set(3, 0);
        Due.is("of two the lower one", x.bestSeat(0), 10);
        x.wish(2, 0);
        Due.is("of two wishes that are met by one seat", x.bestSeat(0), 26);
        SupperSeats y = Given.supper("4", "A2 B1 C1", "1@0b 2@0c");
        y.set(3, 9);
        Due.is("where all seats have less points", y.bestSeat(0), 0);
        y.wish(0, 2);
        Due.is("beside the friend, where all have less", y.bestSeat(0), 3);
        SupperSeats z = Given.supper("83", "A1 B1", "0@0a 1@0b");
        z.wish(0, 1);
        Due.is("of one who sits best now", z.bestSeat(0), 2);
    }

    private static void bestSeatLowestTable() {
        SupperSeats x = Given.supper("3388", "A1 B1 C1", "2@3b 1@2h");
        Given.wish(x, "0>2 1>0");
        Due.is("beside either friend", x.bestSeat(0), 16);
        x.wish(0, -1);
        x.wish(1, -1);
        Due.is("where all are one", x.bestSeat(0), 0);
    }

    private static void bestSeatLowestSeat() {
        SupperSeats x = Given.supper("8", "A1 B1", "1@0f");
        x.wish(0, 1);
        Due.is("beside the friend", x.bestSeat(0), 4);
        x.sit(1, 0, 0);
        Due.is("beside the friend, around the table", x.bestSeat(0), 1);
        x.sit(1, 0, 7);
        Due.is("beside the friend, around the table", x.bestSeat(0), 0);
    }

    private static void bestSeatNone() {
        SupperSeats none = Given.supper("", "A1", "");
        Due.is("without a table", none.bestSeat(0), -1);
        SupperSeats full = Given.supper("3", "A1 B1 C1 D1", "0@0a 1@0b 2@0c");
        Due.is("a full table, of one who stands", full.bestSeat(3), -1);
        Due.is("a full table, of one who sits", full.bestSeat(0), -1);
        SupperSeats knees = Given.supper("3", "A3 B1 C1", "1@0b 2@0c");
        Due.is("a leg alone", knees.bestSeat(0), -1);
        SupperSeats kin = Given.supper("33", "A1 A1 A1", "0@0a 1@1a");
        kin.set(0, 1);
        Due.is("kin at each table", kin.bestSeat(2), -1);
        SupperSeats foes = Given.supper("33", "A1 B1 C1", "0@0a 1@1a");
        Given.feud(foes, "AC BC");
        Due.is("foes at each table", foes.bestSeat(2), -1);
        Due.is("of one of the foes", foes.bestSeat(0), 1);
    }

    private static void bestSeatNoGuest() {
        SupperSeats x = Given.supper("3", "A1 B1", "");
        for (int wrong : Given.outside(0, 1)) {
            Due.fails(x, "bestSeat(" + wrong + ")", Due.INDEX, () -> x.bestSeat(wrong));
        }
        SupperSeats y = Given.supper("3", Given.sixteenGuests(), "");
        Due.fails(y, "bestSeat(16)", Due.INDEX, () -> y.bestSeat(16));
    }

    // ---- promise 29

    private static void ifFeudChangesNothing() {
        SupperSeats x = Given.supper("8", "A1 B1", "0@0a 1@0b");
        Due.changesNothing(x, "ifFeud", () -> Due.is("ifFeud", x.ifFeud(0, 1), 1));
        Due.is("feuds", x.count(2), 0);
        Due.is("guests who sit", x.count(3), 2);
    }

    private static void ifFeudFamily() {
        SupperSeats x = Given.supper("88", "A1 D1 D1 F1", "0@0a 1@0b 2@1a 3@1b");
        Due.is("ifFeud(0, 3)", x.ifFeud(0, 3), 1);
        Due.is("ifFeud(5, 3)", x.ifFeud(5, 3), 1);
    }

    private static void ifFeudOther() {
        SupperSeats x = Given.supper("88", "A1 D1 D1 F1", "0@0a 1@0b 2@1a 3@1b");
        Due.is("ifFeud(3, 0)", x.ifFeud(3, 0), 1);
        Due.is("ifFeud(3, 5)", x.ifFeud(3, 5), 1);
    }

    private static void ifFeudRisers() {
        SupperSeats x = Given.supper("8888", "A1 A1 A1 A1 A1 B1 B1 B1 B1 B1 B1 C1",
            "0@0a 1@0b 5@0c 2@1a 6@1b 7@1c 8@1d 3@2a 4@2b 9@2c 10@2d 11@3a");
        Due.is("one, one and two", x.ifFeud(0, 1), 4);
        Due.is("the other way round", x.ifFeud(1, 0), 4);
        Due.is("of those who do not meet", x.ifFeud(0, 2), 0);
        Due.is("of those of whom nobody sits", x.ifFeud(3, 4), 0);
        Due.is("feud", x.feud(0, 1), 4);
        Due.line("seated", x::seated, 0, 1, 6, 7, 8, 3, 4, 11);
    }

    private static void ifFeudWithEight() {
        SupperSeats x = Given.supper("8", "E1 F1 F1", "0@0a 1@0b 2@0c");
        Given.feud(x, "AB AC AD AE AF BC BD BE");
        Due.is("ifFeud", x.ifFeud(4, 5), 1);
        Due.fails(x, "feud", Due.STATE, () -> x.feud(4, 5));
        x.peace(0, 1);
        Due.is("feud when there is room", x.feud(4, 5), 1);
    }

    /** Foes never sit at one table: 0 is due whichever way it is counted. */
    private static void ifFeudAlready() {
        SupperSeats x = Given.supper("8", "A1 B1 C1", "0@0a 1@0b");
        Given.feud(x, "AB AC AD AE AF BC BD BE");
        Due.is("ifFeud(0, 1)", x.ifFeud(0, 1), 0);
        Due.is("ifFeud(1, 0)", x.ifFeud(1, 0), 0);
        Due.is("ifFeud(1, 4)", x.ifFeud(1, 4), 0);
    }

    private static void ifFeudOutOfRange() {
        SupperSeats x = Given.supper("8", "A1 B1", "0@0a 1@0b");
        for (int wrong : Given.outside(0, 5)) {
            Due.fails(x, "ifFeud(" + wrong + ", 2)", Due.ARGUMENT, () -> x.ifFeud(wrong, 2));
            Due.fails(x, "ifFeud(2, " + wrong + ")", Due.ARGUMENT, () -> x.ifFeud(2, wrong));
        }
    }

    private static void ifFeudOfOne() {
        SupperSeats x = Given.supper("8", "A1 F1", "0@0a 1@0b");
        for (int i = -1; i <= 6; i++) {
            int family = i;
            Due.fails(x, "ifFeud(" + family + ", " + family + ")", Due.ARGUMENT, () -> x.ifFeud(family, family));
        }
    }

    // ---- promise 30

    private static void ifSeatedChangesNothing() {
        SupperSeats x = Given.supper("83", "A1 B2 C3 D1", "0@0b 1@1b");
        Due.changesNothing(x, "ifSeated(0)", () -> x.ifSeated(0));
        Due.changesNothing(x, "ifSeated(1)", () -> x.ifSeated(1));
        Due.line("seated", x::seated, 0, 1);
        Due.is("sat down", x.count(7), 2);
    }

    private static void ifSeatedStanding() {
        SupperSeats x = new SupperSeats();
        Due.is("without guests", x.ifSeated(0), 0);
        SupperSeats y = Given.supper("", Given.sixteenGuests(), "");
        Due.is("without a table", y.ifSeated(0), 16);
        y.table(8);
        Due.is("with one table", y.ifSeated(0), 8);
        y.table(8);
        Due.is("with two tables", y.ifSeated(0), 0);
        y.seatAll();
        Due.is("where all sit", y.ifSeated(0), 0);
    }

    private static void ifSeatedPoints() {
        SupperSeats x = new SupperSeats();
        Due.is("without guests", x.ifSeated(1), 1000);
        SupperSeats y = Given.supper("3", "A2 B1 C1", "1@0b 2@0c");
        Due.is("with a leg alone", y.ifSeated(1), 1001);
        y.set(3, 9);
        Due.is("below 0", y.ifSeated(1), 994);
        y.wish(0, 1);
        Due.is("with a wish that would be met", y.ifSeated(1), 1002);
        SupperSeats z = Given.supper("", "A1", "");
        Due.is("without a table", z.ifSeated(1), 1000);
    }

    private static void ifSeatedAsSeatAll() {
        SupperSeats x = Given.supper("836", "A2 B3 C2 A1 A3 B1 A2 C3 D2 A1 B2", "3@2b 8@0h");
        Given.wish(x, "0>8 1>3 2>0 4>2 5>4 6>8 9>1 10>6");
        x.feud(1, 3);
        x.set(0, 2);
        int standing = x.ifSeated(0);
        int points = x.ifSeated(1);
        Due.is("ifSeated(0) as seatAll tells it", standing, x.seatAll());
        Due.is("ifSeated(1) as seatAll leaves it", points, x.count(4) + 1000);
        Due.is("ifSeated(0) after that", x.ifSeated(0), standing);
    }

    private static void ifSeatedWrongWhat() {
        SupperSeats x = Given.supper("3", "A1", "");
        for (int wrong : Given.outside(0, 1)) {
            Due.fails(x, "ifSeated(" + wrong + ")", Due.ARGUMENT, () -> x.ifSeated(wrong));
        }
    }

    // ---- promise 31

    private static void metChangesNothing() {
        SupperSeats x = Given.supper("8", "A1 B1", "0@0a 1@0b");
        x.wish(0, 1);
        Due.changesNothing(x, "met", x::met);
    }

    private static void metShares() {
        SupperSeats x = Given.supper("88", Given.sixteenGuests(), "");
        x.seatAll();
        for (int guest = 0; guest < 8; guest++) {
            x.wish(guest, guest + 8);
        }
        Due.isShare("none of 8", x.met(), 0.0);
        for (int guest = 8; guest < 16; guest++) {
            x.wish(guest, guest == 8 ? 9 : 8);
            Due.isShare("met of wishes at one table", x.met(), (guest - 7) / (double) (guest + 1));
        }
        for (int guest = 0; guest < 8; guest++) {
            x.wish(guest, -1);
        }
        Due.isShare("all of 8", x.met(), 1.0);
        x.rise(8);
        Due.isShare("none of 8", x.met(), 0.0);
        x.wish(0, 1);
        Due.isShare("one of 9", x.met(), 1.0 / 9.0);
    }

    private static void metWithoutWishes() {
        SupperSeats x = new SupperSeats();
        Due.isShare("without guests", x.met(), 1.0);
        SupperSeats y = Given.supper("3", "A1 B1", "");
        Due.isShare("without wishes", y.met(), 1.0);
        y.wish(0, 1);
        Due.isShare("with one that is not met", y.met(), 0.0);
        y.wish(0, -1);
        Due.isShare("without wishes again", y.met(), 1.0);
    }
}
