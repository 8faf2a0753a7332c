/** The promises 20 to 26, sentence by sentence. */
final class LookSentences {
    private LookSentences() {
    }

    static void tell(Sentences all) {
        guestOf(all);
        tableOf(all);
        who(all);
        seated(all);
        feudAt(all);
        count(all);
        whyNot(all);
    }

    private static void guestOf(Sentences all) {
        all.hold(20, "Returns something of a guest", LookSentences::guestOfChangesNothing);
        all.hold(20, "`guest`: the number", LookSentences::guestOfGuest);
        all.hold(20, "`what`: 0: the family", LookSentences::guestOfFamily);
        all.hold(20, "1: the size", LookSentences::guestOfSize);
        all.hold(20, "2: the wish, NONE without one", LookSentences::guestOfWish);
        all.hold(20, "3: the table, NONE if the guest stands", LookSentences::guestOfTable);
        all.hold(20, "4: the seat, NONE if the guest stands", LookSentences::guestOfSeat);
        all.hold(20, "5: 0 if the wish is not met, or there is none", LookSentences::guestOfNotMet);
        all.hold(20, "1 if it is met, 2 if side by side", LookSentences::guestOfMet);
        all.hold(20, "6: the points that this guest counts", LookSentences::guestOfPoints);
        all.hold(20, "Returns the number", LookSentences::guestOfNumbers);
        all.hold(20, "if there is no such guest", LookSentences::guestOfNoGuest);
        all.hold(20, "if what is not 0 to 6", LookSentences::guestOfWrongWhat);
    }

    private static void tableOf(Sentences all) {
        all.hold(21, "Returns something of a table", LookSentences::tableOfChangesNothing);
        all.hold(21, "`table`: its number", LookSentences::tableOfTable);
        all.hold(21, "`what`: 0: its seats", LookSentences::tableOfSeats);
        all.hold(21, "1: guests who sit there", LookSentences::tableOfGuests);
        all.hold(21, "2: a mask of their families, with the bit f for the family f", LookSentences::tableOfMask);
        all.hold(21, "3: the points that are counted at it", LookSentences::tableOfPoints);
        all.hold(21, "4: the seats that nobody has and that are not at a leg, how many", LookSentences::tableOfEasySeats);
        all.hold(21, "Returns the number", LookSentences::tableOfNumbers);
        all.hold(21, "if there is no such table", LookSentences::tableOfNoTable);
        all.hold(21, "if what is not 0 to 4", LookSentences::tableOfWrongWhat);
    }

    private static void who(Sentences all) {
        all.hold(22, "Tells who sits on a seat", LookSentences::whoSits);
        all.hold(22, "`table`: its number", LookSentences::whoTable);
        all.hold(22, "`seat`: its number", LookSentences::whoSeat);
        all.hold(22, "Returns the guest, NONE if nobody does", LookSentences::whoNobody);
        all.hold(22, "if there is no such table", LookSentences::whoNoTable);
        all.hold(22, "or seat", LookSentences::whoNoSeat);
    }

    private static void seated(Sentences all) {
        all.hold(23, "Returns a guest who sits, in the order in which they sat down", LookSentences::seatedOrder);
        all.hold(23, "`place`: the place in this order, from 0", LookSentences::seatedPlaces);
        all.hold(23, "Returns the guest", LookSentences::seatedOfFirstGuest);
        all.hold(23, "NONE if not so many sit", LookSentences::seatedNone);
        all.hold(23, "if place is below 0", LookSentences::seatedBelow);
    }

    private static void feudAt(Sentences all) {
        all.hold(24, "Returns a feud, in the order in which they began", LookSentences::feudAtOrder);
        all.hold(24, "`place`: its place in this order, from 0", LookSentences::feudAtPlaces);
        all.hold(24, "Returns 6 times the lesser family and the greater one, together", LookSentences::feudAtCodes);
        all.hold(24, "NONE if there are not so many", LookSentences::feudAtNone);
        all.hold(24, "if place is below 0", LookSentences::feudAtBelow);
    }

    private static void count(Sentences all) {
        all.hold(25, "Returns a number", LookSentences::countChangesNothing);
        all.hold(25, "`what`: 0: guests", () -> countsUpTo(0, 16));
        all.hold(25, "1: tables", () -> countsUpTo(1, 4));
        all.hold(25, "2: feuds", () -> countsUpTo(2, 8));
        all.hold(25, "3: guests who sit", LookSentences::countSitting);
        all.hold(25, "4: the points, counted by guests", LookSentences::countPoints);
        all.hold(25, "5: the same, counted by tables", LookSentences::countPointsByTables);
        all.hold(25, "6: wishes that are met", LookSentences::countMet);
        all.hold(25, "7: how often guests sat down so far", LookSentences::countSatDown);
        all.hold(25, "8: how often guests stood up so far (also for another seat)", LookSentences::countStoodUp);
        all.hold(25, "9 to 12: the settings 0 to 3", LookSentences::countSettings);
        all.hold(25, "13: saved states", LookSentences::countSaved);
        all.hold(25, "Returns the number", LookSentences::countNumbers);
        all.hold(25, "if what is not 0 to 13", LookSentences::countWrongWhat);
    }

    private static void whyNot(Sentences all) {
        all.hold(26, "Tells why a guest cannot take a seat", LookSentences::whyNotChangesNothing);
        all.hold(26, "`guest`: the number", LookSentences::whyNotGuest);
        all.hold(26, "`table`: its number", LookSentences::whyNotTable);
        all.hold(26, "`seat`: its number", LookSentences::whyNotSeat);
        all.hold(26, "Returns the reason, 1 to 5", LookSentences::whyNotReasons);
        all.hold(26, "0 if the guest can take it", LookSentences::whyNotCan);
        all.hold(26, "if there is no such guest", LookSentences::whyNotNoGuest);
        all.hold(26, "guest, table", LookSentences::whyNotNoTable);
        all.hold(26, "or seat at it", LookSentences::whyNotNoSeat);
    }

    private static SupperSeats aSupper() {
        SupperSeats x = Given.supper("83", "A1 B2 C3 D2", "0@0a 1@0d 2@1c");
        Given.wish(x, "0>1 1>0 2>3");
        return x;
    }

    // ---- promise 20

    private static void guestOfChangesNothing() {
        SupperSeats x = aSupper();
        Due.changesNothing(x, "guestOf", () -> {
            for (int what = 0; what <= 6; what++) {
                x.guestOf(0, what);
                x.guestOf(3, what);
            }
        });
    }

    private static void guestOfGuest() {
        SupperSeats x = Given.supper("3", "F3 B1 C1 D1 E1 F1 A1 B1 C1 D1 E1 F1 A1 B1 C1 E2", "15@0b");
        Due.is("family of the first guest", x.guestOf(0, 0), 5);
        Due.is("family of the last guest", x.guestOf(15, 0), 4);
        Due.is("seat of the last guest", x.guestOf(15, 4), 1);
    }

    private static void guestOfFamily() {
        SupperSeats x = Given.supper("", "F1 A1 E1 B1 D1 C1", "");
        int[] due = {5, 0, 4, 1, 3, 2};
        for (int guest = 0; guest < 6; guest++) {
            Due.is("family", x.guestOf(guest, 0), due[guest]);
        }
    }

    private static void guestOfSize() {
        SupperSeats x = Given.supper("", "F3 A1 E2", "");
        Due.is("the greatest size", x.guestOf(0, 1), 3);
        Due.is("the least size", x.guestOf(1, 1), 1);
        Due.is("the size between", x.guestOf(2, 1), 2);
    }

    private static void guestOfWish() {
        SupperSeats x = Given.supper("", "A1 B1 C1", "");
        Due.is("without a wish", x.guestOf(2, 2), -1);
        x.wish(2, 0);
        Due.is("with a wish for the first guest", x.guestOf(2, 2), 0);
        x.wish(2, -1);
        Due.is("without a wish again", x.guestOf(2, 2), -1);
    }

    private static void guestOfTable() {
        SupperSeats x = Given.supper("3333", "A1", "");
        Due.is("who stands", x.guestOf(0, 3), -1);
        x.sit(0, 0, 0);
        Due.is("at the first table", x.guestOf(0, 3), 0);
        x.sit(0, 3, 0);
        Due.is("at the last table", x.guestOf(0, 3), 3);
        x.rise(0);
        Due.is("who stood up", x.guestOf(0, 3), -1);
    }

    private static void guestOfSeat() {
        SupperSeats x = Given.supper("8", "A1", "");
        Due.is("who stands", x.guestOf(0, 4), -1);
        x.sit(0, 0, 0);
        Due.is("on the first seat", x.guestOf(0, 4), 0);
        x.sit(0, 0, 7);
        Due.is("on the last seat", x.guestOf(0, 4), 7);
        x.rise(0);
        Due.is("who stood up", x.guestOf(0, 4), -1);
    }

    private static void guestOfNotMet() {
        SupperSeats x = Given.supper("33", "A1 B1 C1", "0@0a 1@0b 2@1a");
        Due.is("without a wish, side by side", x.guestOf(0, 5), 0);
        x.wish(0, 2);
        Due.is("at another table", x.guestOf(0, 5), 0);
        x.rise(2);
        Due.is("the friend stands", x.guestOf(0, 5), 0);
        x.rise(0);
        Due.is("both stand", x.guestOf(0, 5), 0);
        x.sit(2, 1, 0);
        Due.is("the guest stands", x.guestOf(0, 5), 0);
        x.sit(0, 1, 1);
        Due.is("the friend's", x.guestOf(2, 5), 0);
    }

    private static void guestOfMet() {
        SupperSeats x = Given.supper("43", "A1 B1", "0@0a 1@0c");
        x.wish(0, 1);
        Due.is("opposite", x.guestOf(0, 5), 1);
        x.sit(1, 0, 1);
        Due.is("on the next seat", x.guestOf(0, 5), 2);
        x.sit(1, 0, 3);
        Due.is("on the seat before", x.guestOf(0, 5), 2);
        Given.sit(x, "0@1a 1@1c");
        Due.is("at a table of 3, on the seat before", x.guestOf(0, 5), 2);
    }

    private static void guestOfPoints() {
        SupperSeats x = Given.supper("48", "A2 B1", "");
        Given.wish(x, "0>1");
        Due.is("who stands", x.guestOf(0, 6), 0);
        x.sit(0, 0, 0);
        Due.is("below 0", x.guestOf(0, 6), -1);
        x.sit(1, 0, 1);
        Due.is("side by side, at a leg", x.guestOf(0, 6), 7);
        Due.is("who has no wish", x.guestOf(1, 6), 1);
        x.sit(0, 0, 2);
        Due.is("side by side, at no leg", x.guestOf(0, 6), 9);
        x.sit(1, 0, 0);
        Due.is("opposite", x.guestOf(0, 6), 6);
        x.sit(1, 1, 0);
        Due.is("at another table", x.guestOf(0, 6), 1);
        x.rise(0);
        Due.is("who stood up", x.guestOf(0, 6), 0);
    }

    private static void guestOfNumbers() {
        SupperSeats x = aSupper();
        int[][] due = {{0, 1, 1, 0, 0, 1, 6}, {1, 2, 0, 0, 3, 1, 4}, {2, 3, 3, 1, 2, 0, 1}, {3, 2, -1, -1, -1, 0, 0}};
        for (int guest = 0; guest < 4; guest++) {
            for (int what = 0; what <= 6; what++) {
                Due.is("guestOf(" + guest + ", " + what + ")", x.guestOf(guest, what), due[guest][what]);
            }
        }
    }

    private static void guestOfNoGuest() {
        SupperSeats x = Given.supper("", "A1 B1", "");
        for (int wrong : Given.outside(0, 1)) {
            Due.fails(x, "guestOf(" + wrong + ", 0)", Due.INDEX, () -> x.guestOf(wrong, 0));
        }
        SupperSeats y = Given.supper("", Given.sixteenGuests(), "");
        Due.fails(y, "guestOf(16, 6)", Due.INDEX, () -> y.guestOf(16, 6));
    }

    private static void guestOfWrongWhat() {
        SupperSeats x = aSupper();
        for (int wrong : Given.outside(0, 6)) {
            Due.fails(x, "guestOf(0, " + wrong + ")", Due.ARGUMENT, () -> x.guestOf(0, wrong));
        }
    }

    // ---- promise 21

    private static void tableOfChangesNothing() {
        SupperSeats x = aSupper();
        Due.changesNothing(x, "tableOf", () -> {
            for (int what = 0; what <= 4; what++) {
                x.tableOf(0, what);
                x.tableOf(1, what);
            }
        });
    }

    private static void tableOfTable() {
        SupperSeats x = Given.supper("3567", "A1 B1", "0@0a 1@3g");
        Due.is("seats of the first table", x.tableOf(0, 0), 3);
        Due.is("mask of the first table", x.tableOf(0, 2), 1);
        Due.is("seats of the last table", x.tableOf(3, 0), 7);
        Due.is("mask of the last table", x.tableOf(3, 2), 2);
    }

    private static void tableOfSeats() {
        for (int seats = 3; seats <= 8; seats++) {
            Due.is("seats", Given.supper("" + seats, "", "").tableOf(0, 0), seats);
        }
    }

    private static void tableOfGuests() {
        SupperSeats x = Given.supper("83", "A1 B1 C1 D1 E1 F1 A1 B1 C1", "");
        Due.is("nobody", x.tableOf(0, 1), 0);
        x.sit(0, 1, 0);
        for (int guest = 1; guest <= 8; guest++) {
            x.sit(guest, 0, guest - 1);
            Due.is("guests", x.tableOf(0, 1), guest);
        }
        Due.is("guests at the other table", x.tableOf(1, 1), 1);
        x.rise(8);
        Due.is("guests when one stood up", x.tableOf(0, 1), 7);
    }

    private static void tableOfMask() {
        SupperSeats x = Given.supper("83", "A1 B1 C1 D1 E1 F1 F1", "");
        Due.is("nobody", x.tableOf(0, 2), 0);
        for (int family = 0; family <= 5; family++) {
            x.sit(family, 0, 7 - family);
            Due.is("mask", x.tableOf(0, 2), (2 << family) - 1);
        }
        x.sit(6, 0, 0);
        Due.is("two of one family", x.tableOf(0, 2), 63);
        x.rise(5);
        Due.is("one of them left", x.tableOf(0, 2), 63);
        x.rise(6);
        Due.is("none of them left", x.tableOf(0, 2), 31);
        Due.is("the other table", x.tableOf(1, 2), 0);
    }

    private static void tableOfPoints() {
        SupperSeats x = Given.supper("88", "A2 B1 C1", "");
        Due.is("nobody", x.tableOf(0, 3), 0);
        Given.sit(x, "0@0a 1@0h 2@1a");
        Due.is("without a wish", x.tableOf(0, 3), 0);
        Given.wish(x, "0>1 2>1");
        Due.is("with a wish that is met", x.tableOf(0, 3), 8);
        Due.is("with a wish that is not met", x.tableOf(1, 3), 1);
        x.rise(1);
        Due.is("below 0", x.tableOf(0, 3), -1);
    }

    private static void tableOfEasySeats() {
        int[] due = {2, 2, 3, 4, 4, 5};
        for (int seats = 3; seats <= 8; seats++) {
            Due.is("easy seats of " + seats, Given.supper("" + seats, "", "").tableOf(0, 4), due[seats - 3]);
        }
        SupperSeats x = Given.supper("3", "A1 B1 C1", "0@0a");
        Due.is("one at a leg", x.tableOf(0, 4), 2);
        x.sit(1, 0, 1);
        Due.is("one at no leg", x.tableOf(0, 4), 1);
        x.sit(2, 0, 2);
        Due.is("full", x.tableOf(0, 4), 0);
    }

    private static void tableOfNumbers() {
        SupperSeats x = aSupper();
        int[][] due = {{8, 2, 3, 10, 5}, {3, 1, 4, 1, 1}};
        for (int table = 0; table < 2; table++) {
            for (int what = 0; what <= 4; what++) {
                Due.is("tableOf(" + table + ", " + what + ")", x.tableOf(table, what), due[table][what]);
            }
        }
    }

    private static void tableOfNoTable() {
        SupperSeats x = Given.supper("33", "", "");
        for (int wrong : Given.outside(0, 1)) {
            Due.fails(x, "tableOf(" + wrong + ", 0)", Due.INDEX, () -> x.tableOf(wrong, 0));
        }
        SupperSeats y = Given.supper("8888", "", "");
        Due.fails(y, "tableOf(4, 4)", Due.INDEX, () -> y.tableOf(4, 4));
    }

    private static void tableOfWrongWhat() {
        SupperSeats x = aSupper();
        for (int wrong : Given.outside(0, 4)) {
            Due.fails(x, "tableOf(0, " + wrong + ")", Due.ARGUMENT, () -> x.tableOf(0, wrong));
        }
    }

    // ---- promise 22

    private static void whoSits() {
        SupperSeats x = aSupper();
        Due.is("who(0, 0)", x.who(0, 0), 0);
        Due.is("who(0, 3)", x.who(0, 3), 1);
        Due.is("who(1, 2)", x.who(1, 2), 2);
        Due.changesNothing(x, "who", () -> x.who(0, 0));
    }

    private static void whoTable() {
        SupperSeats x = Given.supper("3333", "A1 B1", "0@0a 1@3a");
        int[] due = {0, -1, -1, 1};
        for (int table = 0; table < 4; table++) {
            Due.is("who(" + table + ", 0)", x.who(table, 0), due[table]);
        }
    }

    private static void whoSeat() {
        SupperSeats x = Given.supper("88", "A1 B1", "0@0a 1@0h");
        int[] due = {0, -1, -1, -1, -1, -1, -1, 1};
        for (int seat = 0; seat < 8; seat++) {
            Due.is("who(0, " + seat + ")", x.who(0, seat), due[seat]);
        }
    }

    private static void whoNobody() {
        SupperSeats x = Given.supper("3", "A1", "");
        Due.is("before", x.who(0, 0), -1);
        x.sit(0, 0, 0);
        Due.is("the first guest", x.who(0, 0), 0);
        x.rise(0);
        Due.is("after", x.who(0, 0), -1);
    }

    private static void whoNoTable() {
        SupperSeats x = Given.supper("33", "A1", "0@1a");
        for (int wrong : Given.outside(0, 1)) {
            Due.fails(x, "who(" + wrong + ", 0)", Due.INDEX, () -> x.who(wrong, 0));
        }
        SupperSeats y = Given.supper("8888", "", "");
        Due.fails(y, "who(4, 0)", Due.INDEX, () -> y.who(4, 0));
    }

    private static void whoNoSeat() {
        SupperSeats x = Given.supper("383", "A1 B1", "0@1a 1@1h");
        for (int wrong : Given.outside(0, 2)) {
            Due.fails(x, "who(0, " + wrong + ")", Due.INDEX, () -> x.who(0, wrong));
            Due.fails(x, "who(2, " + wrong + ")", Due.INDEX, () -> x.who(2, wrong));
        }
        for (int wrong : Given.outside(0, 7)) {
            Due.fails(x, "who(1, " + wrong + ")", Due.INDEX, () -> x.who(1, wrong));
        }
    }

    // ---- promise 23

    private static void seatedOrder() {
        SupperSeats x = Given.supper("83", "A1 B1 C1", "2@0a 0@1a 1@0b");
        Due.line("seated", x::seated, 2, 0, 1);
        x.sit(2, 1, 1);
        Due.line("seated, when the first one changed", x::seated, 0, 1, 2);
        Due.changesNothing(x, "seated", () -> x.seated(0));
    }

    private static void seatedPlaces() {
        SupperSeats x = Given.supper("88", Given.sixteenGuests(), "");
        x.seatAll();
        for (int place = 0; place < 16; place++) {
            Due.is("seated(" + place + ")", x.seated(place), place);
        }
        Due.is("seated(16)", x.seated(16), -1);
    }

    private static void seatedOfFirstGuest() {
        SupperSeats x = Given.supper("3", "A1", "0@0b");
        Due.is("seated(0)", x.seated(0), 0);
    }

    private static void seatedNone() {
        SupperSeats x = Given.supper("3", "A1 B1", "");
        Due.is("nobody sits", x.seated(0), -1);
        Given.sit(x, "1@0a 0@0b");
        Due.is("two sit", x.seated(2), -1);
        Due.is("two sit", x.seated(Integer.MAX_VALUE), -1);
        x.rise(0);
        Due.is("one sits", x.seated(1), -1);
        x.rise(1);
        Due.is("nobody sits", x.seated(0), -1);
    }

    private static void seatedBelow() {
        SupperSeats x = Given.supper("3", "A1", "0@0b");
        for (int wrong : new int[] {-1, -2, -16, Integer.MIN_VALUE}) {
            Due.fails(x, "seated(" + wrong + ")", Due.ARGUMENT, () -> x.seated(wrong));
        }
    }

    // ---- promise 24

    private static void feudAtOrder() {
        SupperSeats x = new SupperSeats();
        Given.feud(x, "EF BA CD");
        Due.line("feudAt", x::feudAt, 29, 1, 15);
        Due.changesNothing(x, "feudAt", () -> x.feudAt(0));
    }

    private static void feudAtPlaces() {
        SupperSeats x = new SupperSeats();
        Given.feud(x, "AB AC AD AE AF BC BD BE");
        Due.line("feudAt", x::feudAt, 1, 2, 3, 4, 5, 8, 9, 10);
    }

    private static void feudAtCodes() {
        for (int family = 0; family <= 5; family++) {
            for (int other = 0; other <= 5; other++) {
                if (family != other) {
                    SupperSeats x = new SupperSeats();
                    x.feud(family, other);
                    Due.is("feudAt(0)", x.feudAt(0), family < other ? 6 * family + other : 6 * other + family);
                }
            }
        }
    }

    private static void feudAtNone() {
        SupperSeats x = new SupperSeats();
        Due.is("without a feud", x.feudAt(0), -1);
        Given.feud(x, "AB CD");
        Due.is("behind two feuds", x.feudAt(2), -1);
        Due.is("far behind", x.feudAt(Integer.MAX_VALUE), -1);
        x.peace(0, 1);
        Due.is("behind one feud", x.feudAt(1), -1);
        x.peace(2, 3);
        Due.is("when there is peace", x.feudAt(0), -1);
    }

    private static void feudAtBelow() {
        SupperSeats x = new SupperSeats();
        Given.feud(x, "AB");
        for (int wrong : new int[] {-1, -2, -8, Integer.MIN_VALUE}) {
            Due.fails(x, "feudAt(" + wrong + ")", Due.ARGUMENT, () -> x.feudAt(wrong));
        }
    }

    // ---- promise 25

    private static void countChangesNothing() {
        SupperSeats x = aSupper();
        Due.changesNothing(x, "count", () -> {
            for (int what = 0; what <= 13; what++) {
                x.count(what);
            }
        });
    }

    private static void countsUpTo(int what, int most) {
        SupperSeats x = new SupperSeats();
        Due.is("count(" + what + ")", x.count(what), 0);
        for (int number = 1; number <= most; number++) {
            switch (what) {
                case 0: x.guest(0, 1); break;
                case 1: x.table(3); break;
                default: x.feud(number < 6 ? 0 : 1, number < 6 ? number : number - 4); break;
            }
            Due.is("count(" + what + ")", x.count(what), number);
        }
        x.undo();
        Due.is("count(" + what + ") after undo", x.count(what), most - 1);
    }

    private static void countSitting() {
        SupperSeats x = Given.supper("88", Given.sixteenGuests(), "");
        Due.is("nobody", x.count(3), 0);
        x.sit(15, 0, 0);
        Due.is("one", x.count(3), 1);
        x.sit(15, 1, 0);
        Due.is("the same one", x.count(3), 1);
        x.seatAll();
        Due.is("all", x.count(3), 16);
        x.rise(7);
        Due.is("all but one", x.count(3), 15);
    }

    private static void countPoints() {
        SupperSeats x = Given.supper("38", "A2 B2 C1", "");
        Due.is("nobody", x.count(4), 0);
        Given.sit(x, "0@0a 1@1d");
        Due.is("below 0", x.count(4), -2);
        Given.wish(x, "0>2 2>0");
        x.sit(2, 0, 2);
        Due.is("with two wishes that are met", x.count(4), 15);
    }

    private static void countPointsByTables() {
        SupperSeats x = Given.supper("38", "A2 B2 C1", "");
        Due.is("nobody", x.count(5), 0);
        Given.sit(x, "0@0a 1@1d");
        Due.is("below 0", x.count(5), -2);
        Given.wish(x, "0>2 2>0");
        x.sit(2, 0, 2);
        Due.is("with two wishes that are met", x.count(5), 15);
        Given.sit(x, "2@1b");
        Due.is("with none", x.count(5), -1);
    }

    private static void countMet() {
        SupperSeats x = Given.supper("88", Given.sixteenGuests(), "");
        x.seatAll();
        for (int guest = 0; guest < 8; guest++) {
            x.wish(guest, (guest + 1) % 8);
            x.wish(guest + 8, (guest + 1) % 8 + 8);
            Due.is("wishes that are met", x.count(6), 2 * guest + 2);
        }
        x.wish(0, 8);
        Due.is("one is not met", x.count(6), 15);
        x.wish(1, -1);
        Due.is("one is none", x.count(6), 14);
    }

    private static void countSatDown() {
        SupperSeats x = Given.supper("83", "A1 B1 C1 D1", "");
        Due.is("nobody", x.count(7), 0);
        x.sit(0, 0, 0);
        Due.is("sit", x.count(7), 1);
        x.sit(0, 0, 1);
        Due.is("for another seat", x.count(7), 2);
        x.sit(1, 1, 0);
        x.swap(0, 1);
        Due.is("swap", x.count(7), 5);
        x.rise(0);
        Due.is("rise", x.count(7), 5);
        x.seatAll();
        Due.is("seatAll", x.count(7), 8);
        Given.seats(x, "0@0h;0@0h;-0;0@0h");
        Due.is("seats", x.count(7), 10);
    }

    private static void countStoodUp() {
        SupperSeats x = Given.supper("83", "A1 B1 C1 D1", "0@0a 1@0b");
        Due.is("nobody", x.count(8), 0);
        x.rise(0);
        Due.is("rise", x.count(8), 1);
        x.sit(0, 0, 2);
        Due.is("sit of one who stood", x.count(8), 1);
        x.sit(0, 1, 0);
        Due.is("for another seat", x.count(8), 2);
        x.swap(0, 1);
        Due.is("swap", x.count(8), 4);
        x.seatAll();
        Due.is("seatAll", x.count(8), 4);
        x.sit(1, 0, 5);
        Due.is("for another seat", x.count(8), 5);
        x.feud(0, 1);
        Due.is("feud", x.count(8), 6);
        Given.seats(x, "-1;-0;1@0h");
        Due.is("seats", x.count(8), 7);
    }

    private static void countSettings() {
        SupperSeats x = new SupperSeats();
        int[] first = {3, 5, 3, 2};
        for (int setting = 0; setting < 4; setting++) {
            Due.is("at first", x.count(9 + setting), first[setting]);
            x.set(setting, 6 + setting);
        }
        for (int setting = 0; setting < 4; setting++) {
            Due.is("count(" + (9 + setting) + ")", x.count(9 + setting), 6 + setting);
        }
    }

    private static void countSaved() {
        SupperSeats x = new SupperSeats();
        Due.is("none", x.count(13), 0);
        for (int number = 1; number <= 7; number++) {
            x.guest(0, 1);
            Due.is("saved states", x.count(13), Math.min(number, 6));
        }
        x.undo();
        Due.is("after undo", x.count(13), 5);
    }

    private static void countNumbers() {
        SupperSeats x = aSupper();
        x.feud(4, 5);
        x.undo();
        int[] due = {4, 2, 0, 3, 11, 11, 2, 3, 0, 3, 5, 3, 2, 5};
        for (int what = 0; what <= 13; what++) {
            Due.is("count(" + what + ")", x.count(what), due[what]);
        }
    }

    private static void countWrongWhat() {
        SupperSeats x = aSupper();
        for (int wrong : Given.outside(0, 13)) {
            Due.fails(x, "count(" + wrong + ")", Due.ARGUMENT, () -> x.count(wrong));
        }
    }

    // ---- promise 26

    private static void whyNotChangesNothing() {
        SupperSeats x = aSupper();
        Due.changesNothing(x, "whyNot", () -> {
            x.whyNot(0, 0, 0);
            x.whyNot(0, 0, 3);
            x.whyNot(0, 1, 0);
            x.whyNot(3, 1, 0);
        });
    }

    private static void whyNotGuest() {
        SupperSeats x = Given.supper("3", "A3 B1 C1 D1 E1 F1 A1 B1 C1 D1 E1 F1 A1 B1 C1 D3", "");
        Due.is("the first guest", x.whyNot(0, 0, 0), 3);
        Due.is("the second guest", x.whyNot(1, 0, 0), 0);
        Due.is("the last guest", x.whyNot(15, 0, 0), 3);
    }

    private static void whyNotTable() {
        SupperSeats x = Given.supper("3333", "A1 B1", "0@0a");
        Due.is("the first table", x.whyNot(1, 0, 0), 2);
        Due.is("the last table", x.whyNot(1, 3, 0), 0);
        x.sit(0, 3, 0);
        Due.is("the first table", x.whyNot(1, 0, 0), 0);
        Due.is("the last table", x.whyNot(1, 3, 0), 2);
    }

    private static void whyNotSeat() {
        SupperSeats x = Given.supper("8", "A3 B1", "1@0h");
        int[] due = {3, 0, 0, 3, 0, 0, 3, 2};
        for (int seat = 0; seat < 8; seat++) {
            Due.is("whyNot(0, 0, " + seat + ")", x.whyNot(0, 0, seat), due[seat]);
        }
    }

    private static void whyNotReasons() {
        SupperSeats x = Given.supper("83", "A1 A1 B3 C1 A1", "0@0b 1@0c");
        x.set(0, 2);
        x.feud(0, 2);
        Due.is("1", x.whyNot(0, 0, 1), 1);
        Due.is("2", x.whyNot(2, 0, 1), 2);
        Due.is("3", x.whyNot(2, 0, 6), 3);
        Due.is("4", x.whyNot(3, 0, 0), 4);
        Due.is("5", x.whyNot(4, 0, 0), 5);
    }

    private static void whyNotCan() {
        SupperSeats x = Given.supper("83", "A1 B3", "0@0b");
        Due.is("one who sits, at the same table", x.whyNot(0, 0, 0), 0);
        Due.is("one who sits, at another table", x.whyNot(0, 1, 0), 0);
        Due.is("one who stands, at no leg", x.whyNot(1, 0, 7), 0);
        x.sit(1, 0, 7);
        Due.is("when that one sits there", x.whyNot(1, 0, 7), 1);
    }

    private static void whyNotNoGuest() {
        SupperSeats x = Given.supper("3", "A1 B1", "");
        for (int wrong : Given.outside(0, 1)) {
            Due.fails(x, "whyNot(" + wrong + ", 0, 0)", Due.INDEX, () -> x.whyNot(wrong, 0, 0));
        }
        SupperSeats y = Given.supper("3", Given.sixteenGuests(), "");
        Due.fails(y, "whyNot(16, 0, 0)", Due.INDEX, () -> y.whyNot(16, 0, 0));
    }

    private static void whyNotNoTable() {
        SupperSeats x = Given.supper("33", "A1", "");
        for (int wrong : Given.outside(0, 1)) {
            Due.fails(x, "whyNot(0, " + wrong + ", 0)", Due.INDEX, () -> x.whyNot(0, wrong, 0));
        }
        SupperSeats y = Given.supper("8888", "A1", "");
        Due.fails(y, "whyNot(0, 4, 0)", Due.INDEX, () -> y.whyNot(0, 4, 0));
    }

    private static void whyNotNoSeat() {
        SupperSeats x = Given.supper("383", "A1", "");
        for (int wrong : Given.outside(0, 2)) {
            Due.fails(x, "whyNot(0, 0, " + wrong + ")", Due.INDEX, () -> x.whyNot(0, 0, wrong));
        }
        for (int wrong : Given.outside(0, 7)) {
            Due.fails(x, "whyNot(0, 1, " + wrong + ")", Due.INDEX, () -> x.whyNot(0, 1, wrong));
        }
    }
}
