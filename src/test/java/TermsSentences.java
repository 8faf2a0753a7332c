/** The terms of guests, feuds, tables, seats and points, sentence by sentence. */
final class TermsSentences {
    private TermsSentences() {
    }

    static void tell(Sentences all) {
        guests(all);
        tables(all);
        reasons(all);
        points(all);
    }

    private static void guests(Sentences all) {
        all.hold(Sentences.TERMS, "All numbers are integers, but for a share", TermsSentences::shareIsNoInteger);
        all.hold(Sentences.TERMS, "There are at most 16 guests", TermsSentences::sixteenGuests);
        all.hold(Sentences.TERMS, "guests, numbered from 0 in the order in which they came", TermsSentences::guestNumbers);
        all.hold(Sentences.TERMS, "who all stay", TermsSentences::guestsStay);
        all.hold(Sentences.TERMS, "A guest has a family, 0 to 5", TermsSentences::familiesOfGuests);
        all.hold(Sentences.TERMS, "a size, 1 to 3", TermsSentences::sizesOfGuests);
        all.hold(Sentences.TERMS, "and a wish: another guest, or none, at first none", TermsSentences::wishesOfGuests);
        all.hold(Sentences.TERMS, "There are at most 8 feuds", TermsSentences::eightFeuds);
        all.hold(Sentences.TERMS, "each of two families that are not the same", TermsSentences::feudsOfTwo);
        all.hold(Sentences.TERMS, "they have an order, in which they began", TermsSentences::orderOfFeuds);
    }

    private static void tables(Sentences all) {
        all.hold(Sentences.TERMS, "There are at most 4 tables", TermsSentences::fourTables);
        all.hold(Sentences.TERMS, "tables, numbered from 0 in the order in which they came", TermsSentences::tableNumbers);
        all.hold(Sentences.TERMS, "each with 3 to 8 seats", TermsSentences::seatsOfTables);
        all.hold(Sentences.TERMS, "seats, numbered from 0", TermsSentences::seatNumbers);
        all.hold(Sentences.TERMS, "around it: the last one is beside the first one", TermsSentences::aroundTables);
        all.hold(Sentences.TERMS, "The seats 0, 3 and 6 are at a leg", TermsSentences::legs);
        all.hold(Sentences.TERMS, "The guests at tables are told in the order in which they sat down",
            TermsSentences::orderOfSitting);
        all.hold(Sentences.TERMS, "one who changes the seat sits down anew", TermsSentences::sitsDownAnew);
    }

    private static void reasons(Sentences all) {
        all.hold(Sentences.TERMS, "for the first of these reasons that applies", TermsSentences::firstReason);
        all.hold(Sentences.TERMS, "1: the guest sits there already", TermsSentences::sitsThereAlready);
        all.hold(Sentences.TERMS, "2: another one sits there", TermsSentences::anotherSitsThere);
        all.hold(Sentences.TERMS, "3: the seat is at a leg, and the size of the guest is 3", TermsSentences::kneesAtLeg);
        all.hold(Sentences.TERMS, "4: some other guest at the table is of a family with which the guest's family has a feud",
            TermsSentences::foeAtTable);
        all.hold(Sentences.TERMS, "of a family with which the guest's family has a feud", TermsSentences::foesOfSeveralFeuds);
        all.hold(Sentences.TERMS, "5: setting 0 or more other guests at the table are of the guest's family",
            TermsSentences::kinAtTable);
        all.hold(Sentences.TERMS, "or more other guests", TermsSentences::kinButOneself);
    }

    private static void points(Sentences all) {
        all.hold(Sentences.TERMS, "A wish is met, if both guests sit at one table", TermsSentences::wishAtOneTable);
        all.hold(Sentences.TERMS, "it counts setting 1 points then", TermsSentences::pointsOfWish);
        all.hold(Sentences.TERMS, "and setting 2 points more, if they sit side by side", TermsSentences::pointsBeside);
        all.hold(Sentences.TERMS, "A guest who sits counts 1 point", TermsSentences::pointOfSitting);
        all.hold(Sentences.TERMS, "and, at a leg with the size 2, setting 3 points less", TermsSentences::pointsAtLeg);
        all.hold(Sentences.TERMS, "The points are the sum over all guests", TermsSentences::sumOverGuests);
        all.hold(Sentences.TERMS, "they are the sum over all tables of what is counted at each: for each seat that is taken",
            TermsSentences::seatsThatAreTaken);
        all.hold(Sentences.TERMS, "for each two seats that are taken there (in each of both directions)",
            TermsSentences::twoSeatsThatAreTaken);
        all.hold(Sentences.TERMS, "both ways agree", TermsSentences::bothWaysAgree);
    }

    // ---- guests, feuds

    private static void shareIsNoInteger() {
        SupperSeats x = Given.supper("3", "A1 B1 C1", "0@0a 1@0b");
        Given.wish(x, "0>1 1>2 2>0");
        Due.isShare("met of one of three", x.met(), 1.0 / 3.0);
    }

    private static void sixteenGuests() {
        SupperSeats x = Given.supper("", Given.sixteenGuests(), "");
        Due.is("guests", x.count(0), 16);
        Due.fails(x, "the 17th guest", Due.STATE, () -> x.guest(0, 1));
        x.undo();
        Due.is("the 16th guest again", x.guest(0, 1), 15);
        Due.fails(x, "the 17th guest again", Due.STATE, () -> x.guest(0, 1));
    }

    private static void guestNumbers() {
        SupperSeats x = new SupperSeats();
        for (int guest = 0; guest < 16; guest++) {
            Due.is("guest", x.guest(guest % 6, guest % 3 + 1), guest);
        }
        for (int guest = 0; guest < 16; guest++) {
            Due.is("family of " + guest, x.guestOf(guest, 0), guest % 6);
            Due.is("size of " + guest, x.guestOf(guest, 1), guest % 3 + 1);
        }
    }

    private static void guestsStay() {
        SupperSeats x = Given.supper("8", "A1 B2 C3", "0@0a 1@0b");
        x.rise(0);
        x.seatAll();
        x.feud(0, 1);
        Given.seats(x, "-0;-1;-2");
        Due.is("guests", x.count(0), 3);
        for (int guest = 0; guest < 3; guest++) {
            Due.is("family of " + guest, x.guestOf(guest, 0), guest);
            Due.is("size of " + guest, x.guestOf(guest, 1), guest + 1);
        }
    }

    private static void familiesOfGuests() {
        SupperSeats x = new SupperSeats();
        for (int family = 0; family <= 5; family++) {
            int guest = x.guest(family, 1);
            Due.is("family", x.guestOf(guest, 0), family);
        }
        for (int family : Given.outside(0, 5)) {
            Due.fails(x, "guest(" + family + ", 1)", Due.ARGUMENT, () -> x.guest(family, 1));
        }
    }

    private static void sizesOfGuests() {
        SupperSeats x = new SupperSeats();
        for (int size = 1; size <= 3; size++) {
            int guest = x.guest(0, size);
            Due.is("size", x.guestOf(guest, 1), size);
        }
        for (int size : Given.outside(1, 3)) {
            Due.fails(x, "guest(0, " + size + ")", Due.ARGUMENT, () -> x.guest(0, size));
        }
    }

    private static void wishesOfGuests() {
        SupperSeats x = Given.supper("", Given.sixteenGuests(), "");
        for (int guest = 0; guest < 16; guest++) {
            Due.is("wish at first", x.guestOf(guest, 2), -1);
        }
        x.wish(0, 15);
        x.wish(15, 0);
        Due.is("wish of the first one", x.guestOf(0, 2), 15);
        Due.is("wish of the last one", x.guestOf(15, 2), 0);
        Due.fails(x, "wish for oneself", Due.ARGUMENT, () -> x.wish(3, 3));
        x.undo();
        x.undo();
        x.undo();
        x.guest(4, 1);
        Due.is("wish of one who comes anew", x.guestOf(15, 2), -1);
    }

    private static void eightFeuds() {
        SupperSeats x = new SupperSeats();
        Given.feud(x, "AB AC AD AE AF BC BD BE");
        Due.is("feuds", x.count(2), 8);
        Due.fails(x, "the ninth feud", Due.STATE, () -> x.feud(1, 5));
        x.peace(0, 3);
        x.feud(1, 5);
        Due.is("feuds", x.count(2), 8);
        Due.fails(x, "the ninth feud again", Due.STATE, () -> x.feud(0, 3));
    }

    private static void feudsOfTwo() {
        SupperSeats x = new SupperSeats();
        for (int i = 0; i <= 5; i++) {
            int family = i;
            Due.fails(x, "feud(" + family + ", " + family + ")", Due.ARGUMENT, () -> x.feud(family, family));
        }
        for (int family = 0; family <= 4; family++) {
            x.feud(family, 5);
            Due.is("feudAt", x.feudAt(family), 6 * family + 5);
        }
    }

    private static void orderOfFeuds() {
        SupperSeats x = new SupperSeats();
        Given.feud(x, "FE AB DC");
        Due.line("feudAt", x::feudAt, 29, 1, 15);
        x.peace(0, 1);
        Due.line("feudAt after peace", x::feudAt, 29, 15);
        Given.feud(x, "BA");
        Due.line("feudAt after a feud anew", x::feudAt, 29, 15, 1);
        x.peace(4, 5);
        Due.line("feudAt after peace of the first one", x::feudAt, 15, 1);
    }

    // ---- tables, seats

    private static void fourTables() {
        SupperSeats x = Given.supper("3883", "", "");
        Due.is("tables", x.count(1), 4);
        Due.fails(x, "the fifth table", Due.STATE, () -> x.table(3));
        x.undo();
        Due.is("the fourth table again", x.table(5), 3);
        Due.fails(x, "the fifth table again", Due.STATE, () -> x.table(3));
    }

    private static void tableNumbers() {
        SupperSeats x = new SupperSeats();
        int[] seats = {8, 3, 6, 4};
        for (int table = 0; table < 4; table++) {
            Due.is("table", x.table(seats[table]), table);
        }
        for (int table = 0; table < 4; table++) {
            Due.is("seats of " + table, x.tableOf(table, 0), seats[table]);
        }
    }

    private static void seatsOfTables() {
        for (int seats = 3; seats <= 8; seats++) {
            SupperSeats x = new SupperSeats();
            x.table(seats);
            Due.is("seats", x.tableOf(0, 0), seats);
        }
        SupperSeats x = new SupperSeats();
        for (int seats : Given.outside(3, 8)) {
            Due.fails(x, "table(" + seats + ")", Due.ARGUMENT, () -> x.table(seats));
        }
    }

    private static void seatNumbers() {
        for (int seats = 3; seats <= 8; seats++) {
            SupperSeats x = Given.supper("" + seats + 8, "A1", "");
            int behind = seats;
            x.sit(0, 0, 0);
            Due.is("the first seat", x.who(0, 0), 0);
            x.sit(0, 0, seats - 1);
            Due.is("the last seat", x.who(0, seats - 1), 0);
            Due.fails(x, "a seat behind the last one", Due.INDEX, () -> x.sit(0, 0, behind));
            Due.fails(x, "a seat before the first one", Due.INDEX, () -> x.sit(0, 0, -1));
        }
    }

    private static void aroundTables() {
        for (int seats = 3; seats <= 8; seats++) {
            SupperSeats x = Given.supper("" + seats, "A1 B1", "");
            x.wish(0, 1);
            for (int seat = 1; seat < seats; seat++) {
                x.sit(0, 0, 0);
                x.sit(1, 0, seat);
                Due.is("0 and " + seat + " of " + seats, x.guestOf(0, 5), seat == 1 || seat == seats - 1 ? 2 : 1);
                x.undo();
                x.undo();
            }
            x.sit(0, 0, seats - 1);
            x.sit(1, 0, 0);
            Due.is("the last one and the first one of " + seats, x.guestOf(0, 5), 2);
            x.sit(1, 0, seats - 2);
            Due.is("the last two of " + seats, x.guestOf(0, 5), 2);
        }
    }

    private static void legs() {
        for (int seats = 3; seats <= 8; seats++) {
            SupperSeats x = Given.supper("" + seats, "A3", "");
            for (int seat = 0; seat < seats; seat++) {
                boolean leg = seat == 0 || seat == 3 || seat == 6;
                Due.is("seat " + seat + " of " + seats, x.whyNot(0, 0, seat), leg ? 3 : 0);
            }
        }
    }

    private static void orderOfSitting() {
        SupperSeats x = Given.supper("38", "A1 B1 C1 D1", "2@1a 0@0b 3@1h 1@0a");
        Due.line("seated", x::seated, 2, 0, 3, 1);
        x.rise(0);
        Due.line("seated, when one stood up", x::seated, 2, 3, 1);
        x.sit(0, 0, 2);
        Due.line("seated, when that one sat down again", x::seated, 2, 3, 1, 0);
    }

    private static void sitsDownAnew() {
        SupperSeats x = Given.supper("38", "A1 B1 C1", "0@0a 1@0b 2@1a");
        x.sit(0, 0, 2);
        Due.line("seated, from a seat at the same table", x::seated, 1, 2, 0);
        x.sit(1, 1, 7);
        Due.line("seated, from another table", x::seated, 2, 0, 1);
        x.sit(1, 1, 6);
        Due.line("seated, when the last one changes", x::seated, 2, 0, 1);
        Due.is("sat down", x.count(7), 6);
        Due.is("stood up", x.count(8), 3);
        Due.is("the seat that was left", x.who(0, 0), -1);
    }

    // ---- reasons

    private static void firstReason() {
        SupperSeats x = Given.supper("8", "A3 A1 A1", "1@0a 2@0b");
        x.set(0, 1);
        Due.is("1 and 5", x.whyNot(1, 0, 0), 1);
        Due.is("2, 3 and 5", x.whyNot(0, 0, 0), 2);
        Due.is("2 and 5", x.whyNot(0, 0, 1), 2);
        Due.is("3 and 5", x.whyNot(0, 0, 3), 3);
        Due.is("5", x.whyNot(0, 0, 4), 5);
        SupperSeats y = Given.supper("8", "A3 B1 B1", "1@0a 2@0b");
        y.feud(0, 1);
        Due.is("2, 3 and 4", y.whyNot(0, 0, 0), 2);
        Due.is("2 and 4", y.whyNot(0, 0, 1), 2);
        Due.is("3 and 4", y.whyNot(0, 0, 3), 3);
        Due.is("4", y.whyNot(0, 0, 4), 4);
    }

    private static void sitsThereAlready() {
        SupperSeats x = Given.supper("83", "A1 A1 A1 A3", "0@0a 1@0b 2@1b 3@0c");
        Due.is("one's own seat", x.whyNot(0, 0, 0), 1);
        Due.is("the same seat at another table", x.whyNot(0, 1, 0), 0);
        Due.is("the seat beside", x.whyNot(1, 0, 3), 0);
        x.set(0, 1);
        Due.is("one's own seat, with too many kin there", x.whyNot(0, 0, 0), 1);
        x.rise(0);
        Due.is("the seat of which one stood up", x.whyNot(1, 1, 0), 5);
        x.rise(2);
        Due.is("the seat that one had", x.whyNot(2, 1, 1), 0);
    }

    private static void anotherSitsThere() {
        SupperSeats x = Given.supper("38", "A1 B1", "0@0b");
        Due.is("the seat of the first guest", x.whyNot(1, 0, 1), 2);
        Due.is("the seat beside", x.whyNot(1, 0, 2), 0);
        x.sit(1, 1, 7);
        Due.is("the last seat of the last guest", x.whyNot(0, 1, 7), 2);
        x.rise(1);
        Due.is("the seat when that one stood up", x.whyNot(0, 1, 7), 0);
    }

    private static void kneesAtLeg() {
        SupperSeats x = Given.supper("8", "A1 B2 C3", "");
        for (int seat = 0; seat <= 6; seat += 3) {
            Due.is("size 1 at a leg", x.whyNot(0, 0, seat), 0);
            Due.is("size 2 at a leg", x.whyNot(1, 0, seat), 0);
            Due.is("size 3 at a leg", x.whyNot(2, 0, seat), 3);
            Due.is("size 3 at no leg", x.whyNot(2, 0, seat + 1), 0);
        }
    }

    private static void foeAtTable() {
        SupperSeats x = Given.supper("83", "A1 B1 C1 F1 E1", "1@0h 2@0b");
        Given.feud(x, "BA FE");
        Due.is("the lesser family, a foe at the last seat", x.whyNot(0, 0, 0), 4);
        Due.is("at another table", x.whyNot(0, 1, 0), 0);
        Due.is("the families 4 and 5", x.whyNot(3, 0, 0), 0);
        x.sit(4, 1, 2);
        Due.is("the greater family", x.whyNot(3, 1, 0), 4);
        x.rise(1);
        x.sit(0, 0, 0);
        Due.is("the greater family", x.whyNot(1, 0, 3), 4);
        Due.is("no feud with either", x.whyNot(2, 0, 3), 0);
        x.peace(0, 1);
        Due.is("when the feud has ended", x.whyNot(1, 0, 3), 0);
    }

    private static void foesOfSeveralFeuds() {
        for (String feuds : new String[] {"AC CD CF", "CF CD AC", "DC AC FC", "CD FC CA"}) {
            SupperSeats x = Given.supper("3333", "C1 A1 D1 F1 B1", "1@0a 2@1a 3@2a 4@3a");
            Given.feud(x, feuds);
            for (int table = 0; table < 4; table++) {
                Due.is("feuds " + feuds + ", table " + table, x.whyNot(0, table, 1), table < 3 ? 4 : 0);
            }
            Due.is("a foe of C", x.whyNot(1, 1, 1), 0);
            x.peace(2, 3);
            Due.is("feuds " + feuds + " without C and D", x.whyNot(0, 1, 1), 0);
            Due.is("the feud of A and C", x.whyNot(0, 0, 1), 4);
            Due.is("the feud of C and F", x.whyNot(0, 2, 1), 4);
        }
    }

    private static void kinAtTable() {
        for (int most = 1; most <= 7; most++) {
            SupperSeats x = Given.supper("83", "F1 F1 F1 F1 F1 F1 F1 F1 A1", "");
            x.set(0, most);
            for (int guest = 0; guest < most; guest++) {
                Due.is("guest " + guest + " of at most " + most, x.whyNot(guest, 0, guest), 0);
                x.sit(guest, 0, guest);
            }
            Due.is("one more than " + most, x.whyNot(most, 0, most), 5);
            Due.is("at another table", x.whyNot(most, 1, 0), 0);
            Due.is("of another family", x.whyNot(8, 0, 7), 0);
            x.set(0, most + 1);
            Due.is("when one more may", x.whyNot(most, 0, most), 0);
            x.set(0, 1);
            Due.is("with more than so many there", x.whyNot(7, 0, 7), 5);
        }
        SupperSeats y = Given.supper("888", "A1 A1 A1", "0@0h 1@2a");
        y.set(0, 1);
        Due.is("with kin on the last seat of the table before, the first seat of the next one", y.whyNot(2, 1, 0), 0);
    }

    private static void kinButOneself() {
        SupperSeats x = Given.supper("8", "A1 A1", "0@0a 1@0b");
        x.set(0, 2);
        Due.is("one other", x.whyNot(0, 0, 2), 0);
        x.set(0, 1);
        Due.is("one other, where one may", x.whyNot(0, 0, 2), 5);
        x.rise(1);
        Due.is("no other", x.whyNot(0, 0, 2), 0);
    }

    // ---- points

    private static void wishAtOneTable() {
        SupperSeats x = Given.supper("88", "A1 B1", "");
        x.wish(0, 1);
        Due.is("both stand", x.count(6), 0);
        x.sit(0, 0, 0);
        Due.is("the friend stands", x.count(6), 0);
        x.sit(1, 1, 1);
        Due.is("at two tables", x.count(6), 0);
        x.rise(0);
        Due.is("the guest stands", x.count(6), 0);
        x.sit(0, 1, 4);
        Due.is("at one table", x.count(6), 1);
    }

    private static void pointsOfWish() {
        SupperSeats x = Given.supper("4", "A1 B1", "0@0a 1@0c");
        x.wish(0, 1);
        Due.is("at first", x.count(4), 7);
        x.set(1, 0);
        Due.is("setting 1 is 0", x.count(4), 2);
        x.set(1, 20);
        Due.is("setting 1 is 20", x.count(4), 22);
        x.wish(1, 0);
        Due.is("two wishes", x.count(4), 42);
        x.rise(1);
        Due.is("none met", x.count(4), 1);
    }

    private static void pointsBeside() {
        SupperSeats x = Given.supper("4", "A1 B1", "0@0a 1@0b");
        x.wish(0, 1);
        Due.is("at first", x.count(4), 10);
        x.set(2, 0);
        Due.is("setting 2 is 0", x.count(4), 7);
        x.set(2, 20);
        Due.is("setting 2 is 20", x.count(4), 27);
        x.sit(1, 0, 3);
        Due.is("on the other side", x.count(4), 27);
        x.sit(1, 0, 2);
        Due.is("opposite", x.count(4), 7);
    }

    private static void pointOfSitting() {
        SupperSeats x = Given.supper("8", "A1 B2 C3", "");
        Due.is("nobody sits", x.count(4), 0);
        Due.is("size 1 at a leg", x.sit(0, 0, 0), 1);
        Due.is("size 2 at no leg", x.sit(1, 0, 2), 2);
        Due.is("size 3 at no leg", x.sit(2, 0, 4), 3);
        Due.is("one who stands", x.rise(2), 2);
    }

    private static void pointsAtLeg() {
        SupperSeats x = Given.supper("8", "A1 B2", "");
        for (int seat = 0; seat < 8; seat++) {
            boolean leg = seat == 0 || seat == 3 || seat == 6;
            Due.is("size 2 at " + seat, x.sit(1, 0, seat), leg ? -1 : 1);
            Due.is("rise", x.rise(1), 0);
        }
        x.sit(1, 0, 6);
        x.set(3, 0);
        Due.is("setting 3 is 0", x.count(4), 1);
        x.set(3, 9);
        Due.is("setting 3 is 9", x.count(4), -8);
        x.rise(1);
        Due.is("size 1 at a leg", x.sit(0, 0, 6), 1);
    }

    private static void sumOverGuests() {
        SupperSeats x = crowd();
        int sum = 0;
        for (int guest = 0; guest < 16; guest++) {
            sum += x.guestOf(guest, 6);
        }
        Due.is("count(4)", x.count(4), sum);
        Due.is("the first guest counts", x.guestOf(0, 6), 41);
        Due.is("the last guest counts", x.guestOf(15, 6), 21);
        Due.is("one who stands counts", x.guestOf(14, 6), 0);
    }

    private static void seatsThatAreTaken() {
        SupperSeats x = Given.supper("3838", "A2 B1 C2 D1", "0@0a 1@1h 2@3g");
        int[] due = {-1, 1, 0, -1};
        for (int table = 0; table < 4; table++) {
            Due.is("points at " + table, x.tableOf(table, 3), due[table]);
        }
        Due.is("count(5)", x.count(5), -1);
    }

    private static void twoSeatsThatAreTaken() {
        SupperSeats x = Given.supper("88", "A1 B1 C1", "0@0b 1@0f 2@1b");
        x.wish(0, 1);
        Due.is("from the lower seat", x.tableOf(0, 3), 7);
        x.wish(0, -1);
        x.wish(1, 0);
        Due.is("from the higher seat", x.tableOf(0, 3), 7);
        x.wish(0, 1);
        Due.is("in both directions", x.tableOf(0, 3), 12);
        x.wish(2, 1);
        Due.is("between two tables", x.count(5), 13);
        x.sit(1, 0, 0);
        Due.is("side by side", x.tableOf(0, 3), 18);
    }

    private static void bothWaysAgree() {
        SupperSeats x = crowd();
        int sum = 0;
        for (int table = 0; table < 4; table++) {
            sum += x.tableOf(table, 3);
        }
        Due.is("count(5)", x.count(5), sum);
        Due.is("count(4)", x.count(4), sum);
        x.set(1, 0);
        x.set(2, 0);
        x.set(3, 9);
        Due.is("below 0, by guests", x.count(4), -66);
        Due.is("below 0, by tables", x.count(5), -66);
    }

    /** 15 of 16 guests at four tables, with wishes all around and nine guests of size 2 at legs. */
    private static SupperSeats crowd() {
        SupperSeats x = Given.supper("8743", "A2 B2 C2 D2 E2 F2 A2 B2 C2 D1 E1 F1 A1 B1 C1 D1",
            "0@0a 1@0d 2@0g 9@0h 3@1a 4@1d 5@1g 10@1b 6@2a 7@2d 11@2b 8@3a 12@3b 13@3c 15@2c");
        Given.wish(x, "0>9 9>0 3>10 4>10 5>3 6>7 7>15 15>6 8>12 12>13 13>0 14>0");
        x.set(1, 20);
        x.set(2, 20);
        x.set(3, 0);
        return x;
    }
}
