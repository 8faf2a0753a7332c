/** The promises 27 to 32. */
public final class WhatWouldBeTest {
    private WhatWouldBeTest() {
    }

    public static void main(String[] args) {
        ifSat();
        ifSatWrong();
        bestSeat();
        bestSeatOfWhoSits();
        bestSeatNone();
        ifFeud();
        ifFeudWrong();
        ifSeated();
        met();
        digestOfNothing();
        digestOfShares();
        digestOfFeuds();
        digestTellsApart();
        Due.end("WhatWouldBeTest");
    }

    private static SupperSeats withGuests(int count) {
        SupperSeats x = new SupperSeats();
        for (int guest = 0; guest < count; guest++) {
            x.guest(guest % 6, 1);
        }
        return x;
    }

    // Promise 27

    private static void ifSat() {
        SupperSeats x = new SupperSeats();
        x.guest(0, 1);
        x.guest(1, 2);
        x.guest(2, 3);
        x.table(5);
        x.wish(0, 1);
        x.wish(1, 0);
        x.sit(0, 0, 1);
        long before = x.digest();
        Due.is("at a leg, beside", x.ifSat(1, 0, 0), 1000 + 1 + 1 - 2 + 16);
        Due.is("at no leg, beside", x.ifSat(1, 0, 2), 1018);
        Due.is("at a leg, not beside", x.ifSat(1, 0, 3), 1010);
        Due.is("taken", x.ifSat(1, 0, 1), -1);
        Due.is("knees at a leg", x.ifSat(2, 0, 0), -1);
        Due.is("one's own seat", x.ifSat(0, 0, 1), -1);
        Due.is("nothing is changed", x.digest(), before);
        x.sit(1, 0, 2);
        Due.is("from another seat", x.ifSat(1, 0, 4), 1012);
        Due.is("from another seat", x.ifSat(0, 0, 3), 1018);
        x.rise(0);
        x.set(3, 9);
        Due.is("points below 0", x.ifSat(1, 0, 0), 992);
        x.feud(0, 1);
        Due.is("a foe", x.ifSat(0, 0, 4), -1);
    }

    private static void ifSatWrong() {
        SupperSeats x = withGuests(1);
        x.table(3);
        Due.fails(x, "ifSat(1, 0, 0)", Due.INDEX, () -> x.ifSat(1, 0, 0));
        Due.fails(x, "ifSat(-1, 0, 0)", Due.INDEX, () -> x.ifSat(-1, 0, 0));
        Due.fails(x, "ifSat(0, 1, 0)", Due.INDEX, () -> x.ifSat(0, 1, 0));
        Due.fails(x, "ifSat(0, -1, 0)", Due.INDEX, () -> x.ifSat(0, -1, 0));
        Due.fails(x, "ifSat(0, 0, 3)", Due.INDEX, () -> x.ifSat(0, 0, 3));
        Due.fails(x, "ifSat(0, 0, -1)", Due.INDEX, () -> x.ifSat(0, 0, -1));
    }

    // Promise 28

    private static void bestSeat() {
        SupperSeats x = new SupperSeats();
        x.guest(0, 2);
        x.guest(1, 1);
        x.guest(2, 1);
        x.guest(3, 3);
        Due.is("without a table", x.bestSeat(0), -1);
        x.table(4);
        x.table(6);
        x.table(8);
        Due.is("the lowest one at no leg", x.bestSeat(0), 1);
        Due.is("the lowest one", x.bestSeat(1), 0);
        Due.is("knees at no leg", x.bestSeat(3), 1);
        x.sit(1, 2, 6);
        x.wish(0, 1);
        Due.is("beside the friend", x.bestSeat(0), 21);
        x.wish(0, -1);
        x.wish(1, 0);
        Due.is("beside who wishes it", x.bestSeat(0), 21);
        x.sit(2, 1, 2);
        x.wish(0, 2);
        Due.is("of several tables the lowest one", x.bestSeat(0), 9);
        x.set(1, 0);
        x.set(2, 0);
        Due.is("nothing to gain", x.bestSeat(0), 1);
        x.set(3, 0);
        Due.is("no loss at a leg", x.bestSeat(0), 0);
    }

    private static void bestSeatOfWhoSits() {
        SupperSeats x = withGuests(3);
        x.table(8);
        x.table(3);
        x.wish(0, 1);
        x.wish(1, 2);
        x.sit(1, 0, 1);
        x.sit(0, 0, 0);
        Due.is("not the one of now", x.bestSeat(0), 2);
        Due.is("the other side", x.bestSeat(1), 7);
        x.sit(2, 1, 1);
        Due.is("two wishes of one worth: the lower table", x.bestSeat(1), 7);
        x.wish(2, 1);
        Due.is("more worth at the other table", x.bestSeat(1), 8);
        Due.is("who stays alone", x.bestSeat(2), 2);
        Due.fails(x, "bestSeat(3)", Due.INDEX, () -> x.bestSeat(3));
        Due.fails(x, "bestSeat(-1)", Due.INDEX, () -> x.bestSeat(-1));
    }

    private static void bestSeatNone() {
        SupperSeats x = new SupperSeats();
        x.guest(0, 1);
        x.guest(1, 3);
        x.guest(0, 1);
        x.guest(2, 1);
        x.table(3);
        x.set(0, 1);
        x.sit(0, 0, 1);
        Due.is("knees at no leg", x.bestSeat(1), 2);
        Due.is("kin", x.bestSeat(2), -1);
        x.sit(3, 0, 2);
        Due.is("knees at a leg alone", x.bestSeat(1), -1);
        x.feud(0, 2);
        Due.is("a foe", x.bestSeat(3), -1);
    }

    // Promise 29

    private static void ifFeud() {
        SupperSeats x = new SupperSeats();
        x.table(8);
        x.table(8);
        for (int guest = 0; guest < 6; guest++) {
            x.guest(guest % 2 * 4, 1);
        }
        x.guest(1, 1);
        x.sit(0, 0, 0);
        x.sit(2, 0, 1);
        x.sit(1, 0, 2);
        x.sit(3, 1, 0);
        Due.is("fewer at one table", x.ifFeud(0, 4), 1);
        x.sit(4, 1, 1);
        Due.is("as many at the other one", x.ifFeud(4, 0), 2);
        x.sit(5, 0, 3);
        Due.is("as many at both", x.ifFeud(0, 4), 3);
        Due.is("who do not meet", x.ifFeud(1, 4), 0);
        Due.is("nobody stands up", x.count(3), 6);
        Due.is("no feud", x.count(2), 0);
        int[][] feuds = {{0, 1}, {1, 2}, {1, 3}, {1, 4}, {1, 5}, {2, 3}, {2, 5}, {3, 5}};
        for (int[] feud : feuds) {
            x.feud(feud[0], feud[1]);
        }
        Due.is("though there are 8", x.ifFeud(0, 4), 3);
        Due.is("a feud that is", x.ifFeud(1, 0), 0);
        x.peace(0, 1);
        Due.is("feud", x.feud(0, 4), 3);
        Due.is("a feud that is", x.ifFeud(4, 0), 0);
    }

    private static void ifFeudWrong() {
        SupperSeats x = new SupperSeats();
        Due.fails(x, "ifFeud(0, 0)", Due.ARGUMENT, () -> x.ifFeud(0, 0));
        Due.fails(x, "ifFeud(-1, 0)", Due.ARGUMENT, () -> x.ifFeud(-1, 0));
        Due.fails(x, "ifFeud(0, -1)", Due.ARGUMENT, () -> x.ifFeud(0, -1));
        Due.fails(x, "ifFeud(6, 0)", Due.ARGUMENT, () -> x.ifFeud(6, 0));
        Due.fails(x, "ifFeud(0, 6)", Due.ARGUMENT, () -> x.ifFeud(0, 6));
        Due.is("ifFeud(0, 5)", x.ifFeud(0, 5), 0);
    }

    // Promise 30

    private static void ifSeated() {
        SupperSeats x = new SupperSeats();
        Due.is("without guests", x.ifSeated(0), 0);
        Due.is("without guests", x.ifSeated(1), 1000);
        x.guest(0, 1);
        x.guest(1, 2);
        x.guest(2, 3);
        x.guest(3, 3);
        Due.is("without a table", x.ifSeated(0), 4);
        x.table(3);
        x.wish(1, 0);
        long before = x.digest();
        Due.is("who would stay standing", x.ifSeated(0), 1);
        Due.is("the points", x.ifSeated(1), 1011);
        Due.is("nothing is changed", x.digest(), before);
        Due.is("nobody sits", x.count(3), 0);
        Due.is("saved", x.count(13), 6);
        x.set(1, 0);
        x.set(2, 0);
        x.set(3, 9);
        x.sit(1, 0, 0);
        x.rise(1);
        x.sit(2, 0, 1);
        x.sit(3, 0, 2);
        x.feud(0, 2);
        Due.is("points below 0", x.ifSeated(1), 994);
        Due.is("the same by seatAll", x.seatAll(), 1);
        Due.is("the points of it", x.count(4), -6);
        Due.fails(x, "ifSeated(2)", Due.ARGUMENT, () -> x.ifSeated(2));
        Due.fails(x, "ifSeated(-1)", Due.ARGUMENT, () -> x.ifSeated(-1));
    }

    // Promise 31

    private static void met() {
        SupperSeats x = withGuests(4);
        Due.isShare("no wishes", x.met(), 1.0);
        x.table(8);
        x.wish(0, 1);
        Due.isShare("none of one", x.met(), 0.0);
        x.wish(1, 2);
        x.wish(2, 0);
        x.sit(0, 0, 0);
        x.sit(1, 0, 4);
        Due.isShare("one of three", x.met(), 1.0 / 3.0);
        x.sit(2, 0, 1);
        Due.isShare("three of three", x.met(), 1.0);
        x.wish(3, 0);
        Due.isShare("three of four", x.met(), 0.75);
        x.wish(2, -1);
        Due.isShare("two of three", x.met(), 2.0 / 3.0);
    }

    // Promise 32

    private static void digestOfNothing() {
        SupperSeats x = new SupperSeats();
        long hash = 3719;
        long[] values = {0, 0, 0, 0, 0, 0, 0, 0, 0, 3, 5, 3, 2, 0, 0, 0, 0, 1000, Double.doubleToLongBits(1.0), 0};
        for (long value : values) {
            hash = 31 * hash + value;
        }
        Due.is("digest of a new object", x.digest(), hash);
        x.append('~');
        x.append('!');
        hash = 3719;
        values[values.length - 1] = 2;
        for (long value : values) {
            hash = 31 * hash + value;
        }
        hash = 31 * (31 * hash + '~') + '!';
        Due.is("digest with a buffer", x.digest(), hash);
        SupperSeats y = new SupperSeats();
        y.table(3);
        hash = 3719;
        long[] more = {0, 1, 0, 0, 0, 0, 0, 0, 0, 3, 5, 3, 2, 1, 3, 0, 0, 0, 2, -1, -1, -1, '.', '|', '.', '.', 0, 0, 0,
            1000, Double.doubleToLongBits(1.0), 0};
        for (long value : more) {
            hash = 31 * hash + value;
        }
        Due.is("digest with a table", y.digest(), hash);
    }

    /** All shares that there can be, by the reference's digest, which asks Java for the bits. */
    private static void digestOfShares() {
        for (int wishes = 1; wishes <= 16; wishes++) {
            for (int met = 0; met <= wishes; met++) {
                SupperSeats x = new SupperSeats();
                Reference r = new Reference();
                x.table(8);
                r.table(8);
                x.table(8);
                r.table(8);
                for (int guest = 0; guest < 16; guest++) {
                    x.guest(guest % 6, 1);
                    r.guest(guest % 6, 1);
                }
                for (int guest = 0; guest < wishes; guest++) {
                    int friend = guest < met ? guest ^ 1 : guest < 8 ? 15 : 0;
                    x.wish(guest, friend);
                    r.wish(guest, friend);
                }
                for (int guest = 0; guest < 16; guest++) {
                    x.sit(guest, guest / 8, guest % 8);
                    r.sit(guest, guest / 8, guest % 8);
                }
                Due.isShare("met", x.met(), (double) met / wishes);
                Due.is("digest with " + met + " of " + wishes, x.digest(), r.digest());
            }
        }
    }

    private static void digestOfFeuds() {
        SupperSeats x = new SupperSeats();
        Reference r = new Reference();
        x.table(8);
        r.table(8);
        for (int guest = 0; guest < 8; guest++) {
            x.guest(guest % 4, 1);
            r.guest(guest % 4, 1);
            x.sit(guest, 0, guest);
            r.sit(guest, 0, guest);
        }
        Due.is("ifFeud(0, 1)", x.ifFeud(0, 1), 2);
        Due.is("digest of feuds that would be", x.digest(), r.digest());
        x.rise(3);
        r.rise(3);
        Due.is("ifFeud(2, 3)", x.ifFeud(2, 3), 1);
        Due.is("digest of feuds that would be", x.digest(), r.digest());
        int[][] feuds = {{4, 5}, {0, 3}, {1, 0}, {3, 2}};
        for (int[] feud : feuds) {
            Due.is("feud", x.feud(feud[0], feud[1]), r.feud(feud[0], feud[1]));
            Due.is("digest of feuds", x.digest(), r.digest());
        }
    }

    private static void digestTellsApart() {
        SupperSeats x = withGuests(2);
        SupperSeats y = withGuests(2);
        Due.is("the same calls", x.digest(), y.digest());
        x.set(3, 2);
        Due.is("a saved state more", x.digest() == y.digest() ? 1 : 0, 0);
    }
}
