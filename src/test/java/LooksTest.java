/** The promises 20 to 26. */
public final class LooksTest {
    private LooksTest() {
    }

    public static void main(String[] args) {
        guestOf();
        guestOfWish();
        guestOfWrong();
        tableOf();
        tableOfWrong();
        who();
        seated();
        feudAt();
        count();
        whyNot();
        whyNotOrder();
        whyNotWrong();
        Due.end("LooksTest");
    }

    private static void numbersOf(SupperSeats x, int guest, int... want) {
        for (int what = 0; what < want.length; what++) {
            Due.is("guestOf(" + guest + ", " + what + ")", x.guestOf(guest, what), want[what]);
        }
    }

    // Promise 20

    private static void guestOf() {
        SupperSeats x = new SupperSeats();
        x.table(3);
        x.table(5);
        x.guest(4, 2);
        x.guest(2, 1);
        x.guest(5, 3);
        numbersOf(x, 0, 4, 2, -1, -1, -1, 0, 0);
        x.wish(0, 1);
        x.wish(1, 2);
        x.sit(0, 1, 0);
        numbersOf(x, 0, 4, 2, 1, 1, 0, 0, -1);
        x.sit(1, 1, 4);
        numbersOf(x, 0, 4, 2, 1, 1, 0, 2, 7);
        numbersOf(x, 1, 2, 1, 2, 1, 4, 0, 1);
        x.sit(2, 0, 1);
        numbersOf(x, 1, 2, 1, 2, 1, 4, 0, 1);
        x.sit(2, 1, 1);
        numbersOf(x, 1, 2, 1, 2, 1, 4, 1, 6);
        numbersOf(x, 2, 5, 3, -1, 1, 1, 0, 1);
        x.set(3, 0);
        x.set(1, 11);
        x.set(2, 4);
        numbersOf(x, 0, 4, 2, 1, 1, 0, 2, 16);
        x.rise(1);
        numbersOf(x, 1, 2, 1, 2, -1, -1, 0, 0);
        numbersOf(x, 0, 4, 2, 1, 1, 0, 0, 1);
    }

    private static void guestOfWish() {
        SupperSeats x = new SupperSeats();
        x.table(8);
        x.guest(0, 1);
        x.guest(1, 1);
        x.wish(0, 1);
        x.sit(0, 0, 3);
        int[] due = {1, 1, 2, 0, 2, 1, 1, 1};
        for (int seat = 0; seat < 8; seat++) {
            if (seat != 3) {
                x.sit(1, 0, seat);
                Due.is("side by side with 3: " + seat, x.guestOf(0, 5), due[seat]);
            }
        }
        x.sit(0, 0, 0);
        Due.is("0 and 7", x.guestOf(0, 5), 2);
        x.sit(1, 0, 6);
        Due.is("0 and 6", x.guestOf(0, 5), 1);
    }

    private static void guestOfWrong() {
        SupperSeats x = new SupperSeats();
        Due.fails(x, "guestOf(0, 0)", Due.INDEX, () -> x.guestOf(0, 0));
        x.guest(0, 1);
        Due.fails(x, "guestOf(-1, 0)", Due.INDEX, () -> x.guestOf(-1, 0));
        Due.fails(x, "guestOf(1, 0)", Due.INDEX, () -> x.guestOf(1, 0));
        Due.fails(x, "guestOf(1, 7)", Due.INDEX, () -> x.guestOf(1, 7));
        Due.fails(x, "guestOf(0, 7)", Due.ARGUMENT, () -> x.guestOf(0, 7));
        Due.fails(x, "guestOf(0, -1)", Due.ARGUMENT, () -> x.guestOf(0, -1));
    }

    // Promise 21

    private static void tableOf() {
        SupperSeats x = new SupperSeats();
        int[] easy = {2, 2, 3, 4, 4, 5};
        for (int seats = 3; seats <= 8; seats++) {
            SupperSeats y = new SupperSeats();
            y.table(seats);
            Due.is("easy seats of " + seats, y.tableOf(0, 4), easy[seats - 3]);
        }
        x.table(8);
        x.table(4);
        x.guest(0, 1);
        x.guest(5, 2);
        x.guest(0, 1);
        x.guest(3, 1);
        x.wish(0, 1);
        x.wish(1, 2);
        x.wish(3, 0);
        x.sit(0, 0, 1);
        x.sit(1, 0, 0);
        x.sit(2, 0, 6);
        x.sit(3, 1, 2);
        // Table 0: 1 + 8 for guest 0, 1 - 2 + 5 for guest 1, 1 for guest 2.
        int[][] want = {{8, 3, 33, 14, 4}, {4, 1, 8, 1, 1}};
        for (int table = 0; table < 2; table++) {
            for (int what = 0; what < 5; what++) {
                Due.is("tableOf(" + table + ", " + what + ")", x.tableOf(table, what), want[table][what]);
            }
        }
        x.rise(3);
        Due.is("nobody", x.tableOf(1, 1), 0);
        Due.is("no family", x.tableOf(1, 2), 0);
        Due.is("no points", x.tableOf(1, 3), 0);
    }

    private static void tableOfWrong() {
        SupperSeats x = new SupperSeats();
        x.table(3);
        Due.fails(x, "tableOf(1, 0)", Due.INDEX, () -> x.tableOf(1, 0));
        Due.fails(x, "tableOf(-1, 0)", Due.INDEX, () -> x.tableOf(-1, 0));
        Due.fails(x, "tableOf(1, 5)", Due.INDEX, () -> x.tableOf(1, 5));
        Due.fails(x, "tableOf(0, 5)", Due.ARGUMENT, () -> x.tableOf(0, 5));
        Due.fails(x, "tableOf(0, -1)", Due.ARGUMENT, () -> x.tableOf(0, -1));
    }

    // Promise 22

    private static void who() {
        SupperSeats x = new SupperSeats();
        x.table(3);
        x.table(8);
        x.guest(0, 1);
        x.guest(1, 1);
        x.sit(1, 1, 7);
        x.sit(0, 0, 2);
        Due.is("who", x.who(1, 7), 1);
        Due.is("who", x.who(0, 2), 0);
        Due.is("who", x.who(1, 2), -1);
        Due.fails(x, "who(0, 3)", Due.INDEX, () -> x.who(0, 3));
        Due.fails(x, "who(0, -1)", Due.INDEX, () -> x.who(0, -1));
        Due.fails(x, "who(1, 8)", Due.INDEX, () -> x.who(1, 8));
        Due.fails(x, "who(2, 0)", Due.INDEX, () -> x.who(2, 0));
        Due.fails(x, "who(-1, 0)", Due.INDEX, () -> x.who(-1, 0));
    }

    // Promises 23 and 24

    private static void seated() {
        SupperSeats x = new SupperSeats();
        x.table(8);
        for (int guest = 0; guest < 5; guest++) {
            x.guest(guest, 1);
        }
        for (int guest = 4; guest >= 0; guest--) {
            x.sit(guest, 0, guest);
        }
        x.rise(2);
        x.sit(4, 0, 5);
        x.sit(2, 0, 2);
        int[] order = {3, 1, 0, 4, 2, -1};
        for (int place = 0; place < order.length; place++) {
            Due.is("seated(" + place + ")", x.seated(place), order[place]);
        }
        Due.is("seated(MAX)", x.seated(Integer.MAX_VALUE), -1);
        Due.fails(x, "seated(-1)", Due.ARGUMENT, () -> x.seated(-1));
    }

    private static void feudAt() {
        SupperSeats x = new SupperSeats();
        x.feud(4, 2);
        x.feud(0, 5);
        Due.is("feudAt(0)", x.feudAt(0), 16);
        Due.is("feudAt(1)", x.feudAt(1), 5);
        Due.is("feudAt(2)", x.feudAt(2), -1);
        Due.is("feudAt(MAX)", x.feudAt(Integer.MAX_VALUE), -1);
        Due.fails(x, "feudAt(-1)", Due.ARGUMENT, () -> x.feudAt(-1));
    }

    // Promise 25

    private static void count() {
        SupperSeats x = new SupperSeats();
        x.table(8);
        x.table(3);
        for (int guest = 0; guest < 5; guest++) {
            x.guest(guest, 2);
        }
        x.feud(0, 1);
        x.feud(4, 5);
        x.wish(0, 2);
        x.wish(2, 0);
        x.wish(3, 0);
        x.sit(0, 0, 0);
        x.sit(2, 0, 7);
        x.sit(3, 0, 5);
        x.sit(1, 1, 1);
        x.sit(1, 1, 2);
        x.rise(1);
        x.set(0, 8);
        x.set(1, 4);
        x.set(2, 2);
        x.set(3, 9);
        // Guest 0: 1 - 9 + 6, guest 2: 1 + 6, guest 3: 1 + 4.
        int[] want = {5, 2, 2, 3, 10, 10, 3, 5, 2, 8, 4, 2, 9, 6};
        for (int what = 0; what < want.length; what++) {
            Due.is("count(" + what + ")", x.count(what), want[what]);
        }
        Due.fails(x, "count(14)", Due.ARGUMENT, () -> x.count(14));
        Due.fails(x, "count(-1)", Due.ARGUMENT, () -> x.count(-1));
        Due.fails(x, "count(MIN)", Due.ARGUMENT, () -> x.count(Integer.MIN_VALUE));
    }

    // Promise 26

    private static void whyNot() {
        SupperSeats x = new SupperSeats();
        x.table(8);
        x.table(3);
        for (int guest = 0; guest < 4; guest++) {
            x.guest(0, 1);
        }
        x.guest(1, 3);
        x.guest(2, 2);
        x.feud(2, 0);
        x.sit(0, 0, 0);
        x.sit(1, 0, 1);
        x.sit(4, 0, 2);
        Due.is("one's own seat", x.whyNot(0, 0, 0), 1);
        Due.is("another one's", x.whyNot(2, 0, 0), 2);
        Due.is("knees at a leg", x.whyNot(4, 0, 3), 3);
        Due.is("knees at a leg", x.whyNot(4, 0, 6), 3);
        Due.is("knees at a leg", x.whyNot(4, 1, 0), 3);
        Due.is("knees at no leg", x.whyNot(4, 0, 7), 0);
        Due.is("size 2 at a leg", x.whyNot(5, 1, 0), 0);
        Due.is("a foe", x.whyNot(5, 0, 4), 4);
        Due.is("the third of the family", x.whyNot(2, 0, 4), 0);
        x.sit(2, 0, 4);
        Due.is("the fourth of the family", x.whyNot(3, 0, 5), 5);
        Due.is("one of the three", x.whyNot(2, 0, 5), 0);
        x.set(0, 1);
        Due.is("one of the three, where one may", x.whyNot(2, 0, 5), 5);
        Due.is("elsewhere", x.whyNot(2, 1, 0), 0);
    }

    private static void whyNotOrder() {
        SupperSeats x = new SupperSeats();
        x.table(8);
        x.guest(0, 3);
        x.guest(0, 1);
        x.guest(1, 1);
        x.set(0, 1);
        x.sit(1, 0, 0);
        Due.is("5 alone", x.whyNot(0, 0, 1), 5);
        Due.is("3 before 5", x.whyNot(0, 0, 3), 3);
        Due.is("2 before 3 and 5", x.whyNot(0, 0, 0), 2);
        x.sit(2, 0, 1);
        x.set(0, 2);
        x.feud(0, 1);
        x.rise(1);
        x.sit(2, 0, 1);
        Due.is("4 alone", x.whyNot(0, 0, 2), 4);
        Due.is("3 before 4", x.whyNot(0, 0, 3), 3);
        Due.is("2 before 4", x.whyNot(0, 0, 1), 2);
    }

    private static void whyNotWrong() {
        SupperSeats x = new SupperSeats();
        x.table(3);
        x.guest(0, 1);
        Due.fails(x, "whyNot(1, 0, 0)", Due.INDEX, () -> x.whyNot(1, 0, 0));
        Due.fails(x, "whyNot(-1, 0, 0)", Due.INDEX, () -> x.whyNot(-1, 0, 0));
        Due.fails(x, "whyNot(0, 1, 0)", Due.INDEX, () -> x.whyNot(0, 1, 0));
        Due.fails(x, "whyNot(0, -1, 0)", Due.INDEX, () -> x.whyNot(0, -1, 0));
        Due.fails(x, "whyNot(0, 0, 3)", Due.INDEX, () -> x.whyNot(0, 0, 3));
        Due.fails(x, "whyNot(0, 0, -1)", Due.INDEX, () -> x.whyNot(0, 0, -1));
    }
}
