/** The promises 8 to 11. */
public final class SeatsTest {
    private SeatsTest() {
    }

    public static void main(String[] args) {
        sit();
        sitAnew();
        sitWrong();
        pointsOfSitting();
        rise();
        swap();
        swapWithinRules();
        swapWrong();
        seatAll();
        seatAllPrefers();
        seatAllLeaves();
        Due.end("SeatsTest");
    }

    /** Guests of these families and sizes, two digits each. */
    private static SupperSeats withGuests(int... guests) {
        SupperSeats x = new SupperSeats();
        for (int guest : guests) {
            x.guest(guest / 10, guest % 10);
        }
        return x;
    }

    // Promise 8

    private static void sit() {
        SupperSeats x = withGuests(1, 11, 22);
        x.table(4);
        x.wish(0, 1);
        Due.is("sit", x.sit(0, 0, 0), 1);
        Due.is("sit beside, around the table", x.sit(1, 0, 3), 10);
        Due.is("sit with knees at no leg", x.sit(2, 0, 1), 11);
        Due.is("who", x.who(0, 0), 0);
        Due.is("who", x.who(0, 3), 1);
        Due.is("sat down", x.count(7), 3);
        Due.is("stood up", x.count(8), 0);
        Due.is("saved", x.count(13), 6);
        x.undo();
        Due.is("undone", x.who(0, 1), -1);
        Due.is("undone: sat down", x.count(7), 2);
    }

    private static void sitAnew() {
        SupperSeats x = withGuests(1, 11, 21);
        x.table(5);
        x.table(3);
        x.sit(0, 0, 0);
        x.sit(1, 0, 1);
        x.sit(2, 0, 2);
        Due.is("sit at another table", x.sit(0, 1, 2), 3);
        Due.is("the seat left", x.who(0, 0), -1);
        Due.is("the seat taken", x.who(1, 2), 0);
        Due.is("sat down", x.count(7), 4);
        Due.is("stood up", x.count(8), 1);
        Due.is("seated(0)", x.seated(0), 1);
        Due.is("seated(1)", x.seated(1), 2);
        Due.is("seated(2)", x.seated(2), 0);
        Due.is("seated(3)", x.seated(3), -1);
        Due.is("sit at the same table", x.sit(1, 0, 4), 3);
        Due.is("the seat left", x.who(0, 1), -1);
        Due.is("seated(0)", x.seated(0), 2);
        Due.is("seated(2)", x.seated(2), 1);
    }

    private static void sitWrong() {
        SupperSeats x = withGuests(1, 13, 11, 1, 1, 1, 21);
        x.table(8);
        x.table(3);
        Due.fails(x, "sit(7, 0, 0)", Due.INDEX, () -> x.sit(7, 0, 0));
        Due.fails(x, "sit(-1, 0, 0)", Due.INDEX, () -> x.sit(-1, 0, 0));
        Due.fails(x, "sit(0, 2, 0)", Due.INDEX, () -> x.sit(0, 2, 0));
        Due.fails(x, "sit(0, -1, 0)", Due.INDEX, () -> x.sit(0, -1, 0));
        Due.fails(x, "sit(0, 0, 8)", Due.INDEX, () -> x.sit(0, 0, 8));
        Due.fails(x, "sit(0, 1, 3)", Due.INDEX, () -> x.sit(0, 1, 3));
        Due.fails(x, "sit(0, 0, -1)", Due.INDEX, () -> x.sit(0, 0, -1));
        Due.fails(x, "sit(MAX, MAX, MAX)", Due.INDEX,
            () -> x.sit(Integer.MAX_VALUE, Integer.MAX_VALUE, Integer.MAX_VALUE));
        x.sit(0, 0, 1);
        Due.fails(x, "one's own seat", Due.STATE, () -> x.sit(0, 0, 1));
        Due.fails(x, "another one's seat", Due.STATE, () -> x.sit(2, 0, 1));
        Due.fails(x, "knees at a leg", Due.STATE, () -> x.sit(1, 0, 0));
        Due.fails(x, "knees at a leg", Due.STATE, () -> x.sit(1, 0, 3));
        Due.fails(x, "knees at a leg", Due.STATE, () -> x.sit(1, 0, 6));
        Due.is("knees at no leg", x.sit(1, 1, 1), 2);
        x.feud(0, 1);
        Due.fails(x, "a feud", Due.STATE, () -> x.sit(2, 0, 2));
        x.sit(3, 0, 2);
        x.sit(4, 0, 3);
        Due.fails(x, "too many kin", Due.STATE, () -> x.sit(5, 0, 4));
        Due.is("the third of them may move", x.sit(4, 0, 4), 4);
    }

    private static void pointsOfSitting() {
        SupperSeats x = withGuests(2, 12, 22);
        x.table(8);
        Due.is("size 2 at a leg", x.sit(0, 0, 0), -1);
        Due.is("size 2 at a leg", x.sit(1, 0, 3), -2);
        Due.is("size 2 at a leg", x.sit(2, 0, 6), -3);
        x.set(3, 9);
        Due.is("points", x.count(4), -24);
        Due.is("size 2 at no leg", x.sit(0, 0, 7), -15);
        x.set(3, 0);
        Due.is("points", x.count(4), 3);
        x.wish(0, 2);
        x.wish(2, 0);
        Due.is("side by side, both ways", x.count(4), 19);
        Due.is("at one table", x.sit(0, 0, 4), 13);
        x.set(1, 20);
        x.set(2, 19);
        Due.is("at one table", x.count(4), 43);
        Due.is("side by side", x.sit(0, 0, 5), 81);
    }

    // Promise 9

    private static void rise() {
        SupperSeats x = withGuests(1, 11, 21);
        x.table(3);
        x.wish(0, 1);
        x.wish(2, 0);
        x.sit(0, 0, 0);
        x.sit(1, 0, 1);
        x.sit(2, 0, 2);
        Due.is("points", x.count(4), 19);
        Due.is("rise", x.rise(1), 10);
        Due.is("who", x.who(0, 1), -1);
        Due.is("stood up", x.count(8), 1);
        Due.is("seated(1)", x.seated(1), 2);
        Due.is("rise", x.rise(0), 1);
        Due.fails(x, "rise of who stands", Due.STATE, () -> x.rise(0));
        Due.fails(x, "rise(3)", Due.INDEX, () -> x.rise(3));
        Due.fails(x, "rise(-1)", Due.INDEX, () -> x.rise(-1));
        Due.is("saved", x.count(13), 6);
        x.undo();
        Due.is("undone", x.guestOf(0, 3), 0);
        Due.is("undone: stood up", x.count(8), 1);
        Due.is("rise", x.rise(2), 1);
        Due.is("rise of the last", x.rise(0), 0);
    }

    // Promise 10

    private static void swap() {
        SupperSeats x = withGuests(1, 12, 21);
        x.table(4);
        x.table(5);
        x.sit(0, 0, 0);
        x.sit(1, 1, 4);
        x.sit(2, 0, 1);
        Due.is("swap", x.swap(0, 1), 1);
        Due.is("the first one's seat", x.who(1, 4), 0);
        Due.is("the other one's seat", x.who(0, 0), 1);
        Due.is("sat down", x.count(7), 5);
        Due.is("stood up", x.count(8), 2);
        int[] order = {2, 0, 1, -1};
        for (int place = 0; place < 4; place++) {
            Due.is("seated(" + place + ")", x.seated(place), order[place]);
        }
        Due.is("swap back, from the other side", x.swap(1, 0), 3);
        Due.is("seated(1)", x.seated(1), 1);
        Due.is("seated(2)", x.seated(2), 0);
        x.undo();
        Due.is("undone", x.who(0, 0), 1);
        Due.is("undone: stood up", x.count(8), 2);
        Due.is("swap at one table", x.swap(1, 2), 3);
        Due.is("who", x.who(0, 0), 2);
    }

    private static void swapWithinRules() {
        SupperSeats x = withGuests(1, 11, 11, 1, 13, 21);
        x.table(4);
        x.table(4);
        x.feud(0, 1);
        x.sit(0, 0, 0);
        x.sit(1, 1, 0);
        Due.is("foes who both leave", x.swap(0, 1), 2);
        x.sit(2, 0, 1);
        Due.fails(x, "the first one meets a foe", Due.STATE, () -> x.swap(0, 1));
        Due.fails(x, "the second one meets a foe", Due.STATE, () -> x.swap(1, 0));
        x.peace(0, 1);
        x.set(0, 1);
        Due.fails(x, "both of a family that may have only one", Due.STATE, () -> x.swap(1, 2));
        x.set(0, 2);
        Due.is("both of a family that may have two", x.swap(1, 2), 3);
        x.rise(2);
        x.sit(4, 0, 2);
        x.sit(5, 1, 3);
        Due.fails(x, "the first one's knees at a leg", Due.STATE, () -> x.swap(4, 5));
        Due.fails(x, "the second one's knees at a leg", Due.STATE, () -> x.swap(5, 4));
        x.sit(5, 1, 1);
        Due.is("knees at no leg", x.swap(4, 5), 4);
    }

    private static void swapWrong() {
        SupperSeats x = withGuests(1, 11, 21);
        x.table(4);
        x.sit(0, 0, 0);
        Due.fails(x, "swap(0, 3)", Due.INDEX, () -> x.swap(0, 3));
        Due.fails(x, "swap(3, 0)", Due.INDEX, () -> x.swap(3, 0));
        Due.fails(x, "swap(-1, 0)", Due.INDEX, () -> x.swap(-1, 0));
        Due.fails(x, "swap(3, 3)", Due.INDEX, () -> x.swap(3, 3));
        Due.fails(x, "swap(0, 0)", Due.ARGUMENT, () -> x.swap(0, 0));
        Due.fails(x, "swap(1, 1)", Due.ARGUMENT, () -> x.swap(1, 1));
        Due.fails(x, "the other one stands", Due.STATE, () -> x.swap(0, 1));
        Due.fails(x, "the first one stands", Due.STATE, () -> x.swap(1, 0));
        Due.fails(x, "both stand", Due.STATE, () -> x.swap(1, 2));
    }

    // Promise 11

    private static void seatAll() {
        SupperSeats x = withGuests(1, 13, 22, 1);
        Due.is("without a table", x.seatAll(), 4);
        x.table(4);
        x.sit(3, 0, 0);
        Due.is("seatAll", x.seatAll(), 0);
        Due.is("who sat stays", x.who(0, 0), 3);
        Due.is("the lowest seat", x.who(0, 1), 0);
        Due.is("no leg", x.who(0, 2), 1);
        Due.is("a leg, though it is a point less", x.who(0, 3), 2);
        Due.is("seated(1)", x.seated(1), 0);
        Due.is("seated(3)", x.seated(3), 2);
        Due.is("points", x.count(4), 2);
        Due.is("sat down", x.count(7), 4);
    }

    private static void seatAllPrefers() {
        SupperSeats x = withGuests(1, 12, 21, 31);
        x.table(8);
        x.table(8);
        x.sit(0, 1, 2);
        x.wish(1, 0);
        x.wish(0, 2);
        Due.is("seatAll", x.seatAll(), 0);
        Due.is("beside the friend, at no leg", x.who(1, 1), 1);
        Due.is("beside who wishes it", x.who(1, 3), 2);
        Due.is("the lowest table", x.who(0, 0), 3);
        Due.is("saved", x.count(13), 6);
        x.undo();
        Due.is("undone, as one call", x.count(3), 1);
        Due.is("undone: sat down", x.count(7), 1);
    }

    private static void seatAllLeaves() {
        SupperSeats x = withGuests(1, 1, 1, 11, 13);
        x.table(4);
        x.set(0, 2);
        x.feud(0, 1);
        Due.is("kin and foes stay standing", x.seatAll(), 3);
        Due.isText("the table", Due.told(x, 0), "A|A..|");
        Due.is("saved", x.count(13), 6);
        Due.is("seatAll, where nothing changes", x.seatAll(), 3);
        x.undo();
        Due.is("undone: the same", x.count(3), 2);
        x.undo();
        Due.is("undone", x.count(3), 0);
    }
}
