import java.util.Random;

/** Long runs of calls, the same ones each time, on the class and on the reference. */
public final class ReferenceTest {
    private static final String[] NAMES = {"guest", "wish", "table", "feud", "peace", "set", "sit", "rise", "swap",
        "seatAll", "append", "clearBuffer", "firstError", "seats", "told", "undo", "keep", "restore", "guestOf",
        "tableOf", "who", "seated", "feudAt", "count", "whyNot", "ifSat", "bestSeat", "ifFeud", "ifSeated", "met",
        "digest"};
    private static final int APPEND = 10;
    private static final int[] EDGES = {Integer.MIN_VALUE, Integer.MAX_VALUE, -2, -1, 16, 17, 60, 1 << 30, 31, 32, 8};
    private static final int RUNS = 600;
    private static final int CALLS = 500;

    private static final int[][] ANSWERS = new int[NAMES.length][4];

    private ReferenceTest() {
    }

    public static void main(String[] args) {
        for (int run = 0; run < RUNS; run++) {
            oneRun(run);
        }
        for (int op = 0; op < NAMES.length; op++) {
            if (ANSWERS[op][0] == 0) {
                Due.report("no run has an answer of " + NAMES[op]);
            }
        }
        if (args.length > 0) {
            for (int op = 0; op < NAMES.length; op++) {
                System.out.println(NAMES[op] + " " + java.util.Arrays.toString(ANSWERS[op]));
            }
        }
        Due.end("ReferenceTest");
    }

    private static void oneRun(int run) {
        Random random = new Random(977L * run + 5);
        SupperSeats x = new SupperSeats();
        Reference r = new Reference();
        StringBuilder told = new StringBuilder();
        String waiting = "";
        int first = run % 3 == 0 ? 0 : 30;
        for (int call = 0; call < CALLS; call++) {
            int op = call < first ? new int[] {0, 0, 2, 1}[random.nextInt(4)] : chosen(random);
            int[] a = {0, 0, 0};
            if (op == APPEND && waiting.isEmpty()) {
                waiting = text(random, run);
            }
            if (!waiting.isEmpty() && (op == APPEND || random.nextInt(3) > 0)) {
                op = APPEND;
                a[0] = waiting.charAt(0);
                waiting = waiting.substring(1);
            } else {
                arguments(random, op, a, r, run);
            }
            told.append(' ').append(NAMES[op]).append('(').append(a[0]).append(',').append(a[1]).append(',').append(a[2])
                .append(')');
            String got = answer(x, op, a);
            String want = answer(r, op, a);
            ANSWERS[op][want.startsWith("t") ? 2 : want.equals("-1") ? 1 : 0]++;
            Due.is("run " + run + " call " + call + " " + NAMES[op] + "(" + a[0] + "," + a[1] + "," + a[2] + "): got " + got
                + ", due is " + want + "; same", got.equals(want) ? 1 : 0, 1);
            if (!got.equals(want)) {
                return;
            }
        }
    }

    private static int chosen(Random random) {
        int dice = random.nextInt(100);
        if (dice < 22) {
            return 6;
        }
        if (dice < 28) {
            return new int[] {8, 8, 3, 4, 9, 13, 13, 15, 5}[random.nextInt(9)];
        }
        if (dice < 32) {
            return new int[] {1, 7, 24, 25, 26, 27, 28}[random.nextInt(7)];
        }
        if (dice < 35) {
            return 30;
        }
        return random.nextInt(NAMES.length);
    }

    private static int near(Random random, int least, int most) {
        return random.nextInt(60) == 0 ? EDGES[random.nextInt(EDGES.length)] : least + random.nextInt(most - least + 1);
    }

    private static int aGuest(Random random, Reference r) {
        return near(random, 0, Math.max(0, r.now.guests.size() - (random.nextInt(40) == 0 ? 0 : 1)));
    }

    private static int aTable(Random random, Reference r) {
        return near(random, 0, Math.max(0, r.now.tables.size() - (random.nextInt(40) == 0 ? 0 : 1)));
    }

    private static int aSeat(Random random, Reference r, int table) {
        int seats = table >= 0 && table < r.now.tables.size() ? r.now.tables.get(table) : 8;
        return near(random, 0, seats - (random.nextInt(40) == 0 ? 0 : 1));
    }

    private static void arguments(Random random, int op, int[] a, Reference r, int run) {
        int families = run % 4 == 0 ? 2 : 5;
        switch (NAMES[op]) {
            case "guest": a[0] = near(random, 0, families); a[1] = near(random, 1, 3); break;
            case "wish": a[0] = aGuest(random, r); a[1] = random.nextInt(6) == 0 ? -1 : aGuest(random, r); break;
            case "table": a[0] = near(random, random.nextInt(9) == 0 ? 2 : 3, run % 5 == 0 ? 4 : 9); break;
            case "feud":
            case "peace":
            case "ifFeud": a[0] = near(random, 0, families); a[1] = near(random, 0, families); break;
            case "set":
                a[0] = near(random, 0, 3);
                a[1] = a[0] >= 0 && a[0] < 4 ? near(random, Reference.LEAST[a[0]] - random.nextInt(2),
                    Reference.MOST[a[0]] + random.nextInt(2)) : 3;
                break;
            case "sit":
            case "whyNot":
            case "ifSat": a[0] = aGuest(random, r); a[1] = aTable(random, r); a[2] = aSeat(random, r, a[1]); break;
            case "rise":
            case "bestSeat": a[0] = aGuest(random, r); break;
            case "swap": a[0] = aGuest(random, r); a[1] = aGuest(random, r); break;
            case "told": a[0] = aTable(random, r); a[1] = near(random, 0, 12); break;
            case "guestOf": a[0] = aGuest(random, r); a[1] = near(random, 0, 6); break;
            case "tableOf": a[0] = aTable(random, r); a[1] = near(random, 0, 4); break;
            case "who": a[0] = aTable(random, r); a[1] = aSeat(random, r, a[0]); break;
            case "seated": a[0] = near(random, 0, 16); break;
            case "feudAt": a[0] = near(random, 0, 8); break;
            case "count": a[0] = near(random, 0, 13); break;
            case "ifSeated": a[0] = near(random, 0, 1); break;
            default: break;
        }
    }

    /** Some parts, now and then with a wrong character. */
    private static String text(Random random, int run) {
        StringBuilder text = new StringBuilder();
        int parts = run % 7 == 0 ? 20 : 1 + random.nextInt(4);
        for (int i = 0; i < parts; i++) {
            if (i > 0) {
                text.append(';');
            }
            if (random.nextInt(4) == 0) {
                text.append('-').append(random.nextInt(16));
            } else {
                text.append(random.nextInt(16)).append('@').append(random.nextInt(random.nextInt(3) == 0 ? 4 : 2))
                    .append((char) ('a' + random.nextInt(8)));
            }
        }
        if (random.nextInt(5) == 0) {
            String odd = "0123456789@-;abhi:`4/?!~";
            text.insert(random.nextInt(text.length() + 1), odd.charAt(random.nextInt(odd.length())));
        }
        if (random.nextInt(20) == 0) {
            text.setCharAt(random.nextInt(text.length()), random.nextBoolean() ? ' ' : (char) 127);
        }
        return text.toString();
    }

    private static String answer(SupperSeats x, int op, int[] a) {
        try {
            return made(x, NAMES[op], a[0], a[1], a[2]);
        } catch (RuntimeException e) {
            return "throws " + e.getClass().getName();
        }
    }

    private static String answer(Reference r, int op, int[] a) {
        try {
            return made(r, NAMES[op], a[0], a[1], a[2]);
        } catch (RuntimeException e) {
            return "throws " + e.getClass().getName();
        }
    }

    private static String made(SupperSeats x, String name, int a, int b, int c) {
        switch (name) {
            case "guest": return "" + x.guest(a, b);
            case "wish": return "" + x.wish(a, b);
            case "table": return "" + x.table(a);
            case "feud": return "" + x.feud(a, b);
            case "peace": return "" + x.peace(a, b);
            case "set": return "" + x.set(a, b);
            case "sit": return "" + x.sit(a, b, c);
            case "rise": return "" + x.rise(a);
            case "swap": return "" + x.swap(a, b);
            case "seatAll": return "" + x.seatAll();
            case "append": return "" + x.append(a);
            case "clearBuffer": return "" + x.clearBuffer();
            case "firstError": return "" + x.firstError();
            case "seats": return "" + x.seats();
            case "told": return "" + x.told(a, b);
            case "undo": return "" + x.undo();
            case "keep": return "" + x.keep();
            case "restore": return "" + x.restore();
            case "guestOf": return "" + x.guestOf(a, b);
            case "tableOf": return "" + x.tableOf(a, b);
            case "who": return "" + x.who(a, b);
            case "seated": return "" + x.seated(a);
            case "feudAt": return "" + x.feudAt(a);
            case "count": return "" + x.count(a);
            case "whyNot": return "" + x.whyNot(a, b, c);
            case "ifSat": return "" + x.ifSat(a, b, c);
            case "bestSeat": return "" + x.bestSeat(a);
            case "ifFeud": return "" + x.ifFeud(a, b);
            case "ifSeated": return "" + x.ifSeated(a);
            case "met": return "" + Double.doubleToLongBits(x.met());
            default: return "" + x.digest();
        }
    }

    private static String made(Reference r, String name, int a, int b, int c) {
        switch (name) {
            case "guest": return "" + r.guest(a, b);
            case "wish": return "" + r.wish(a, b);
            case "table": return "" + r.table(a);
            case "feud": return "" + r.feud(a, b);
            case "peace": return "" + r.peace(a, b);
            case "set": return "" + r.set(a, b);
            case "sit": return "" + r.sit(a, b, c);
            case "rise": return "" + r.rise(a);
            case "swap": return "" + r.swap(a, b);
            case "seatAll": return "" + r.seatAll();
            case "append": return "" + r.append(a);
            case "clearBuffer": return "" + r.clearBuffer();
            case "firstError": return "" + r.firstError();
            case "seats": return "" + r.seats();
            case "told": return "" + r.told(a, b);
            case "undo": return "" + r.undo();
            case "keep": return "" + r.keep();
            case "restore": return "" + r.restore();
            case "guestOf": return "" + r.guestOf(a, b);
            case "tableOf": return "" + r.tableOf(a, b);
            case "who": return "" + r.who(a, b);
            case "seated": return "" + r.seated(a);
            case "feudAt": return "" + r.feudAt(a);
            case "count": return "" + r.count(a);
            case "whyNot": return "" + r.whyNot(a, b, c);
            case "ifSat": return "" + r.ifSat(a, b, c);
            case "bestSeat": return "" + r.bestSeat(a);
            case "ifFeud": return "" + r.ifFeud(a, b);
            case "ifSeated": return "" + r.ifSeated(a);
            case "met": return "" + Double.doubleToLongBits(r.met());
            default: return "" + r.digest();
        }
    }
}
