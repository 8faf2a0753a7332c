import java.lang.reflect.Constructor;
import java.lang.reflect.Field;
import java.lang.reflect.Method;
import java.lang.reflect.Modifier;
import java.util.Set;
import java.util.TreeSet;

/** The public face, and the promises 1 to 7. */
public final class GuestsTablesFeudsTest {
    private static final String FACE = "guest(int,int):int wish(int,int):int table(int):int feud(int,int):int "
        + "peace(int,int):int set(int,int):int sit(int,int,int):int rise(int):int swap(int,int):int seatAll():int "
        + "append(int):int clearBuffer():int firstError():int seats():int told(int,int):int undo():int keep():int "
        + "restore():int guestOf(int,int):int tableOf(int,int):int who(int,int):int seated(int):int feudAt(int):int "
        + "count(int):int whyNot(int,int,int):int ifSat(int,int,int):int bestSeat(int):int ifFeud(int,int):int "
        + "ifSeated(int):int met():double digest():long";

    private GuestsTablesFeudsTest() {
    }

    public static void main(String[] args) {
        face();
        newObject();
        guest();
        guestLimits();
        wish();
        wishWrong();
        table();
        feudAndRisers();
        feudOrderAndLimits();
        peace();
        set();
        setWrong();
        lessKinStay();
        Due.end("GuestsTablesFeudsTest");
    }

    private static void face() {
        Due.is("NONE", SupperSeats.NONE, -1);
        Set<String> want = new TreeSet<>(Set.of(FACE.split(" ")));
        Set<String> got = new TreeSet<>();
        for (Method method : SupperSeats.class.getDeclaredMethods()) {
            if (!Modifier.isPrivate(method.getModifiers()) && !method.isSynthetic()) {
                StringBuilder name = new StringBuilder(method.getName()).append('(');
                for (Class<?> type : method.getParameterTypes()) {
                    name.append(name.charAt(name.length() - 1) == '(' ? "" : ",").append(type.getName());
                }
                got.add(name.append("):").append(method.getReturnType().getName()).toString());
            }
        }
        Due.isText("the methods", got.toString(), want.toString());
        for (Field field : SupperSeats.class.getDeclaredFields()) {
            if (!Modifier.isPrivate(field.getModifiers())) {
                Due.isText("a field that is not private", field.getName(), "NONE");
            }
        }
        Constructor<?>[] constructors = SupperSeats.class.getDeclaredConstructors();
        Due.is("constructors", constructors.length, 1);
        Due.is("parameters of it", constructors[0].getParameterCount(), 0);
        Due.is("final", Modifier.isFinal(SupperSeats.class.getModifiers()) ? 1 : 0, 1);
    }

    // Promise 1

    private static void newObject() {
        SupperSeats x = new SupperSeats();
        int[] counts = {0, 0, 0, 0, 0, 0, 0, 0, 0, 3, 5, 3, 2, 0};
        for (int what = 0; what < counts.length; what++) {
            Due.is("new count(" + what + ")", x.count(what), counts[what]);
        }
        Due.is("new clearBuffer", x.clearBuffer(), 0);
        Due.is("new firstError", x.firstError(), 0);
        Due.is("new seated", x.seated(0), -1);
        Due.is("new feudAt", x.feudAt(0), -1);
        Due.isShare("new met", x.met(), 1.0);
        Due.fails(x, "new restore", Due.STATE, x::restore);
        Due.fails(x, "new undo", Due.STATE, x::undo);
        Due.fails(x, "new guestOf", Due.INDEX, () -> x.guestOf(0, 0));
        Due.fails(x, "new tableOf", Due.INDEX, () -> x.tableOf(0, 0));
        SupperSeats y = new SupperSeats();
        y.guest(0, 1);
        Due.is("objects are apart", x.count(0), 0);
    }

    // Promise 2

    private static void guest() {
        SupperSeats x = new SupperSeats();
        Due.is("guest", x.guest(5, 3), 0);
        Due.is("guest", x.guest(0, 1), 1);
        int[] first = {5, 3, -1, -1, -1, 0, 0};
        for (int what = 0; what < first.length; what++) {
            Due.is("guestOf(0, " + what + ")", x.guestOf(0, what), first[what]);
        }
        Due.is("family", x.guestOf(1, 0), 0);
        Due.is("size", x.guestOf(1, 1), 1);
        Due.is("saved", x.count(13), 2);
        Due.is("undo", x.undo(), 1);
        Due.is("guests", x.count(0), 1);
        Due.is("guest again", x.guest(2, 2), 1);
        Due.is("family", x.guestOf(1, 0), 2);
        Due.fails(x, "guest(-1, 1)", Due.ARGUMENT, () -> x.guest(-1, 1));
        Due.fails(x, "guest(6, 1)", Due.ARGUMENT, () -> x.guest(6, 1));
        Due.fails(x, "guest(0, 0)", Due.ARGUMENT, () -> x.guest(0, 0));
        Due.fails(x, "guest(0, 4)", Due.ARGUMENT, () -> x.guest(0, 4));
        Due.fails(x, "guest(MIN, MAX)", Due.ARGUMENT, () -> x.guest(Integer.MIN_VALUE, Integer.MAX_VALUE));
    }

    private static void guestLimits() {
        SupperSeats x = new SupperSeats();
        for (int guest = 0; guest < 16; guest++) {
            Due.is("guest", x.guest(guest % 6, guest % 3 + 1), guest);
        }
        Due.fails(x, "the 17th guest", Due.STATE, () -> x.guest(0, 1));
        Due.fails(x, "the 17th guest, wrong", Due.ARGUMENT, () -> x.guest(6, 1));
        Due.is("guests", x.count(0), 16);
        Due.is("saved", x.count(13), 6);
    }

    // Promise 3

    private static void wish() {
        SupperSeats x = new SupperSeats();
        x.guest(0, 1);
        x.guest(1, 1);
        x.guest(2, 1);
        Due.is("wish", x.wish(0, 1), -1);
        Due.is("wish", x.wish(0, 2), 1);
        Due.is("wish", x.wish(0, 2), 2);
        Due.is("the wish", x.guestOf(0, 2), 2);
        Due.is("the friend's wish", x.guestOf(2, 2), -1);
        Due.is("wish NONE", x.wish(0, -1), 2);
        Due.is("wish NONE", x.wish(0, -1), -1);
        Due.is("the wish", x.guestOf(0, 2), -1);
        x.undo();
        Due.is("one undo", x.guestOf(0, 2), -1);
        x.undo();
        Due.is("two undos", x.guestOf(0, 2), 2);
    }

    private static void wishWrong() {
        SupperSeats x = new SupperSeats();
        x.guest(0, 1);
        x.guest(1, 1);
        Due.fails(x, "wish(2, 0)", Due.INDEX, () -> x.wish(2, 0));
        Due.fails(x, "wish(-1, 0)", Due.INDEX, () -> x.wish(-1, 0));
        Due.fails(x, "wish(-1, -1)", Due.INDEX, () -> x.wish(-1, -1));
        Due.fails(x, "wish(0, 2)", Due.INDEX, () -> x.wish(0, 2));
        Due.fails(x, "wish(0, -2)", Due.INDEX, () -> x.wish(0, -2));
        Due.fails(x, "wish(2, 2)", Due.INDEX, () -> x.wish(2, 2));
        Due.fails(x, "wish(1, 1)", Due.ARGUMENT, () -> x.wish(1, 1));
        Due.fails(x, "wish(0, MAX)", Due.INDEX, () -> x.wish(0, Integer.MAX_VALUE));
    }

    // Promise 4

    private static void table() {
        SupperSeats x = new SupperSeats();
        Due.fails(x, "table(2)", Due.ARGUMENT, () -> x.table(2));
        Due.fails(x, "table(9)", Due.ARGUMENT, () -> x.table(9));
        Due.is("table(3)", x.table(3), 0);
        Due.is("table(8)", x.table(8), 1);
        Due.is("saved", x.count(13), 2);
        Due.is("undo", x.undo(), 1);
        Due.fails(x, "tableOf after undo", Due.INDEX, () -> x.tableOf(1, 0));
        Due.is("table(5)", x.table(5), 1);
        Due.is("table(4)", x.table(4), 2);
        Due.is("table(8)", x.table(8), 3);
        Due.is("tables", x.count(1), 4);
        int[] seats = {3, 5, 4, 8};
        for (int table = 0; table < 4; table++) {
            Due.is("its seats", x.tableOf(table, 0), seats[table]);
            for (int seat = 0; seat < seats[table]; seat++) {
                Due.is("nobody sits", x.who(table, seat), -1);
            }
        }
        Due.fails(x, "the fifth table", Due.STATE, () -> x.table(3));
        Due.fails(x, "the fifth table, wrong", Due.ARGUMENT, () -> x.table(2));
    }

    // Promise 5

    private static void feudAndRisers() {
        SupperSeats x = new SupperSeats();
        x.table(8);
        x.table(8);
        x.table(8);
        for (int guest = 0; guest < 12; guest++) {
            x.guest(guest % 2 == 0 ? 3 : 1, 1);
        }
        // Table 0: two of 3, one of 1. Table 1: one of 3, two of 1. Table 2: two of each.
        int[][] seats = {{0, 0, 0}, {1, 0, 4}, {2, 0, 1}, {4, 1, 2}, {3, 1, 3}, {5, 1, 7}, {6, 2, 0}, {7, 2, 1},
            {8, 2, 2}, {9, 2, 3}};
        for (int[] seat : seats) {
            x.sit(seat[0], seat[1], seat[2]);
        }
        Due.is("ifFeud", x.ifFeud(3, 1), 4);
        Due.is("feud", x.feud(3, 1), 4);
        Due.is("sitting", x.count(3), 6);
        Due.is("stood up", x.count(8), 4);
        Due.is("sat down", x.count(7), 10);
        Due.isText("table 0", Due.told(x, 0), "D|D..|...|.");
        Due.isText("table 1", Due.told(x, 1), ".|..B|...|B");
        Due.isText("table 2: the greater family leaves", Due.told(x, 2), ".|B.B|...|.");
        int[] order = {0, 2, 3, 5, 7, 9, -1};
        for (int place = 0; place < order.length; place++) {
            Due.is("seated(" + place + ")", x.seated(place), order[place]);
        }
        Due.is("who stood up", x.guestOf(1, 3), -1);
        Due.is("who stood up", x.guestOf(1, 4), -1);
        x.undo();
        Due.is("undone: sitting", x.count(3), 10);
        Due.is("undone: feuds", x.count(2), 0);
        Due.is("undone: stood up", x.count(8), 0);
        Due.is("feud the other way round", x.feud(1, 3), 4);
        Due.isText("table 2", Due.told(x, 2), ".|B.B|...|.");
        Due.is("feudAt", x.feudAt(0), 9);
    }

    private static void feudOrderAndLimits() {
        SupperSeats x = new SupperSeats();
        int[][] feuds = {{5, 4}, {0, 1}, {2, 1}, {3, 0}, {0, 2}, {5, 0}, {4, 0}, {1, 5}};
        int[] codes = {29, 1, 8, 3, 2, 5, 4, 11};
        for (int[] feud : feuds) {
            Due.is("feud", x.feud(feud[0], feud[1]), 0);
        }
        for (int place = 0; place < 8; place++) {
            Due.is("feudAt(" + place + ")", x.feudAt(place), codes[place]);
        }
        Due.is("feudAt(8)", x.feudAt(8), -1);
        Due.fails(x, "the ninth feud", Due.STATE, () -> x.feud(2, 3));
        Due.fails(x, "a feud that is", Due.STATE, () -> x.feud(1, 0));
        Due.fails(x, "feud(0, 0)", Due.ARGUMENT, () -> x.feud(0, 0));
        Due.fails(x, "feud(-1, 0)", Due.ARGUMENT, () -> x.feud(-1, 0));
        Due.fails(x, "feud(0, -1)", Due.ARGUMENT, () -> x.feud(0, -1));
        Due.fails(x, "feud(6, 0)", Due.ARGUMENT, () -> x.feud(6, 0));
        Due.fails(x, "feud(0, 6)", Due.ARGUMENT, () -> x.feud(0, 6));
        SupperSeats y = new SupperSeats();
        y.feud(0, 1);
        Due.fails(y, "the same feud", Due.STATE, () -> y.feud(0, 1));
        Due.fails(y, "the same feud, turned", Due.STATE, () -> y.feud(1, 0));
    }

    // Promise 6

    private static void peace() {
        SupperSeats x = new SupperSeats();
        x.feud(0, 1);
        x.feud(2, 3);
        x.feud(4, 5);
        Due.fails(x, "peace(0, 2)", Due.STATE, () -> x.peace(0, 2));
        Due.fails(x, "peace(0, 0)", Due.ARGUMENT, () -> x.peace(0, 0));
        Due.fails(x, "peace(0, 6)", Due.ARGUMENT, () -> x.peace(0, 6));
        Due.fails(x, "peace(-1, 1)", Due.ARGUMENT, () -> x.peace(-1, 1));
        Due.is("peace, turned", x.peace(3, 2), 2);
        Due.is("feudAt(0)", x.feudAt(0), 1);
        Due.is("feudAt(1)", x.feudAt(1), 29);
        Due.is("feudAt(2)", x.feudAt(2), -1);
        Due.is("the feud anew", x.feud(2, 3), 0);
        Due.is("it is the last one", x.feudAt(2), 15);
        Due.is("peace", x.peace(0, 1), 2);
        Due.is("saved", x.count(13), 6);
        x.undo();
        Due.is("undone", x.feudAt(0), 1);
        x.table(3);
        x.guest(0, 1);
        x.guest(1, 1);
        x.sit(0, 0, 0);
        Due.is("feud", x.whyNot(1, 0, 1), 4);
        x.peace(1, 0);
        Due.is("no feud", x.whyNot(1, 0, 1), 0);
    }

    // Promise 7

    private static void set() {
        SupperSeats x = new SupperSeats();
        int[] first = {3, 5, 3, 2};
        int[] least = {1, 0, 0, 0};
        int[] most = {8, 20, 20, 9};
        for (int setting = 0; setting < 4; setting++) {
            Due.is("set to the most", x.set(setting, most[setting]), first[setting]);
            Due.is("the most", x.count(9 + setting), most[setting]);
            Due.is("set to the least", x.set(setting, least[setting]), most[setting]);
            Due.is("the least", x.count(9 + setting), least[setting]);
        }
        Due.is("saved", x.count(13), 6);
        x.undo();
        Due.is("undone", x.count(12), 9);
        Due.is("set to the same", x.set(3, 9), 9);
        Due.is("saved", x.count(13), 6);
    }

    private static void setWrong() {
        SupperSeats x = new SupperSeats();
        int[] below = {0, -1, -1, -1};
        int[] above = {9, 21, 21, 10};
        for (int i = 0; i < 4; i++) {
            int setting = i;
            Due.fails(x, "set below", Due.ARGUMENT, () -> x.set(setting, below[setting]));
            Due.fails(x, "set above", Due.ARGUMENT, () -> x.set(setting, above[setting]));
        }
        Due.fails(x, "set(4, 1)", Due.INDEX, () -> x.set(4, 1));
        Due.fails(x, "set(-1, 1)", Due.INDEX, () -> x.set(-1, 1));
        Due.fails(x, "set(-1, -1)", Due.INDEX, () -> x.set(-1, -1));
        Due.fails(x, "set(MIN, MIN)", Due.INDEX, () -> x.set(Integer.MIN_VALUE, Integer.MIN_VALUE));
    }

    private static void lessKinStay() {
        SupperSeats x = new SupperSeats();
        x.table(8);
        for (int guest = 0; guest < 4; guest++) {
            x.guest(2, 1);
        }
        x.sit(0, 0, 0);
        x.sit(1, 0, 1);
        x.sit(2, 0, 2);
        Due.is("the fourth", x.whyNot(3, 0, 3), 5);
        x.set(0, 1);
        Due.is("they stay", x.count(3), 3);
        Due.is("they cannot move there", x.whyNot(0, 0, 4), 5);
        x.set(0, 4);
        Due.is("the fourth then", x.whyNot(3, 0, 3), 0);
    }
}
