import java.util.ArrayList;
import java.util.List;

/** The terms of feuds that begin, seating all, settings, input text, undo and exceptions, sentence by sentence. */
final class RulesSentences {
    private RulesSentences() {
    }

    static void tell(Sentences all) {
        feudsThatBegin(all);
        seatingAll(all);
        settings(all);
        inputText(all);
        undo(all);
        exceptions(all);
    }

    private static void feudsThatBegin(Sentences all) {
        all.hold(Sentences.TERMS, "at each table at which guests of both sit", RulesSentences::whereBothSit);
        all.hold(Sentences.TERMS, "those of the family with fewer guests there stand up", RulesSentences::fewerStandUp);
        all.hold(Sentences.TERMS, "with as many those of the family with the greater number", RulesSentences::withAsMany);
        all.hold(Sentences.TERMS, "When setting 0 becomes less, guests stay where they are", RulesSentences::kinStay);
    }

    private static void seatingAll(Sentences all) {
        all.hold(Sentences.TERMS, "All guests who stand are seated", RulesSentences::whoStandsIsSeated);
        all.hold(Sentences.TERMS, "one after the other, by their numbers", RulesSentences::byTheirNumbers);
        all.hold(Sentences.TERMS, "of the seats that this one can take", RulesSentences::seatsThatCanBeTaken);
        all.hold(Sentences.TERMS, "the one by which the points are the most then", RulesSentences::mostPoints);
        all.hold(Sentences.TERMS, "of several the one at the lowest table", RulesSentences::lowestTable);
        all.hold(Sentences.TERMS, "of several of those the lowest one", RulesSentences::lowestSeat);
        all.hold(Sentences.TERMS, "Who can take none stays standing", RulesSentences::staysStanding);
    }

    private static void settings(Sentences all) {
        all.hold(Sentences.TERMS, "0: guests of one family at one table, 1 to 8, at first 3", () -> setting(0, 3, 1, 8));
        all.hold(Sentences.TERMS, "1: points of a wish that is met, 0 to 20, at first 5", () -> setting(1, 5, 0, 20));
        all.hold(Sentences.TERMS, "2: points more side by side, 0 to 20, at first 3", () -> setting(2, 3, 0, 20));
        all.hold(Sentences.TERMS, "3: points less at a leg, 0 to 9, at first 2", () -> setting(3, 2, 0, 9));
    }

    private static void inputText(Sentences all) {
        all.hold(Sentences.TERMS, "The buffer has at most 60 characters", RulesSentences::sixtyCharacters);
        all.hold(Sentences.TERMS, "one or more parts with \";\" between them", RulesSentences::partsOfText);
        all.hold(Sentences.TERMS, "a guest, 0 to 15, \"@\"", RulesSentences::guestsInText);
        all.hold(Sentences.TERMS, "a table, 0 to 3", RulesSentences::tablesInText);
        all.hold(Sentences.TERMS, "and a seat, \"a\" to \"h\" (0 to 7)", RulesSentences::seatsInText);
        all.hold(Sentences.TERMS, "(the guest takes this seat)", RulesSentences::takesSeatByText);
        all.hold(Sentences.TERMS, "or \"-\" and a guest (who stands up)", RulesSentences::standsUpByText);
        all.hold(Sentences.TERMS, "numbers without a leading zero", RulesSentences::noLeadingZero);
        all.hold(Sentences.TERMS, "The buffer is read from left to right", RulesSentences::fromLeftToRight);
        all.hold(Sentences.TERMS, "a character is a syntax error if no seats as a text, of any length, begin with the "
            + "characters before it and this character", RulesSentences::ofAnyLength);
    }

    private static void undo(Sentences all) {
        all.hold(Sentences.TERMS, "Each method that is marked \"undoable\"", RulesSentences::undoableMethods);
        all.hold(Sentences.TERMS, "and does not throw an exception saves the state from before it",
            RulesSentences::refusedSaveNothing);
        all.hold(Sentences.TERMS, "(also if it changes nothing)", RulesSentences::savedThoughUnchanged);
        all.hold(Sentences.TERMS, "all, also what is counted so far", RulesSentences::countedSoFar);
        all.hold(Sentences.TERMS, "but the buffer, the saved states and the snapshot", RulesSentences::butThese);
        all.hold(Sentences.TERMS, "At most 6 states are saved", RulesSentences::sixStates);
        all.hold(Sentences.TERMS, "the oldest one is dropped first", RulesSentences::oldestIsDropped);
    }

    private static void exceptions(Sentences all) {
        all.hold(Sentences.TERMS, "A call that throws an exception changes nothing", RulesSentences::refusedChangeNothing);
        all.hold(Sentences.TERMS, "If several exceptions apply, the one that is named first in the throws clause is thrown",
            RulesSentences::firstException);
        all.hold(Sentences.TERMS, "The constants: `NONE = -1`", () -> Due.is("NONE", SupperSeats.NONE, -1));
    }

    // ---- feuds that begin

    private static void whereBothSit() {
        SupperSeats x = Given.supper("3333", "A1 A1 A1 A1 B1 B1 B1 B1 C1", "0@0a 1@1a 4@1b 5@2a 2@3a 6@3b 8@3c");
        Due.is("feud", x.feud(0, 1), 2);
        Due.line("seated: at the tables 1 and 3 one stood up", x::seated, 0, 1, 5, 2, 8);
        SupperSeats y = Given.supper("88", "A1 B1", "0@0a 1@1a");
        Due.is("feud of those who do not meet", y.feud(0, 1), 0);
        Due.is("who sits", y.count(3), 2);
        SupperSeats z = Given.supper("888", "A1 A1 A1 B1 B1 B1", "0@0h 1@1b 2@2a 3@1a 4@1h");
        Due.is("feud at the table between", z.feud(0, 1), 1);
        Due.line("seated: those at the tables beside it stay", z::seated, 0, 2, 3, 4);
        SupperSeats w = Given.supper("888", "A1 B1 A1", "0@0h 1@1a 2@2a");
        Due.is("feud of those on seats of tables that follow each other", w.feud(0, 1), 0);
    }

    private static void fewerStandUp() {
        SupperSeats x = Given.supper("88", "F1 F1 F1 A1 A1 A1 C1", "0@0h 3@0a 4@0b 1@1a 2@1b 5@1g 6@1c");
        Due.is("feud", x.feud(5, 0), 2);
        Due.isText("where the greater family has fewer", Due.told(x, 0), "A|A..|...|.");
        Due.isText("where the lesser family has fewer", Due.told(x, 1), "F|FC.|...|.");
    }

    private static void withAsMany() {
        SupperSeats x = Given.supper("83", "F1 A1 F1 A1 F1 A1", "0@0a 1@0b 2@0c 3@0e 4@1a 5@1b");
        Due.is("feud", x.feud(0, 5), 3);
        Due.line("seated", x::seated, 1, 3, 5);
        SupperSeats y = Given.supper("3", "A1 B1", "0@0a 1@0b");
        Due.is("feud the other way round", y.feud(1, 0), 1);
        Due.line("seated", y::seated, 0);
    }

    private static void kinStay() {
        SupperSeats x = Given.supper("8", "A1 A1 A1 A1", "0@0a 1@0b 2@0c");
        Due.is("set", x.set(0, 1), 3);
        Due.line("seated", x::seated, 0, 1, 2);
        Due.is("stood up", x.count(8), 0);
        Due.is("one more", x.whyNot(3, 0, 4), 5);
    }

    // ---- seating all

    private static void whoStandsIsSeated() {
        SupperSeats x = Given.supper("83", "A1 B1 C1", "0@1c 1@0e");
        x.wish(0, 1);
        Due.is("seatAll", x.seatAll(), 0);
        Due.is("who sits stays, though another seat is better", x.who(1, 2), 0);
        Due.is("who sits stays", x.who(0, 4), 1);
        Due.is("who stood", x.guestOf(2, 3), 0);
        Due.is("sat down", x.count(7), 3);
        Due.is("stood up", x.count(8), 0);
    }

    private static void byTheirNumbers() {
        SupperSeats x = Given.supper("44", "A1 B1 C1 D1 E1 F1 A1 B1", "7@0a");
        Due.is("seatAll", x.seatAll(), 0);
        Due.line("seated", x::seated, 7, 0, 1, 2, 3, 4, 5, 6);
        Due.is("the first one's seat", x.who(0, 1), 0);
        Due.is("the last one's seat", x.who(1, 3), 6);
    }

    private static void seatsThatCanBeTaken() {
        SupperSeats x = Given.supper("333", "B1 A1 C1 A3", "0@0a 1@1a 2@1b");
        x.wish(3, 2);
        x.set(0, 1);
        x.feud(0, 1);
        Due.is("seatAll", x.seatAll(), 0);
        Due.is("no foe, no kin, no leg", x.who(2, 1), 3);
    }

    private static void mostPoints() {
        SupperSeats x = Given.supper("88", "A1 B2 C1 D1", "0@1d");
        Given.wish(x, "1>0 2>1");
        Due.is("seatAll", x.seatAll(), 0);
        Due.is("beside the friend", x.who(1, 2), 1);
        Due.is("beside the friend who was seated before", x.who(1, 1), 2);
        SupperSeats y = Given.supper("88", "A1 B1", "1@1g");
        y.wish(1, 0);
        y.seatAll();
        Due.is("beside the one who wishes it", y.who(1, 5), 0);
        SupperSeats z = Given.supper("3", "A2 B1 C1", "1@0b 2@0c");
        z.set(3, 9);
        Due.is("seatAll", z.seatAll(), 0);
        Due.is("a seat by which the points are less", z.who(0, 0), 0);
    }

    private static void lowestTable() {
        SupperSeats x = Given.supper("3833", "A1 B1 C1 D1", "1@3b 0@1h");
        Given.wish(x, "1>2 2>0");
        Due.is("seatAll", x.seatAll(), 0);
        Due.is("of two friends the one at the lower table", x.who(1, 0), 2);
        Due.is("who has no friend", x.who(0, 0), 3);
    }

    private static void lowestSeat() {
        SupperSeats x = Given.supper("8", "A1 B1 C2 D3", "0@0e");
        x.wish(1, 0);
        Due.is("seatAll", x.seatAll(), 0);
        Due.is("the lower seat beside", x.who(0, 3), 1);
        Due.is("the lowest one at no leg", x.who(0, 1), 2);
        Due.is("the next one at no leg", x.who(0, 2), 3);
    }

    private static void staysStanding() {
        SupperSeats x = Given.supper("33", "A1 B1 A1 A1 C3 B1 B1", "0@0b");
        x.set(0, 1);
        x.feud(0, 1);
        Due.is("seatAll", x.seatAll(), 4);
        Due.line("seated", x::seated, 0, 1, 4);
        Due.is("seatAll once more", x.seatAll(), 4);
        SupperSeats y = Given.supper("", Given.sixteenGuests(), "");
        Due.is("without a table", y.seatAll(), 16);
        SupperSeats z = Given.supper("333", Given.sixteenGuests(), "");
        Due.is("with 9 seats", z.seatAll(), 7);
        Due.is("the last one stays standing", z.guestOf(15, 3), -1);
    }

    // ---- settings

    private static void setting(int setting, int first, int least, int most) {
        SupperSeats x = new SupperSeats();
        Due.is("at first", x.count(9 + setting), first);
        for (int value = least; value <= most; value++) {
            x.set(setting, value);
            Due.is("the setting", x.count(9 + setting), value);
        }
        for (int value : Given.outside(least, most)) {
            Due.fails(x, "set(" + setting + ", " + value + ")", Due.ARGUMENT, () -> x.set(setting, value));
        }
    }

    // ---- input text

    private static void sixtyCharacters() {
        SupperSeats x = Given.buffer(new SupperSeats(), "!".repeat(59));
        Due.is("the 60th character", x.append('~'), 60);
        Due.fails(x, "the 61st character", Due.STATE, () -> x.append('~'));
        Due.is("length", x.clearBuffer(), 60);
        Due.is("a character after that", x.append('~'), 1);
    }

    private static void partsOfText() {
        done("-0", 1);
        done("-0;0@0a", 2);
        done("-0;" + "0@0b;-0;".repeat(7), -1);
        done("0@0b;-0;".repeat(7) + "0@0a", 15);
        for (String text : new String[] {"", ";", ";-0", "-0;", "-0;;-0", "-0-0", "0@0a0@0b", "-0,-0"}) {
            done(text, -1);
        }
    }

    private static void guestsInText() {
        for (int guest = 0; guest <= 15; guest++) {
            SupperSeats x = Given.supper("8", Given.sixteenGuests(), "");
            Due.is("seats", Given.seats(x, guest + "@0a"), 1);
            Due.is("who", x.who(0, 0), guest);
        }
        for (String text : new String[] {"16@0a", "17@0a", "19@0a", "20@0a", "99@0a", "150@0a", "@0a", "-@0a", "a@0a", "0a",
            "0@@0a", "0:0a", "1?0a", "10A0a",
            "/@0a", ":@0a", "1/@0a", "1:@0a"}) {
            done(text, -1);
        }
    }

    private static void tablesInText() {
        for (int table = 0; table <= 3; table++) {
            SupperSeats x = Given.supper("8888", "A1", "");
            Due.is("seats", Given.seats(x, "0@" + table + "b"), 1);
            Due.is("who", x.who(table, 1), 0);
        }
        for (String text : new String[] {"0@4a", "0@9a", "0@/a", "0@a", "0@00a", "0@01a", "0@-a"}) {
            done(text, -1);
        }
    }

    private static void seatsInText() {
        for (int seat = 0; seat <= 7; seat++) {
            SupperSeats x = Given.supper("8", "A1", "");
            Due.is("seats", Given.seats(x, "0@0" + (char) ('a' + seat)), 1);
            Due.is("who", x.who(0, seat), 0);
        }
        for (String text : new String[] {"0@0i", "0@0`", "0@0A", "0@0H", "0@00", "0@0", "0@0;", "0@0aa", "0@0z"}) {
            done(text, -1);
        }
    }

    private static void takesSeatByText() {
        SupperSeats x = Given.supper("38", "A1 B1", "0@0a");
        Due.is("seats", Given.seats(x, "0@1h;1@0a"), 2);
        Due.is("who moved", x.who(1, 7), 0);
        Due.is("who sat down", x.who(0, 0), 1);
        Due.line("seated", x::seated, 0, 1);
        Due.is("sat down", x.count(7), 3);
        Due.is("stood up", x.count(8), 1);
    }

    private static void standsUpByText() {
        for (int guest = 0; guest <= 15; guest++) {
            SupperSeats x = Given.supper("88", Given.sixteenGuests(), "");
            x.sit(guest, 1, 0);
            Due.is("seats", Given.seats(x, "-" + guest), 1);
            Due.is("who sits", x.count(3), 0);
            Due.is("stood up", x.count(8), 1);
        }
        for (String text : new String[] {"-", "-16", "-19", "-20", "-99", "-150", "--0", "-a", "-0@", "-0@0a", "+0", "0", "15",
            "-/", "-:", "-1/", "-1:"}) {
            done(text, -1);
        }
    }

    private static void noLeadingZero() {
        for (String text : new String[] {"00@0a", "01@0a", "015@0a", "-00", "-01", "-015", "-0;00@0a", "-0;-01"}) {
            done(text, -1);
        }
        done("0@0a", 1);
        done("-0", 1);
    }

    private static void fromLeftToRight() {
        error("x0@0a", 0);
        error("0x@0a", 1);
        error("0@x0a", 2);
        error("0@0xa", 3);
        error("0@0ax", 4);
        error("0@0a;x", 5);
        error("xx", 0);
        error("-16;xx", 2);
    }

    private static void ofAnyLength() {
        for (String text : new String[] {"", "-", "1", "15", "9", "15@", "15@3", "15@3h", "15@3h;", "-1", "-15", "-15;", "-0;-",
            "0@0a;1"}) {
            error(text, text.length());
        }
        // Longer texts than the buffer has room for begin with these.
        error("0@0a;".repeat(11) + "-0;-1", 60);
        error("0@0a;".repeat(11) + "-0;15", 60);
        error("0@0a;".repeat(11) + "15@3h", 60);
        error("0@0a;".repeat(11) + "-0;-;", 59);
        error("0@0a;".repeat(11) + "-0;16", 59);
    }

    /** With the guest 0 sitting at table 0; -1 where the text is not complete. */
    private static void done(String text, int due) {
        SupperSeats x = Given.supper("8", "A1", "0@0h");
        Given.buffer(x, text);
        if (due < 0) {
            Due.fails(x, "seats of '" + text + "'", Due.ARGUMENT, x::seats);
        } else {
            Due.is("seats of '" + text + "'", x.seats(), due);
        }
    }

    private static void error(String text, int due) {
        Due.is("firstError of '" + text + "'", Given.buffer(new SupperSeats(), text).firstError(), due);
    }

    // ---- undo

    /** A supper on which each undoable method can be called. */
    private static SupperSeats busySupper() {
        SupperSeats x = Given.supper("83", "A1 B2 C1 D3", "0@0a");
        x.keep();
        x.feud(4, 5);
        Given.sit(x, "1@1b 2@0b");
        x.wish(0, 2);
        return x;
    }

    private static void undoableMethods() {
        SupperSeats x = busySupper();
        Due.undoable(x, "guest", () -> x.guest(5, 3));
        Due.undoable(x, "wish", () -> x.wish(1, 2));
        Due.undoable(x, "table", () -> x.table(4));
        Due.undoable(x, "feud", () -> x.feud(0, 2));
        Due.undoable(x, "peace", () -> x.peace(4, 5));
        Due.undoable(x, "set", () -> x.set(1, 20));
        Due.undoable(x, "sit", () -> x.sit(0, 1, 0));
        Due.undoable(x, "rise", () -> x.rise(0));
        Due.undoable(x, "swap", () -> x.swap(0, 1));
        Due.undoable(x, "seatAll", x::seatAll);
        Due.undoable(x, "restore", x::restore);
        SupperSeats y = busySupper();
        Due.undoable(y, "seats", () -> {
            Given.seats(y, "-0;3@1c");
            Due.is("clearBuffer", y.clearBuffer(), 0);
        });
        int saved = y.count(13);
        y.append('-');
        y.firstError();
        y.clearBuffer();
        y.keep();
        Due.is("saved states after calls that are not undoable", y.count(13), saved);
    }

    private static List<Runnable> refusedCalls(SupperSeats x) {
        List<Runnable> calls = new ArrayList<>();
        calls.add(() -> x.guest(6, 1));
        calls.add(() -> x.wish(0, 0));
        calls.add(() -> x.table(9));
        calls.add(() -> x.feud(4, 5));
        calls.add(() -> x.peace(0, 1));
        calls.add(() -> x.set(0, 9));
        calls.add(() -> x.sit(0, 0, 0));
        calls.add(() -> x.rise(3));
        calls.add(() -> x.swap(0, 3));
        calls.add(x::seats);
        return calls;
    }

    /** Makes the call, which must throw. */
    private static void refused(String call, Runnable made) {
        boolean threw = false;
        try {
            made.run();
        } catch (RuntimeException e) {
            threw = true;
        }
        Due.is(call + " throws", threw ? 1 : 0, 1);
    }

    /** With six saved states a state more would drop the oldest one. */
    private static void refusedSaveNothing() {
        for (int way = 0; way < 10; way++) {
            SupperSeats x = busySupper();
            for (int value = 1; value <= 6; value++) {
                x.set(1, value);
            }
            Runnable call = refusedCalls(x).get(way);
            refused("refused call " + way, call);
            for (int left = 5; left >= 0; left--) {
                Due.is("undo after refused call " + way, x.undo(), left);
                Due.is("setting after refused call " + way, x.count(10), left == 0 ? 5 : left);
            }
        }
        SupperSeats y = new SupperSeats();
        y.guest(0, 1);
        refused("restore without a snapshot", y::restore);
        Due.is("saved states", y.count(13), 1);
    }

    private static void savedThoughUnchanged() {
        SupperSeats x = Given.supper("3", "A1 B1", "0@0a 1@0b");
        x.wish(0, 1);
        x.seatAll();
        x.keep();
        Due.undoable(x, "the same wish", () -> x.wish(0, 1));
        Due.undoable(x, "the same setting", () -> x.set(2, 3));
        Due.undoable(x, "seatAll of none", x::seatAll);
        Due.undoable(x, "restore of the same", x::restore);
        Due.undoable(x, "seats of which none is possible", () -> Due.is("seats", Given.seats(x, "-5;9@3h"), 0));
    }

    private static void countedSoFar() {
        SupperSeats x = Given.supper("33", "A1 B1", "0@0a 1@0b");
        x.keep();
        x.swap(0, 1);
        x.rise(0);
        Due.is("sat down", x.count(7), 4);
        Due.is("stood up", x.count(8), 3);
        x.undo();
        Due.is("sat down, after undo", x.count(7), 4);
        Due.is("stood up, after undo", x.count(8), 2);
        x.undo();
        Due.is("sat down, after undo of a swap", x.count(7), 2);
        Due.is("stood up, after undo of a swap", x.count(8), 0);
        x.swap(0, 1);
        x.restore();
        Due.is("sat down, after restore", x.count(7), 2);
        Due.is("stood up, after restore", x.count(8), 0);
    }

    private static void butThese() {
        SupperSeats x = Given.supper("3", "A1 B1", "");
        x.keep();
        Given.buffer(x, "-0");
        x.sit(0, 0, 0);
        x.append(';');
        x.keep();
        x.undo();
        Due.is("the buffer after undo", x.clearBuffer(), 3);
        Due.is("the snapshot after undo", x.restore(), 1);
        Given.buffer(x, "-1;0");
        int saved = x.count(13);
        x.restore();
        Due.is("the buffer after restore", x.clearBuffer(), 4);
        Due.is("the saved states after restore", x.count(13), saved + 1);
        Given.seats(x, "-0");
        x.undo();
        Due.is("the buffer after undo of seats", x.clearBuffer(), 0);
    }

    private static void sixStates() {
        SupperSeats x = new SupperSeats();
        for (int value = 1; value <= 8; value++) {
            x.set(1, value);
            Due.is("saved states", x.count(13), Math.min(value, 6));
        }
        for (int left = 5; left >= 0; left--) {
            Due.is("undo", x.undo(), left);
        }
        Due.fails(x, "the seventh undo", Due.STATE, x::undo);
    }

    private static void oldestIsDropped() {
        for (int last = 7; last <= 19; last++) {
            SupperSeats x = new SupperSeats();
            for (int value = 1; value <= last; value++) {
                x.set(2, value);
            }
            for (int steps = 1; steps <= 6; steps++) {
                x.undo();
                Due.is("the setting after " + steps + " of " + last, x.count(11), last - steps);
            }
        }
    }

    // ---- exceptions

    /** All that can be seen, also by undo and restore afterwards. */
    private static String allOf(SupperSeats x) {
        StringBuilder all = new StringBuilder().append(x.digest());
        while (x.count(13) > 0) {
            x.undo();
            all.append(' ').append(x.digest());
        }
        x.restore();
        return all.append(' ').append(x.digest()).toString();
    }

    private static void refusedChangeNothing() {
        for (int way = 0; way < 10; way++) {
            SupperSeats x = busySupper();
            SupperSeats y = busySupper();
            Given.buffer(x, "0@0a;");
            Given.buffer(y, "0@0a;");
            refused("refused call " + way, refusedCalls(x).get(way));
            Due.isText("all after refused call " + way, allOf(x), allOf(y));
        }
        SupperSeats x = Given.supper("33", "A1 B3", "0@0a 1@1b");
        SupperSeats y = Given.supper("33", "A1 B3", "0@0a 1@1b");
        x.keep();
        y.keep();
        Due.fails(x, "swap of which the second half is refused", Due.STATE, () -> x.swap(0, 1));
        Due.fails(x, "swap of which the first half is refused", Due.STATE, () -> x.swap(1, 0));
        Due.isText("all after refused swaps", allOf(x), allOf(y));
    }

    private static void firstException() {
        SupperSeats x = Given.supper("8888", Given.sixteenGuests(), "0@0a");
        Given.feud(x, "AB AC AD AE AF BC BD BE");
        Given.buffer(x, "-".repeat(60));
        Due.fails(x, "guest: argument and state", Due.ARGUMENT, () -> x.guest(6, 1));
        Due.fails(x, "guest: argument and state", Due.ARGUMENT, () -> x.guest(0, 4));
        Due.fails(x, "wish: index and argument", Due.INDEX, () -> x.wish(16, 16));
        Due.fails(x, "wish: index and argument", Due.INDEX, () -> x.wish(-1, -1));
        Due.fails(x, "table: argument and state", Due.ARGUMENT, () -> x.table(9));
        Due.fails(x, "feud: argument and state", Due.ARGUMENT, () -> x.feud(2, 2));
        Due.fails(x, "feud: argument and state", Due.ARGUMENT, () -> x.feud(-1, 6));
        Due.fails(x, "peace: argument and state", Due.ARGUMENT, () -> x.peace(2, 2));
        Due.fails(x, "set: index and argument", Due.INDEX, () -> x.set(4, 21));
        Due.fails(x, "set: index and argument", Due.INDEX, () -> x.set(-1, -1));
        Due.fails(x, "sit: index and state", Due.INDEX, () -> x.sit(0, 0, 8));
        Due.fails(x, "swap: index and argument", Due.INDEX, () -> x.swap(16, 16));
        Due.fails(x, "swap: index and state", Due.INDEX, () -> x.swap(1, 16));
        Due.fails(x, "swap: argument and state", Due.ARGUMENT, () -> x.swap(1, 1));
        Due.fails(x, "append: argument and state", Due.ARGUMENT, () -> x.append(32));
        Due.fails(x, "append: argument and state", Due.ARGUMENT, () -> x.append(127));
        Due.fails(x, "told: index and argument", Due.INDEX, () -> x.told(4, -1));
        Due.fails(x, "guestOf: index and argument", Due.INDEX, () -> x.guestOf(16, 7));
        Due.fails(x, "tableOf: index and argument", Due.INDEX, () -> x.tableOf(4, 5));
    }
}
