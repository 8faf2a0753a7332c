/** The promises 12 to 16. */
public final class TextsTest {
    private TextsTest() {
    }

    public static void main(String[] args) {
        append();
        clearBuffer();
        firstErrors();
        longText();
        seats();
        seatsOfHighNumbers();
        seatsNotPossible();
        seatsWrong();
        told();
        Due.end("TextsTest");
    }

    // Promise 12

    private static void append() {
        SupperSeats x = new SupperSeats();
        Due.is("append(33)", x.append(33), 1);
        Due.is("append(126)", x.append(126), 2);
        Due.fails(x, "append(32)", Due.ARGUMENT, () -> x.append(32));
        Due.fails(x, "append(127)", Due.ARGUMENT, () -> x.append(127));
        Due.fails(x, "append(MIN)", Due.ARGUMENT, () -> x.append(Integer.MIN_VALUE));
        for (int length = 3; length <= 60; length++) {
            Due.is("append", x.append('-'), length);
        }
        Due.fails(x, "the 61st character", Due.STATE, () -> x.append('-'));
        Due.fails(x, "the 61st character, wrong", Due.ARGUMENT, () -> x.append(32));
        Due.is("no saved state", x.count(13), 0);
        Due.is("length", x.clearBuffer(), 60);
    }

    // Promise 13

    private static void clearBuffer() {
        SupperSeats x = new SupperSeats();
        Due.append(x, "xyz");
        Due.is("firstError", x.firstError(), 0);
        Due.is("clearBuffer", x.clearBuffer(), 3);
        Due.is("firstError", x.firstError(), 0);
        Due.is("clearBuffer of none", x.clearBuffer(), 0);
        Due.is("append", x.append('-'), 1);
        Due.is("no saved state", x.count(13), 0);
    }

    // Promise 14

    private static void firstErrors() {
        // Of each text the last character is the wrong one.
        String[] wrong = {"0@0i", "0@0`", "0@4", "0@/", "0@0A", "00", "0;", "16", "19", "1:", "20", "9;", "@", ";", "a",
            "h", "/", ":", "1@0a0", "15@3h@", "150", "15;", "-;", "-@", "-a", "--", "-00", "-01", "-16", "-20", "-1;;",
            "-1@", "-15@", "-150", "0@0a;;", "0@0aa", "0@0a-", "0@00", "0@0;", "0@a", "0@0a;0@0b;x", "1-", "-1-", "-9a",
            "10a", "-/", "-:", "1/", "-1/", "0@0b;16", "-1;-01"};
        for (String text : wrong) {
            error(text, text.length() - 1);
        }
        String[] right = {"0", "9", "1", "10", "15", "15@", "15@3", "15@3h", "1@0a", "0@0a;", "-", "-0", "-1", "-15", "-9;",
            "-10;-1;0@0a", "", "14@2d;13@1e;"};
        for (String text : right) {
            error(text, text.length());
        }
        error("0@0ax;;;", 4);
        error("x0@0a", 0);
        error("-1;16", 4);
    }

    private static void error(String text, int due) {
        SupperSeats x = new SupperSeats();
        Due.append(x, text);
        Due.is("firstError of " + text, x.firstError(), due);
        Due.is("the buffer stays", x.clearBuffer(), text.length());
    }

    private static void longText() {
        // The buffer is full here, but longer texts begin with it.
        error("0@0a;1@0b;2@0c;3@0d;4@0e;5@0f;6@0g;7@0h;8@1a;9@1b;-10;-1;15@", 60);
        error("0@0a;1@0b;2@0c;3@0d;4@0e;5@0f;6@0g;7@0h;8@1a;9@1b;-10;-11;-1", 60);
        error("0@0a;1@0b;2@0c;3@0d;4@0e;5@0f;6@0g;7@0h;8@1a;9@1b;-10;-11;-;", 59);
    }

    // Promise 15

    private static void seats() {
        SupperSeats x = new SupperSeats();
        x.guest(0, 1);
        x.guest(1, 1);
        x.guest(2, 2);
        x.table(8);
        x.table(3);
        int saved = x.count(13);
        Due.append(x, "0@0h;1@1b;2@0c;-1;0@0a");
        Due.is("seats", x.seats(), 5);
        Due.is("the buffer is clear", x.clearBuffer(), 0);
        Due.is("saved as one", x.count(13), saved + 1);
        Due.isText("table 0", Due.told(x, 0), "A|.C.|...|.");
        Due.isText("table 1", Due.told(x, 1), ".|..");
        Due.is("sat down", x.count(7), 4);
        Due.is("stood up", x.count(8), 2);
        Due.is("seated(0)", x.seated(0), 2);
        Due.is("seated(1)", x.seated(1), 0);
        x.undo();
        Due.is("undone, as one call", x.count(3), 0);
        Due.is("undo leaves the buffer", x.clearBuffer(), 0);
        Due.append(x, "-1");
        Due.is("seats with a riser who may have a second digit", x.seats(), 0);
        Due.append(x, "-15;-0;1@0b");
        Due.is("seats", x.seats(), 1);
        Due.is("who", x.who(0, 1), 1);
    }

    private static void seatsOfHighNumbers() {
        SupperSeats x = new SupperSeats();
        for (int guest = 0; guest < 16; guest++) {
            x.guest(guest % 6, 1);
        }
        for (int table = 0; table < 4; table++) {
            x.table(8);
        }
        Due.append(x, "12@3h;15@2c;10@0d;1@1a;9@1g");
        Due.is("seats", x.seats(), 5);
        int[][] sitting = {{12, 3, 7}, {15, 2, 2}, {10, 0, 3}, {1, 1, 0}, {9, 1, 6}};
        for (int[] due : sitting) {
            Due.is("who", x.who(due[1], due[2]), due[0]);
        }
        Due.append(x, "-15;-1;-9;-0");
        Due.is("seats", x.seats(), 3);
        Due.is("seated(0)", x.seated(0), 12);
        Due.is("seated(1)", x.seated(1), 10);
        Due.is("seated(2)", x.seated(2), -1);
    }

    private static void seatsNotPossible() {
        SupperSeats x = new SupperSeats();
        x.guest(0, 1);
        x.guest(1, 3);
        x.guest(1, 1);
        x.table(3);
        x.feud(0, 1);
        Due.append(x, "0@0b;0@0b;1@0a;2@0c;3@0a;0@1a;0@0d;-1;-9;0@0c;1@0a");
        Due.is("seats", x.seats(), 2);
        Due.isText("the table", Due.told(x, 0), ".|.A");
        Due.append(x, "15@3h");
        Due.is("seats of none", x.seats(), 0);
        Due.is("the buffer is clear", x.clearBuffer(), 0);
        Due.is("saved", x.count(13), 6);
        x.undo();
        Due.is("undone: the same", x.count(3), 1);
        x.undo();
        Due.is("undone", x.count(3), 0);
        Due.append(x, "-0;0@0a;-0;0@0b;2@0a");
        Due.is("what a part before made possible", x.seats(), 3);
        Due.isText("the table", Due.told(x, 0), ".|A.");
    }

    private static void seatsWrong() {
        String[] wrong = {"", "0", "0@", "0@0", "-", "0@0a;", "-0;", "-1;-", "x", "0@0a;x", "0@0ax", "-16", "16@0a", ";",
            "0@0a;;0@0b", "0@0a;1", "0@0a;1@", "1", "15", "00@0a"};
        for (String text : wrong) {
            SupperSeats x = new SupperSeats();
            x.guest(0, 1);
            x.table(3);
            Due.append(x, text);
            Due.fails(x, "seats of '" + text + "'", Due.ARGUMENT, x::seats);
            Due.is("the buffer stays", x.clearBuffer(), text.length());
        }
    }

    // Promise 16

    private static void told() {
        SupperSeats x = new SupperSeats();
        for (int family = 0; family < 6; family++) {
            x.guest(family, 1);
        }
        for (int seats : new int[] {3, 4, 5, 8}) {
            x.table(seats);
        }
        Due.isText("3 seats", Due.told(x, 0), ".|..");
        Due.isText("4 seats", Due.told(x, 1), ".|...|");
        Due.isText("5 seats", Due.told(x, 2), ".|...|.");
        Due.isText("8 seats", Due.told(x, 3), ".|...|...|.");
        for (int family = 0; family < 6; family++) {
            x.sit(family, 3, 7 - family);
        }
        Due.isText("all families", Due.told(x, 3), ".|.FE|DCB|A");
        Due.is("told(0, 3)", x.told(0, 3), '.');
        Due.is("told(0, 4)", x.told(0, 4), -1);
        Due.is("told(0, MAX)", x.told(0, Integer.MAX_VALUE), -1);
        Due.fails(x, "told(4, 0)", Due.INDEX, () -> x.told(4, 0));
        Due.fails(x, "told(-1, 0)", Due.INDEX, () -> x.told(-1, 0));
        Due.fails(x, "told(4, -1)", Due.INDEX, () -> x.told(4, -1));
        Due.fails(x, "told(0, -1)", Due.ARGUMENT, () -> x.told(0, -1));
        Due.fails(x, "told(0, MIN)", Due.ARGUMENT, () -> x.told(0, Integer.MIN_VALUE));
    }
}
