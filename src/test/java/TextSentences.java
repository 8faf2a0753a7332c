/** The promises 12 to 16, sentence by sentence. */
final class TextSentences {
    private TextSentences() {
    }

    static void tell(Sentences all) {
        append(all);
        clearBuffer(all);
        firstError(all);
        seats(all);
        told(all);
    }

    private static void append(Sentences all) {
        all.hold(12, "Appends a character to the buffer", TextSentences::appendsAtTheEnd);
        all.hold(12, "`code`: the character code, 33 to 126", TextSentences::appendCodes);
        all.hold(12, "Returns the new length of the buffer", TextSentences::appendLength);
        all.hold(12, "if code is not 33 to 126", TextSentences::appendWrongCode);
        all.hold(12, "if the buffer has 60 characters", TextSentences::appendToFull);
    }

    private static void clearBuffer(Sentences all) {
        all.hold(13, "Clears the buffer", TextSentences::clears);
        all.hold(13, "Returns the length that it had", TextSentences::clearedLength);
    }

    private static void firstError(Sentences all) {
        all.hold(14, "Finds the first syntax error of the buffer", TextSentences::findsTheFirst);
        all.hold(14, "Returns the index of the first character that is a syntax error", TextSentences::errorAtEachIndex);
        all.hold(14, "the length of the buffer if there is none", TextSentences::noError);
    }

    private static void seats(Sentences all) {
        all.hold(15, "Does what the buffer tells, part by part", TextSentences::seatsPartByPart);
        all.hold(15, "but what is not possible (for which sit() or rise() would throw an exception)",
            TextSentences::seatsNotPossible);
        all.hold(15, "and clears the buffer", TextSentences::seatsClears);
        all.hold(15, "Undoable, as one call", TextSentences::seatsUndone);
        all.hold(15, "also if nothing is done", TextSentences::seatsUndoneOfNothing);
        all.hold(15, "Returns how many parts are done", TextSentences::seatsDone);
        all.hold(15, "if the buffer is not complete seats as a text", TextSentences::seatsIncomplete);
        all.hold(15, "(the buffer stays)", TextSentences::seatsBufferStays);
    }

    private static void told(Sentences all) {
        all.hold(16, "Returns a character of a table as a text: for each seat the letter of the guest's family, \"A\" to \"F\"",
            TextSentences::toldFamilies);
        all.hold(16, "\".\" if nobody sits there", TextSentences::toldNobody);
        all.hold(16, "and behind it \"|\", if the seat is at a leg", TextSentences::toldLegs);
        all.hold(16, "`table`: its number", TextSentences::toldTable);
        all.hold(16, "`index`: 0 or more", TextSentences::toldIndex);
        all.hold(16, "Returns the code of the character at this index of the text, from 0", TextSentences::toldCodes);
        all.hold(16, "NONE if it has not so many", TextSentences::toldBehindTheEnd);
        all.hold(16, "if there is no such table", TextSentences::toldOfNoTable);
        all.hold(16, "if index is below 0", TextSentences::toldBelow);
    }

    // ---- promise 12

    private static void appendsAtTheEnd() {
        SupperSeats x = Given.supper("3", "A1", "");
        x.append('0');
        x.append('@');
        Due.is("firstError before the end is there", x.firstError(), 2);
        x.append('0');
        x.append('b');
        Due.is("seats", x.seats(), 1);
        Due.is("who", x.who(0, 1), 0);
        SupperSeats y = new SupperSeats();
        long before = y.digest();
        y.append('-');
        Due.is("digest with one character", y.digest(), 31 * (before + 1) + '-');
        Due.is("saved states", y.count(13), 0);
    }

    private static void appendCodes() {
        SupperSeats x = new SupperSeats();
        for (int code = 33; code <= 126; code++) {
            Due.is("append(" + code + ")", x.append(code), 1);
            Due.is("clearBuffer", x.clearBuffer(), 1);
        }
    }

    private static void appendLength() {
        SupperSeats x = new SupperSeats();
        for (int length = 1; length <= 60; length++) {
            Due.is("append", x.append('x'), length);
        }
        x.clearBuffer();
        Due.is("append to a cleared buffer", x.append('x'), 1);
    }

    private static void appendWrongCode() {
        SupperSeats x = new SupperSeats();
        for (int wrong : Given.outside(33, 126)) {
            Due.fails(x, "append(" + wrong + ")", Due.ARGUMENT, () -> x.append(wrong));
        }
        for (int wrong : new int[] {0, 10, 32, 127, 128, 255, 256}) {
            Due.fails(x, "append(" + wrong + ")", Due.ARGUMENT, () -> x.append(wrong));
        }
        Due.is("length", x.clearBuffer(), 0);
    }

    private static void appendToFull() {
        SupperSeats x = Given.buffer(new SupperSeats(), "-0;".repeat(20));
        Due.fails(x, "append of a character that would fit", Due.STATE, () -> x.append('-'));
        Due.fails(x, "append of 33", Due.STATE, () -> x.append(33));
        Due.fails(x, "append of 126", Due.STATE, () -> x.append(126));
        Due.is("length", x.clearBuffer(), 60);
    }

    // ---- promise 13

    private static void clears() {
        SupperSeats x = Given.supper("3", "A1", "");
        long before = x.digest();
        Given.buffer(x, "0@0");
        x.clearBuffer();
        Due.is("digest", x.digest(), before);
        Due.is("seats of what comes then", Given.seats(x, "0@0b"), 1);
        Due.is("firstError", x.firstError(), 0);
    }

    private static void clearedLength() {
        SupperSeats x = new SupperSeats();
        Due.is("of an empty buffer", x.clearBuffer(), 0);
        Due.is("of one character", Given.buffer(x, "-").clearBuffer(), 1);
        Due.is("of a full buffer", Given.buffer(x, "-".repeat(60)).clearBuffer(), 60);
        Due.is("of a cleared buffer", x.clearBuffer(), 0);
        Due.is("saved states", x.count(13), 0);
    }

    // ---- promise 14

    private static void findsTheFirst() {
        SupperSeats x = Given.buffer(new SupperSeats(), "-0;x;x");
        Due.is("firstError", x.firstError(), 3);
        Due.is("firstError again", x.firstError(), 3);
        Due.changesNothing(x, "firstError", x::firstError);
        x.append('x');
        Due.is("firstError of a longer text", x.firstError(), 3);
        x.clearBuffer();
        Due.is("firstError of '16;-0'", Given.buffer(x, "16;-0").firstError(), 1);
    }

    private static void errorAtEachIndex() {
        String right = "0@0a;15@3h;-10;-9;9@1b;1@0c;-1;-15;10@2g;-0;12@3d;2@0e;3@2f;";
        for (int index = 0; index < 60; index++) {
            SupperSeats x = Given.buffer(new SupperSeats(), right.substring(0, index) + '#');
            Due.is("firstError", x.firstError(), index);
        }
    }

    private static void noError() {
        String right = "0@0a;15@3h;-10;-9;9@1b;1@0c;-1;-15;10@2g;-0;12@3d;2@0e;3@2f;";
        for (int length = 0; length <= 60; length++) {
            Due.is("firstError", Given.buffer(new SupperSeats(), right.substring(0, length)).firstError(), length);
        }
    }

    // ---- promise 15

    private static void seatsPartByPart() {
        SupperSeats x = Given.supper("8", "A1 B1 C1", "");
        Due.is("seats", Given.seats(x, "0@0a;1@0b;-0;2@0a;0@0h"), 5);
        Due.line("seated", x::seated, 1, 2, 0);
        Due.is("who", x.who(0, 0), 2);
        Due.is("who", x.who(0, 7), 0);
        Due.is("sat down", x.count(7), 4);
        Due.is("stood up", x.count(8), 1);
        SupperSeats y = Given.supper("8", "A1 B1", "0@0a 1@0b");
        Due.is("14 parts", Given.seats(y, "-0;-1;0@0a;-0;0@0a;-0;0@0a;-0;0@0a;-0;0@0a;-0;1@0a;-1"), 14);
        Due.is("guests who sit", y.count(3), 0);
    }

    private static void seatsNotPossible() {
        SupperSeats x = Given.supper("83", "A1 A1 B3 C1", "0@0a");
        x.set(0, 1);
        x.feud(0, 2);
        String[] texts = {"0@0a", "1@0a", "2@0d", "3@0b", "1@0b", "4@0b", "15@0b", "3@2a", "3@3a", "3@1d", "3@1h", "-3", "-4",
            "-15"};
        for (String text : texts) {
            Due.is("seats of " + text, Given.seats(x, text), 0);
        }
        Due.line("seated", x::seated, 0);
        Due.is("the parts around it are done", Given.seats(x, "-3;2@0h;3@0b;3@1c"), 2);
        Due.line("seated", x::seated, 0, 2, 3);
    }

    private static void seatsClears() {
        SupperSeats x = Given.supper("3", "A1", "");
        Given.seats(x, "0@0a");
        Due.is("length", x.clearBuffer(), 0);
        Given.seats(x, "0@0a");
        Due.is("length, where nothing is done", x.clearBuffer(), 0);
        Due.is("append", x.append('-'), 1);
    }

    private static void seatsUndone() {
        SupperSeats x = Given.supper("8", "A1 B1 C1", "0@0a");
        Due.undoable(x, "seats", () -> Given.seats(x, "-0;1@0a;0@0b;2@0c"));
        Due.line("seated", x::seated, 0);
        Due.is("length", x.clearBuffer(), 0);
    }

    private static void seatsUndoneOfNothing() {
        SupperSeats x = Given.supper("8", "A1 B1 C1", "0@0a");
        Due.undoable(x, "seats", () -> Due.is("seats", Given.seats(x, "0@0a;-1;15@3h"), 0));
        SupperSeats y = new SupperSeats();
        Due.is("seats without guests", Given.seats(y, "-0"), 0);
        Due.is("saved states", y.count(13), 1);
    }

    private static void seatsDone() {
        SupperSeats x = Given.supper("8", "A1 B1", "");
        Due.is("of one part none", Given.seats(x, "-0"), 0);
        Due.is("of one part one", Given.seats(x, "0@0a"), 1);
        Due.is("of two parts one", Given.seats(x, "1@0a;1@0b"), 1);
        Due.is("of two parts two", Given.seats(x, "-1;-0"), 2);
        Due.is("of three parts two", Given.seats(x, "0@0h;0@0h;-0"), 2);
        x.sit(0, 0, 0);
        Due.is("of twenty parts one", Given.seats(x, "-0;".repeat(19) + "-0"), 1);
    }

    private static void seatsIncomplete() {
        String[] texts = {"", "-", "0", "15", "0@", "0@0", "0@0a;", "-0;", "-0;-", "-0;0", "-0;0@", "-0;0@0", "x", "-0x", "-0;x",
            "0@0a0", "-16", "0@4a", "0@0i", ";", "-0;;-0", "0@0a;16"};
        for (String text : texts) {
            SupperSeats x = Given.buffer(Given.supper("8", "A1", "0@0h"), text);
            Due.fails(x, "seats of '" + text + "'", Due.ARGUMENT, x::seats);
        }
    }

    private static void seatsBufferStays() {
        SupperSeats x = Given.buffer(Given.supper("8", "A1", "0@0h"), "-0;0@");
        Due.fails(x, "seats of '-0;0@'", Due.ARGUMENT, x::seats);
        Due.is("append", x.append('0'), 6);
        Due.fails(x, "seats of '-0;0@0'", Due.ARGUMENT, x::seats);
        Due.is("who still sits", x.who(0, 7), 0);
        x.append('b');
        Due.is("seats of '-0;0@0b'", x.seats(), 2);
        Given.buffer(x, "x");
        Due.fails(x, "seats of 'x'", Due.ARGUMENT, x::seats);
        Due.is("clearBuffer", x.clearBuffer(), 1);
    }

    // ---- promise 16

    private static void toldFamilies() {
        SupperSeats x = Given.supper("8", "A1 B1 C1 D1 E1 F1", "0@0h 1@0f 2@0e 3@0c 4@0b 5@0a");
        Due.isText("told", Due.told(x, 0), "F|ED.|CB.|A");
    }

    private static void toldNobody() {
        SupperSeats x = Given.supper("4", "A1", "");
        Due.isText("told", Due.told(x, 0), ".|...|");
        x.sit(0, 0, 3);
        Due.isText("told, where one sits", Due.told(x, 0), ".|..A|");
        x.rise(0);
        Due.isText("told, when that one stood up", Due.told(x, 0), ".|...|");
    }

    private static void toldLegs() {
        String[] due = {".|..", ".|...|", ".|...|.", ".|...|..", ".|...|...|", ".|...|...|."};
        for (int seats = 3; seats <= 8; seats++) {
            SupperSeats x = Given.supper("" + seats, "", "");
            Due.isText("told of " + seats + " seats", Due.told(x, 0), due[seats - 3]);
        }
        SupperSeats y = Given.supper("8", "F1 A1 B1", "0@0a 1@0d 2@0g");
        Due.isText("told of guests at legs", Due.told(y, 0), "F|..A|..B|.");
    }

    private static void toldTable() {
        SupperSeats x = Given.supper("3453", "A1 B1", "0@0b 1@3c");
        Due.isText("the first table", Due.told(x, 0), ".|A.");
        Due.isText("the second table", Due.told(x, 1), ".|...|");
        Due.isText("the last table", Due.told(x, 3), ".|.B");
    }

    private static void toldIndex() {
        SupperSeats x = Given.supper("3", "B1", "0@0a");
        Due.is("told(0, 0)", x.told(0, 0), 'B');
        Due.is("told(0, MAX)", x.told(0, Integer.MAX_VALUE), -1);
        Due.changesNothing(x, "told", () -> x.told(0, 1));
    }

    private static void toldCodes() {
        SupperSeats x = Given.supper("5", "A1 F1", "0@0b 1@0d");
        Due.line("told", index -> x.told(0, index), 46, 124, 65, 46, 70, 124, 46);
    }

    private static void toldBehindTheEnd() {
        int[] length = {4, 6, 7, 8, 10, 11};
        for (int seats = 3; seats <= 8; seats++) {
            SupperSeats x = Given.supper(seats + "8", "A1", "0@1a");
            int end = length[seats - 3];
            Due.is("the last character", x.told(0, end - 1), seats == 4 || seats == 7 ? '|' : '.');
            Due.is("behind it", x.told(0, end), -1);
            Due.is("two behind it", x.told(0, end + 1), -1);
            Due.is("far behind it", x.told(0, end + (1 << 28)), -1);
        }
    }

    private static void toldOfNoTable() {
        SupperSeats x = Given.supper("33", "", "");
        for (int wrong : Given.outside(0, 1)) {
            Due.fails(x, "told(" + wrong + ", 0)", Due.INDEX, () -> x.told(wrong, 0));
        }
        SupperSeats y = Given.supper("8888", "", "");
        Due.fails(y, "told(4, 0)", Due.INDEX, () -> y.told(4, 0));
    }

    private static void toldBelow() {
        SupperSeats x = Given.supper("33", "", "");
        for (int wrong : new int[] {-1, -2, -8, Integer.MIN_VALUE, Integer.MIN_VALUE + 1}) {
            Due.fails(x, "told(1, " + wrong + ")", Due.ARGUMENT, () -> x.told(1, wrong));
        }
    }
}
