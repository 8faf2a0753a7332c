/** The promises 17 to 19. */
public final class UndoTest {
    private UndoTest() {
    }

    public static void main(String[] args) {
        undo();
        undoOfSix();
        undoBringsAllBack();
        whatIsUndoable();
        keep();
        restore();
        snapshotIsApart();
        Due.end("UndoTest");
    }

    // Promise 17

    private static void undo() {
        SupperSeats x = new SupperSeats();
        Due.fails(x, "undo of none", Due.STATE, x::undo);
        x.guest(0, 1);
        x.guest(1, 1);
        x.wish(0, 1);
        Due.is("undo", x.undo(), 2);
        Due.is("the wish", x.guestOf(0, 2), -1);
        Due.is("undo", x.undo(), 1);
        Due.is("undo", x.undo(), 0);
        Due.is("guests", x.count(0), 0);
        Due.fails(x, "undo of none left", Due.STATE, x::undo);
        x.set(0, 3);
        Due.is("saved, though nothing changed", x.count(13), 1);
        Due.is("undo", x.undo(), 0);
    }

    private static void undoOfSix() {
        SupperSeats x = new SupperSeats();
        for (int value = 1; value <= 20; value++) {
            x.set(1, value);
            Due.is("saved", x.count(13), Math.min(value, 6));
        }
        for (int left = 5; left >= 0; left--) {
            Due.is("undo", x.undo(), left);
            Due.is("the setting", x.count(10), 14 + left);
        }
        Due.fails(x, "the seventh undo", Due.STATE, x::undo);
        x.set(1, 7);
        x.set(1, 8);
        x.undo();
        Due.is("the setting", x.count(10), 7);
        x.set(1, 9);
        x.undo();
        x.undo();
        Due.is("the setting", x.count(10), 14);
    }

    private static void undoBringsAllBack() {
        SupperSeats x = aSupper();
        x.undo();
        long before = x.digest();
        for (int way = 0; way < 12; way++) {
            int saved = x.count(13);
            change(x, way);
            Due.is("it saves, way " + way, x.count(13), saved + 1);
            Due.is("it changes, way " + way, x.digest() == before ? 1 : 0, 0);
            x.undo();
            Due.is("undone, way " + way, x.digest(), before);
        }
    }

    private static SupperSeats aSupper() {
        SupperSeats x = new SupperSeats();
        x.table(8);
        x.table(3);
        x.guest(0, 1);
        x.guest(1, 2);
        x.keep();
        x.guest(1, 2);
        x.wish(0, 1);
        x.feud(4, 5);
        x.sit(0, 0, 0);
        x.sit(1, 0, 1);
        x.append('-');
        x.set(0, 4);
        return x;
    }

    private static void change(SupperSeats x, int way) {
        switch (way) {
            case 0: x.guest(3, 3); break;
            case 1: x.wish(1, 0); break;
            case 2: x.table(5); break;
            case 3: x.feud(0, 1); break;
            case 4: x.peace(4, 5); break;
            case 5: x.set(2, 17); break;
            case 6: x.sit(0, 1, 2); break;
            case 7: x.sit(0, 0, 5); break;
            case 8: x.rise(0); break;
            case 9: x.swap(0, 1); break;
            case 10: x.seatAll(); break;
            default: x.restore(); break;
        }
    }

    private static void whatIsUndoable() {
        SupperSeats x = new SupperSeats();
        x.keep();
        Due.is("keep", x.count(13), 0);
        x.append('-');
        x.firstError();
        x.clearBuffer();
        Due.is("texts", x.count(13), 0);
        x.guest(0, 1);
        x.table(3);
        x.seated(0);
        x.feudAt(0);
        x.whyNot(0, 0, 0);
        x.ifSat(0, 0, 0);
        x.bestSeat(0);
        x.ifFeud(0, 1);
        x.ifSeated(0);
        x.met();
        x.digest();
        Due.is("looks", x.count(13), 2);
        x.seatAll();
        x.feud(0, 1);
        x.peace(0, 1);
        x.restore();
        Due.is("the rest", x.count(13), 6);
        x.undo();
        Due.is("restore undone", x.count(3), 1);
        x.undo();
        Due.is("peace undone", x.count(2), 1);
        x.undo();
        x.undo();
        Due.is("seatAll undone", x.count(3), 0);
    }

    // Promises 18 and 19

    private static void keep() {
        SupperSeats x = new SupperSeats();
        Due.is("keep", x.keep(), 0);
        x.table(3);
        x.guest(0, 1);
        x.guest(1, 1);
        x.sit(1, 0, 1);
        Due.is("keep", x.keep(), 1);
        x.sit(0, 0, 0);
        Due.is("restore", x.restore(), 1);
        Due.is("keep in place of the one before", x.keep(), 1);
        x.rise(1);
        Due.is("keep", x.keep(), 0);
        x.sit(0, 0, 2);
        Due.is("restore", x.restore(), 0);
        Due.is("guests", x.count(0), 2);
    }

    private static void restore() {
        SupperSeats x = new SupperSeats();
        Due.fails(x, "restore of none", Due.STATE, x::restore);
        x.table(4);
        x.guest(0, 1);
        x.guest(1, 1);
        x.guest(2, 1);
        x.sit(0, 0, 0);
        x.sit(1, 0, 1);
        x.wish(0, 1);
        x.feud(3, 2);
        x.set(1, 7);
        x.keep();
        x.guest(3, 1);
        x.table(8);
        x.rise(1);
        x.wish(0, 2);
        x.peace(2, 3);
        x.set(1, 9);
        x.append('-');
        Due.is("restore", x.restore(), 2);
        int[] counts = {3, 1, 1, 2, 12, 12, 1, 2, 0, 3, 7, 3, 2, 6};
        for (int what = 0; what < counts.length; what++) {
            Due.is("restored count(" + what + ")", x.count(what), counts[what]);
        }
        Due.is("feudAt", x.feudAt(0), 15);
        Due.is("the buffer stays", x.clearBuffer(), 1);
        x.undo();
        Due.is("restore undone", x.count(10), 9);
        Due.is("guests", x.count(0), 4);
        Due.is("the snapshot stays", x.restore(), 2);
        Due.is("the snapshot stays", x.restore(), 2);
        Due.is("setting", x.count(10), 7);
    }

    private static void snapshotIsApart() {
        SupperSeats x = new SupperSeats();
        x.table(3);
        x.guest(0, 1);
        x.keep();
        x.undo();
        Due.is("guests", x.count(0), 0);
        Due.is("undo leaves the snapshot", x.restore(), 0);
        Due.is("guests", x.count(0), 1);
        x.sit(0, 0, 0);
        Due.is("a change leaves the snapshot", x.restore(), 0);
        Due.is("it stands", x.guestOf(0, 3), -1);
        x.undo();
        Due.is("it sits", x.guestOf(0, 3), 0);
    }
}
