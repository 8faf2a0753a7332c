/** The promises 17 to 19, sentence by sentence. */
final class UndoSentences {
    private UndoSentences() {
    }

    static void tell(Sentences all) {
        undo(all);
        keep(all);
        restore(all);
    }

    private static void undo(Sentences all) {
        all.hold(17, "Restores the latest saved state", UndoSentences::undoRestores);
        all.hold(17, "and drops it", UndoSentences::undoDrops);
        all.hold(17, "Returns how many saved states are left", UndoSentences::undoLeft);
        all.hold(17, "if there is none", UndoSentences::undoOfNone);
    }

    private static void keep(Sentences all) {
        all.hold(18, "Takes a snapshot", UndoSentences::keepTakes);
        all.hold(18, "in place of the one before", UndoSentences::keepReplaces);
        all.hold(18, "Returns how many guests sit", UndoSentences::keepSitting);
    }

    private static void restore(Sentences all) {
        all.hold(19, "Restores the state of the snapshot", UndoSentences::restoreRestores);
        all.hold(19, "which stays", UndoSentences::snapshotStays);
        all.hold(19, "Undoable", UndoSentences::restoreUndone);
        all.hold(19, "Returns how many guests sit then", UndoSentences::restoreSitting);
        all.hold(19, "if there is no snapshot", UndoSentences::restoreOfNone);
    }

    /** Two suppers that differ in all that a state holds. */
    private static void changeAll(SupperSeats x) {
        Given.seats(x, "-0;1@1c;2@0b");
        x.guest(5, 3);
        x.table(5);
        x.wish(0, 2);
        x.wish(1, SupperSeats.NONE);
        x.feud(2, 5);
        x.peace(3, 4);
        x.set(0, 4);
        x.set(1, 6);
        x.set(2, 4);
        x.set(3, 1);
    }

    private static SupperSeats aSupper() {
        SupperSeats x = Given.supper("83", "A1 B2 C1", "0@0a 1@0d");
        Given.wish(x, "0>1 1>2");
        x.feud(3, 4);
        return x;
    }

    // ---- promise 17

    private static void undoRestores() {
        SupperSeats x = new SupperSeats();
        long[] before = new long[4];
        before[0] = x.digest();
        x.table(3);
        before[1] = x.digest();
        x.guest(0, 1);
        before[2] = x.digest();
        x.sit(0, 0, 2);
        before[3] = x.digest();
        x.seatAll();
        for (int step = 3; step >= 0; step--) {
            x.undo();
            Due.is("digest after undo", x.digest(), before[step]);
        }
    }

    private static void undoDrops() {
        SupperSeats x = new SupperSeats();
        x.set(1, 11);
        x.set(1, 12);
        x.undo();
        x.undo();
        Due.is("the setting after two undos", x.count(10), 5);
        x.set(1, 13);
        x.set(1, 14);
        x.undo();
        x.set(1, 15);
        x.undo();
        Due.is("the setting after undo of a new way", x.count(10), 13);
        x.undo();
        Due.is("the setting after undo of all", x.count(10), 5);
        Due.is("saved states", x.count(13), 0);
    }

    private static void undoLeft() {
        SupperSeats x = new SupperSeats();
        for (int value = 1; value <= 7; value++) {
            x.set(1, value);
        }
        for (int left = 5; left >= 0; left--) {
            Due.is("undo", x.undo(), left);
            Due.is("saved states", x.count(13), left);
        }
    }

    private static void undoOfNone() {
        SupperSeats x = new SupperSeats();
        Due.fails(x, "undo on a new object", Due.STATE, x::undo);
        x.keep();
        x.append('-');
        x.clearBuffer();
        Due.fails(x, "undo after calls that are not undoable", Due.STATE, x::undo);
        x.guest(0, 1);
        x.undo();
        Due.fails(x, "undo of none left", Due.STATE, x::undo);
        for (int value = 1; value <= 6; value++) {
            x.set(1, value);
        }
        for (int step = 0; step < 6; step++) {
            x.undo();
        }
        Due.fails(x, "the seventh undo", Due.STATE, x::undo);
    }

    // ---- promise 18

    private static void keepTakes() {
        SupperSeats x = aSupper();
        Given.roomToSave(x);
        Due.changesNothing(x, "keep", x::keep);
        Due.is("saved states", x.count(13), 5);
        x.undo();
        x.undo();
        Due.is("restore of a state that undo left", x.restore(), 2);
        Due.is("feuds", x.count(2), 1);
    }

    private static void keepReplaces() {
        SupperSeats x = aSupper();
        x.keep();
        x.rise(1);
        x.set(1, 9);
        x.keep();
        x.sit(1, 1, 0);
        x.set(1, 8);
        Due.is("restore", x.restore(), 1);
        Due.is("the setting", x.count(10), 9);
        x.undo();
        x.undo();
        x.undo();
        x.undo();
        x.undo();
        Due.is("restore, after undo of all that was done between", x.restore(), 1);
        Due.is("the setting", x.count(10), 9);
    }

    private static void keepSitting() {
        SupperSeats x = new SupperSeats();
        Due.is("keep of a new object", x.keep(), 0);
        x.table(3);
        x.guest(0, 1);
        x.guest(1, 1);
        Due.is("keep where nobody sits", x.keep(), 0);
        x.sit(1, 0, 0);
        Due.is("keep where one sits", x.keep(), 1);
        SupperSeats y = Given.supper("88", Given.sixteenGuests(), "");
        y.seatAll();
        Due.is("keep where all sit", y.keep(), 16);
    }

    // ---- promise 19

    private static void restoreRestores() {
        SupperSeats x = aSupper();
        long before = x.digest();
        x.keep();
        changeAll(x);
        x.restore();
        Due.is("digest", x.digest(), before);
        SupperSeats y = new SupperSeats();
        y.keep();
        y.table(3);
        y.guest(0, 1);
        y.sit(0, 0, 0);
        Due.is("restore of nothing", y.restore(), 0);
        Due.is("guests", y.count(0), 0);
        Due.is("tables", y.count(1), 0);
        Due.is("saved states", y.count(13), 4);
    }

    private static void snapshotStays() {
        SupperSeats x = aSupper();
        x.keep();
        for (int time = 0; time < 3; time++) {
            changeAll(x);
            Due.is("restore", x.restore(), 2);
            Due.is("guests", x.count(0), 3);
            Due.line("seated", x::seated, 0, 1);
        }
        x.undo();
        Due.is("undo leaves the snapshot", x.restore(), 2);
        Due.is("restore of the same", x.restore(), 2);
    }

    private static void restoreUndone() {
        SupperSeats x = aSupper();
        x.keep();
        changeAll(x);
        Due.undoable(x, "restore", x::restore);
        Due.is("guests", x.count(0), 4);
        Due.is("feuds", x.feudAt(0), 17);
        for (int value = 1; value <= 6; value++) {
            x.set(1, value);
        }
        x.restore();
        Due.is("saved states, of which the oldest is dropped", x.count(13), 6);
        x.undo();
        Due.is("the setting after undo of restore", x.count(10), 6);
    }

    private static void restoreSitting() {
        SupperSeats x = aSupper();
        x.keep();
        x.rise(0);
        Due.is("restore where fewer sit", x.restore(), 2);
        x.sit(2, 1, 0);
        Due.is("restore where more sit", x.restore(), 2);
        x.rise(0);
        x.rise(1);
        x.keep();
        x.seatAll();
        Due.is("restore where all sit", x.restore(), 0);
    }

    private static void restoreOfNone() {
        SupperSeats x = new SupperSeats();
        Due.fails(x, "restore on a new object", Due.STATE, x::restore);
        x.guest(0, 1);
        x.undo();
        Due.fails(x, "restore after undo", Due.STATE, x::restore);
        x.keep();
        Due.is("restore", x.restore(), 0);
    }
}
