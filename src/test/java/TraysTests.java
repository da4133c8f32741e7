/** Promises 1 to 8: a new object, status, the fraction, trays. */
final class TraysTests {
    private TraysTests() {
    }

    public static void main(String[] args) {
        promise1();
        promise2();
        promises3And4();
        promise5();
        promise6();
        promise7();
        promise8();
        Check.close("TraysTests");
    }

    private static void promise1() {
        StiltMarsh x = new StiltMarsh();
        Check.due("1: status", x.status(), 0);
        Check.due("1: top", x.top(), 0);
        Check.due("1: bottom", x.bottom(), 1);
        Check.due("1: fault(0)", x.fault(0), -1);
        Check.due("1: fault(1)", x.fault(1), -1);
        for (int what = 0; what <= 10; what++) {
            Check.fine(x, "1: told " + what, x.told(what), 0);
        }
        for (int tray = 0; tray < 4; tray++) {
            Check.refused(x, "1: tray is missing", x.read(tray, 0), 2);
        }
        Check.refused(x, "1: no cells", x.cell(0, 0, 0), 1);
        Check.refused(x, "1: no walkers", x.walker(0, 0), 1);
        Check.refused(x, "1: no rows", x.gone(0), 1);
        Check.refused(x, "1: no mornings", x.live(0), 6);
        Check.refused(x, "1: no marks", x.undo(), 6);
        Check.refused(x, "1: the tape is empty", x.marsh(1), 1);
        Check.due("1: the tape is empty", x.feed(0, 0, 0, 0, 0), 20);
        Check.due("1: NONE", StiltMarsh.NONE, -1);
    }

    private static void promise2() {
        StiltMarsh x = new StiltMarsh();
        x.tray(9, 0, 0);
        Check.due("2: status stays", x.status(), 1);
        Check.due("2: status asked again", x.status(), 1);
        x.top();
        x.bottom();
        x.feed(0, 0, 0, 0, 0);
        x.fault(0);
        x.fault(77);
        Check.due("2: top, bottom, feed, fault have none", x.status(), 1);
        x.tray(0, 0, 0);
        Check.due("2: a later call", x.status(), 0);
        for (int i = 1; i < 45; i++) {
            x.feed(0, 0, 0, 0, 0);
        }
        x.undo();
        Check.due("2: feed beyond the tape", x.feed(0, 0, 0, 0, 0), -1);
        Check.due("2: even that has none", x.status(), 6);
    }

    private static void promises3And4() {
        StiltMarsh x = Check.marsh("marsh 2 by 3 skin 1 soft 0 deep 0; cell 0 0 odds 6; cell 1 1 odds 0; firm 0 2; firm 1 2;");
        Check.fine(x, "3: luck", x.luck(0));
        Check.due("3: 6 times 8 by 256", x.top(), 3);
        Check.due("4: 6 times 8 by 256", x.bottom(), 16);
        Check.refused(x, "3: no such row", x.luck(3), 1);
        Check.due("3: stays", x.top(), 3);
        Check.due("4: stays", x.bottom(), 16);
        Check.fine(x, "3: luck", x.luck(1));
        Check.due("3: 0 is 0", x.top(), 0);
        Check.due("4: by 1", x.bottom(), 1);
        Check.fine(x, "3: luck", x.luck(2));
        Check.due("3: all firm", x.top(), 1);
        Check.due("4: all firm", x.bottom(), 1);
    }

    private static void promise5() {
        StiltMarsh x = new StiltMarsh();
        Check.refused(x, "5: tray -1", x.tray(-1, 0, 0), 1);
        Check.refused(x, "5: tray 4", x.tray(4, 0, 0), 1);
        Check.refused(x, "5: sort -1", x.tray(0, -1, 0), 1);
        Check.refused(x, "5: sort 4", x.tray(0, 4, 0), 1);
        Check.refused(x, "5: many -1", x.tray(0, 0, -1), 1);
        Check.refused(x, "5: many 61", x.tray(0, 0, 61), 1);
        Check.refused(x, "5: still missing", x.read(0, 0), 2);
        Check.fine(x, "5: empty", x.tray(0, 0, 0));
        Check.refused(x, "5: has no place", x.read(0, 0), 3);
        Check.fine(x, "5: sixty", x.tray(3, 3, 60));
        for (int place = 0; place < 60; place++) {
            Check.fine(x, "5: 0s", x.read(3, place), 0);
        }
        Check.fine(x, "5: write", x.write(3, 59, 7));
        Check.fine(x, "5: made again", x.tray(3, 3, 60));
        Check.fine(x, "5: 0 again", x.read(3, 59), 0);
        Check.fine(x, "5: made shorter", x.tray(3, 1, 5));
        Check.refused(x, "5: shorter", x.read(3, 5), 3);
        Check.fine(x, "5: made longer", x.tray(3, 1, 60));
        Check.fine(x, "5: 0 again", x.read(3, 59), 0);
    }

    private static void promise6() {
        StiltMarsh x = new StiltMarsh();
        Check.refused(x, "6: tray -1", x.write(-1, 0, 0), 1);
        Check.refused(x, "6: tray 4", x.write(4, 0, 0), 1);
        Check.refused(x, "6: missing", x.write(0, -1, 0), 2);
        long[] cuts = {(byte) 0x1234567890ABCDEFL, (short) 0x1234567890ABCDEFL, (int) 0x1234567890ABCDEFL, 0x1234567890ABCDEFL};
        for (int sort = 0; sort < 4; sort++) {
            x.tray(sort, sort, 3);
            Check.fine(x, "6: write", x.write(sort, 1, 0x1234567890ABCDEFL));
            Check.fine(x, "6: cut to sort " + sort, x.read(sort, 1), cuts[sort]);
            Check.fine(x, "6: its neighbours stay", x.read(sort, 0) + x.read(sort, 2), 0);
            Check.fine(x, "6: write", x.write(sort, 1, 1L << (7 + (8 << sort) - 8)));
            Check.fine(x, "6: the sign's bit", x.read(sort, 1), -1L << (8 << sort) - 1);
        }
        Check.refused(x, "6: place 3", x.write(0, 3, 1), 3);
        Check.refused(x, "6: place -1", x.write(0, -1, 1), 3);
    }

    private static void promise7() {
        StiltMarsh x = new StiltMarsh();
        Check.refused(x, "7: tray -1", x.read(-1, 0), 1);
        Check.refused(x, "7: tray 4", x.read(4, 0), 1);
        Check.refused(x, "7: missing", x.read(2, 0), 2);
        x.tray(2, 3, 2);
        x.write(2, 1, -1);
        Check.fine(x, "7: -1 that is there", x.read(2, 1), -1);
        Check.refused(x, "7: place 2", x.read(2, 2), 3);
        Check.fine(x, "7: status 0 again", x.read(2, 1), -1);
        Check.refused(x, "7: place -1", x.read(2, -1), 3);
        x.write(2, 0, Long.MIN_VALUE);
        Check.fine(x, "7: the least", x.read(2, 0), Long.MIN_VALUE);
    }

    private static void promise8() {
        StiltMarsh x = new StiltMarsh();
        x.tray(0, 2, 5);
        x.tray(1, 2, 3);
        x.tray(2, 1, 3);
        for (int i = 0; i < 5; i++) {
            x.write(0, i, i + 1);
        }
        Check.refused(x, "8: from -1", x.pour(-1, 0, 1, 0, 1), 1);
        Check.refused(x, "8: from 4", x.pour(4, 0, 1, 0, 1), 1);
        Check.refused(x, "8: to 4", x.pour(0, 0, 4, 0, 1), 1);
        Check.refused(x, "8: place below 0", x.pour(0, -1, 3, 0, 1), 1);
        Check.refused(x, "8: at below 0", x.pour(0, 0, 3, -1, 1), 1);
        Check.refused(x, "8: many below 0", x.pour(0, 0, 3, 0, -1), 1);
        Check.refused(x, "8: from is missing", x.pour(3, 0, 0, 0, 99), 2);
        Check.refused(x, "8: to is missing", x.pour(0, 0, 3, 0, 99), 2);
        Check.refused(x, "8: unlike ahead of too few", x.pour(0, 0, 2, 0, 99), 8);
        Check.refused(x, "8: from has too few", x.pour(0, 4, 1, 0, 2), 3);
        Check.refused(x, "8: to has too few", x.pour(0, 0, 1, 2, 2), 3);
        Check.refused(x, "8: far beyond", x.pour(0, Integer.MAX_VALUE, 1, 0, Integer.MAX_VALUE), 3);
        Check.refused(x, "8: far beyond", x.pour(0, 0, 1, Integer.MAX_VALUE, 1), 3);
        Check.fine(x, "8: none at the end", x.pour(0, 5, 1, 3, 0));
        Check.fine(x, "8: pour", x.pour(0, 3, 1, 1, 2));
        Check.due("8: poured", x.read(1, 0) * 100 + x.read(1, 1) * 10 + x.read(1, 2), 45);
        Check.fine(x, "8: onto itself, to the right", x.pour(0, 0, 0, 1, 4));
        due5(x, "8: as they were", 11234);
        Check.fine(x, "8: onto itself, to the left", x.pour(0, 1, 0, 0, 4));
        due5(x, "8: as they were", 12344);
    }

    private static void due5(StiltMarsh x, String what, long want) {
        long got = 0;
        for (int i = 0; i < 5; i++) {
            got = got * 10 + x.read(0, i);
        }
        Check.due(what, got, want);
    }
}
