/** Promises 1 to 8: a new object, STATUS, FRACTIONS, TRAYS. */
public final class TraysTest {
    private TraysTest() {
    }

    public static void main(String[] args) {
        newObject();
        statusAndFraction();
        tray();
        writeAndRead();
        cutToSorts();
        pour();
        Check.end("TraysTest");
    }

    private static void newObject() {
        BreadScribes x = new BreadScribes();
        Check.due("status()", x.status(), 0);
        Check.due("top()", x.top(), 0);
        Check.due("bottom()", x.bottom(), 1);
        Check.due("fault(0)", x.fault(0), -1);
        Check.due("fault(1)", x.fault(1), -1);
        Check.due("NONE", BreadScribes.NONE, -1);
        long[] want = {0, 0, 0, 4, (1 << 30) - 1, 0, 0};
        for (int what = 0; what < want.length; what++) {
            Check.fine(x, "many(" + what + ")", x.many(what), want[what]);
        }
        for (int slice = 1; slice <= 30; slice++) {
            Check.fine(x, "store(" + slice + ")", x.store(slice), 0);
        }
        for (int tray = 0; tray < 4; tray++) {
            Check.refused(x, "read of tray " + tray, x.read(tray, 0), 3);
        }
        Check.refused(x, "live(0)", x.live(0), 8);
        Check.refused(x, "lived(0)", x.lived(0), 8);
        Check.refused(x, "back()", x.back(), 8);
        Check.refused(x, "man(0, 0)", x.man(0, 0), 2);
        Check.refused(x, "bakery(1)", x.bakery(1), 5);
        Check.due("feed", x.feed(0, 0, 0, 0, 0), 20);
    }

    private static void statusAndFraction() {
        BreadScribes x = Check.with("store 2; store 3 times 2;");
        Check.refused(x, "store(0)", x.store(0), 2);
        Check.due("status() once more", x.status(), 2);
        x.fault(0);
        x.feed(0, 0, 0, 0, 0);
        x.top();
        x.bottom();
        Check.due("status() behind calls without one", x.status(), 2);
        Check.fraction(x, "worth()", x.worth(), 7, 6);
        Check.refused(x, "lacks(0)", x.lacks(0), 2);
        Check.due("top() behind a call with STATUS 2", x.top(), 7);
        Check.due("bottom() behind a call with STATUS 2", x.bottom(), 6);
        x.store(3);
        Check.due("top() behind a call without FRACTION", x.top(), 7);
    }

    private static void tray() {
        BreadScribes x = new BreadScribes();
        Check.refused(x, "tray(-1, 0, 1)", x.tray(-1, 0, 1), 1);
        Check.refused(x, "tray(4, 0, 1)", x.tray(4, 0, 1), 1);
        Check.refused(x, "tray(0, -1, 1)", x.tray(0, -1, 1), 1);
        Check.refused(x, "tray(0, 4, 1)", x.tray(0, 4, 1), 1);
        Check.refused(x, "tray(0, 4, 61)", x.tray(0, 4, 61), 1);
        Check.refused(x, "tray(0, 0, 61)", x.tray(0, 0, 61), 5);
        Check.refused(x, "tray(0, 0, max)", x.tray(0, 0, Integer.MAX_VALUE), 5);
        Check.refused(x, "tray(0, 0, -1)", x.tray(0, 0, -1), 6);
        Check.refused(x, "tray(0, 0, min)", x.tray(0, 0, Integer.MIN_VALUE), 6);
        Check.refused(x, "read(0, 0)", x.read(0, 0), 3);
        Check.fine(x, "tray(0, 3, 60)", x.tray(0, 3, 60));
        Check.fine(x, "tray(3, 0, 0)", x.tray(3, 0, 0));
        Check.refused(x, "read(3, 0)", x.read(3, 0), 4);
        for (int place = 0; place < 60; place++) {
            Check.fine(x, "read(0, " + place + ")", x.read(0, place), 0);
            x.write(0, place, 7);
        }
        Check.refused(x, "tray(0, 0, 61)", x.tray(0, 0, 61), 5);
        Check.fine(x, "read(0, 59)", x.read(0, 59), 7);
        Check.fine(x, "tray(0, 3, 60) once more", x.tray(0, 3, 60));
        for (int place = 0; place < 60; place++) {
            Check.fine(x, "read(0, " + place + ")", x.read(0, place), 0);
        }
        Check.fine(x, "tray(0, 3, 2)", x.tray(0, 3, 2));
        Check.refused(x, "read(0, 2)", x.read(0, 2), 4);
    }

    private static void writeAndRead() {
        BreadScribes x = new BreadScribes();
        x.tray(1, 3, 3);
        Check.fine(x, "write(1, 2, -1)", x.write(1, 2, -1));
        Check.fine(x, "read(1, 2)", x.read(1, 2), -1);
        Check.fine(x, "read(1, 1)", x.read(1, 1), 0);
        Check.refused(x, "write(-1, 0, 1)", x.write(-1, 0, 1), 1);
        Check.refused(x, "write(4, 0, 1)", x.write(4, 0, 1), 1);
        Check.refused(x, "write(0, 0, 1)", x.write(0, 0, 1), 3);
        Check.refused(x, "write(1, -1, 1)", x.write(1, -1, 1), 4);
        Check.refused(x, "write(1, 3, 1)", x.write(1, 3, 1), 4);
        Check.refused(x, "read(-1, 0)", x.read(-1, 0), 1);
        Check.refused(x, "read(4, 0)", x.read(4, 0), 1);
        Check.refused(x, "read(2, -1)", x.read(2, -1), 3);
        Check.refused(x, "read(1, -1)", x.read(1, -1), 4);
        Check.refused(x, "read(1, 3)", x.read(1, 3), 4);
        Check.refused(x, "read(1, max)", x.read(1, Integer.MAX_VALUE), 4);
        Check.fine(x, "read(1, 2)", x.read(1, 2), -1);
    }

    private static void cutToSorts() {
        long[] values = {0, 127, 128, -129, 32767, 32768, -32769, 2147483647L, 2147483648L, -2147483649L,
            Long.MAX_VALUE, Long.MIN_VALUE, 0x123456789abcdef0L};
        BreadScribes x = new BreadScribes();
        for (int sort = 0; sort < 4; sort++) {
            x.tray(sort, sort, values.length);
            int lost = 64 - (8 << sort);
            for (int i = 0; i < values.length; i++) {
                x.write(sort, i, values[i]);
                long want = values[i] << lost >> lost;
                Check.fine(x, "read of sort " + sort + ", " + values[i], x.read(sort, i), want);
            }
        }
    }

    private static void pour() {
        BreadScribes x = new BreadScribes();
        x.tray(0, 1, 5);
        x.tray(1, 1, 4);
        x.tray(2, 2, 4);
        for (int i = 0; i < 5; i++) {
            x.write(0, i, i + 1);
        }
        Check.fine(x, "pour(0, 1, 1, 2, 2)", x.pour(0, 1, 1, 2, 2));
        cells(x, 1, 0, 0, 2, 3);
        cells(x, 0, 1, 2, 3, 4, 5);
        Check.fine(x, "pour ahead within one", x.pour(0, 0, 0, 1, 4));
        cells(x, 0, 1, 1, 2, 3, 4);
        Check.fine(x, "pour back within one", x.pour(0, 2, 0, 0, 3));
        cells(x, 0, 2, 3, 4, 3, 4);
        Check.fine(x, "pour of none at the ends", x.pour(0, 5, 1, 4, 0));
        Check.fine(x, "pour of all", x.pour(0, 0, 0, 0, 5));
        cells(x, 0, 2, 3, 4, 3, 4);
        Check.refused(x, "pour from no tray", x.pour(-1, 0, 3, 0, 1), 1);
        Check.refused(x, "pour to no tray", x.pour(3, 0, 4, 0, 1), 1);
        Check.refused(x, "pour from a missing one", x.pour(3, 0, 0, 0, 1), 3);
        Check.refused(x, "pour to a missing one", x.pour(0, 0, 3, 0, -1), 3);
        Check.refused(x, "pour to another sort", x.pour(0, 9, 2, 0, -1), 11);
        Check.refused(x, "pour of -1", x.pour(0, 9, 1, 0, -1), 6);
        Check.refused(x, "pour from -1", x.pour(0, -1, 1, 0, 1), 4);
        Check.refused(x, "pour to -1", x.pour(0, 0, 1, -1, 1), 4);
        Check.refused(x, "pour from too far", x.pour(0, 4, 1, 0, 2), 4);
        Check.refused(x, "pour to too far", x.pour(0, 0, 1, 3, 2), 4);
        Check.refused(x, "pour of none from too far", x.pour(0, 6, 1, 0, 0), 4);
        Check.refused(x, "pour of none to too far", x.pour(0, 0, 1, 5, 0), 4);
        Check.refused(x, "pour from max", x.pour(0, Integer.MAX_VALUE, 1, 0, Integer.MAX_VALUE), 4);
        Check.refused(x, "pour to max", x.pour(0, 0, 1, Integer.MAX_VALUE, Integer.MAX_VALUE), 4);
        cells(x, 0, 2, 3, 4, 3, 4);
        cells(x, 1, 0, 0, 2, 3);
    }

    private static void cells(BreadScribes x, int tray, long... want) {
        for (int i = 0; i < want.length; i++) {
            Check.fine(x, "read(" + tray + ", " + i + ")", x.read(tray, i), want[i]);
        }
    }
}
