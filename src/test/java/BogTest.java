/** Promises 1 and 6 to 11, as far as no hour has to go by. */
public final class BogTest {
    private static final Check CHECK = new Check("BogTest");

    public static void main(String[] args) {
        newObject();
        counting();
        weather();
        settingCells();
        stacking();
        cells();
        gangs();
        CHECK.finish();
    }

    private static void newObject() {
        PeatBog bog = new PeatBog();
        int[] due = {0, 0, 0, 0, 0, 0, 0, 0, 0, 0, 0, 63 * 30, 0};
        for (int what = 0; what < due.length; what++) {
            CHECK.same("count(" + what + ") of a new object", bog.count(what), due[what]);
        }
        for (int i = 0; i < 64; i++) {
            int[] cell = {i == 0 ? 0 : 30, 3, 0, 0, 0};
            for (int what = 0; what < cell.length; what++) {
                CHECK.same("new cell " + i + ", " + what, bog.cell(i % 8, i / 8, what), cell[what]);
            }
        }
        for (int day = 0; day < 12; day++) {
            CHECK.same("new weather of " + day, bog.setWeather(day, 0, 4), 4);
        }
        CHECK.same("errorAt()", bog.errorAt(), -1);
        CHECK.throwsOf(IndexOutOfBoundsException.class, "byteAt(0)", () -> bog.byteAt(0));
        CHECK.throwsOf(IndexOutOfBoundsException.class, "gang(0, 0)", () -> bog.gang(0, 0));
    }

    private static void counting() {
        PeatBog bog = Check.taught("gang a at 1 1 { cut 6; load 2; } gang b at 2 2 { cut 5; load 3; } gang c at 0 0 {}");
        bog.stack(3, 3, 30, 20);
        bog.stack(4, 4, 9, 20);
        bog.setWeather(0, 9, 0);
        bog.set(7, 7, 30, 9);
        bog.set(0, 0, 0, 5);
        bog.pass(10);
        bog.pass(4);
        bog.feed(0, 0, 0, 0, 0);
        bog.draw();
        int[] due = {1, 4, 3, 20, 72, 0, 0, 4 + 2 + 27 + 9, 5, 3, 11, 63 * 30 - 11, 2};
        for (int what = 0; what < due.length; what++) {
            CHECK.same("count(" + what + ")", bog.count(what), due[what]);
        }
        CHECK.refused(bog, IndexOutOfBoundsException.class, "count(-1)", () -> bog.count(-1));
        CHECK.refused(bog, IndexOutOfBoundsException.class, "count(13)", () -> bog.count(13));
    }

    private static void weather() {
        PeatBog bog = new PeatBog();
        CHECK.same("setWeather(0, 3, 5)", bog.setWeather(0, 3, 5), 4);
        CHECK.same("setWeather(0, 9, 9)", bog.setWeather(0, 9, 9), 35);
        CHECK.same("setWeather(0, 0, 0)", bog.setWeather(0, 0, 0), 99);
        CHECK.same("setWeather(11, 7, 0)", bog.setWeather(11, 7, 0), 4);
        CHECK.same("setWeather(11, 0, 0)", bog.setWeather(11, 0, 0), 70);
        Class<? extends RuntimeException> index = IndexOutOfBoundsException.class;
        Class<? extends RuntimeException> argument = IllegalArgumentException.class;
        CHECK.refused(bog, index, "setWeather(-1, 0, 0)", () -> bog.setWeather(-1, 0, 0));
        CHECK.refused(bog, index, "setWeather(12, 0, 0)", () -> bog.setWeather(12, 0, 0));
        CHECK.refused(bog, index, "setWeather(12, 10, -1)", () -> bog.setWeather(12, 10, -1));
        CHECK.refused(bog, argument, "setWeather(1, 10, 5)", () -> bog.setWeather(1, 10, 5));
        CHECK.refused(bog, argument, "setWeather(1, -1, 5)", () -> bog.setWeather(1, -1, 5));
        CHECK.refused(bog, argument, "setWeather(1, 5, 10)", () -> bog.setWeather(1, 5, 10));
        CHECK.refused(bog, argument, "setWeather(1, 5, -1)", () -> bog.setWeather(1, 5, -1));
    }

    private static void settingCells() {
        PeatBog bog = new PeatBog();
        CHECK.same("set(2, 5, 60, 9)", bog.set(2, 5, 60, 9), 303);
        CHECK.same("peat", bog.cell(2, 5, 0), 60);
        CHECK.same("water", bog.cell(2, 5, 1), 9);
        CHECK.same("peat of (5, 2)", bog.cell(5, 2, 0), 30);
        CHECK.same("set(2, 5, 0, 0)", bog.set(2, 5, 0, 0), 609);
        CHECK.same("set(2, 5, 1, 1)", bog.set(2, 5, 1, 1), 0);
        CHECK.same("set(0, 0, 0, 9)", bog.set(0, 0, 0, 9), 3);
        CHECK.same("set(7, 0, 7, 7)", bog.set(7, 0, 7, 7), 303);
        CHECK.same("set(0, 7, 8, 8)", bog.set(0, 7, 8, 8), 303);
        CHECK.same("set(7, 0, 7, 7) again", bog.set(7, 0, 7, 7), 77);
        Class<? extends RuntimeException> index = IndexOutOfBoundsException.class;
        Class<? extends RuntimeException> argument = IllegalArgumentException.class;
        CHECK.refused(bog, index, "set(8, 0, 1, 1)", () -> bog.set(8, 0, 1, 1));
        CHECK.refused(bog, index, "set(-1, 1, 1, 1)", () -> bog.set(-1, 1, 1, 1));
        CHECK.refused(bog, index, "set(0, 8, 1, 1)", () -> bog.set(0, 8, 1, 1));
        CHECK.refused(bog, index, "set(1, -1, 1, 1)", () -> bog.set(1, -1, 1, 1));
        CHECK.refused(bog, index, "set(8, 1, 61, 10)", () -> bog.set(8, 1, 61, 10));
        CHECK.refused(bog, argument, "set(1, 1, 61, 1)", () -> bog.set(1, 1, 61, 1));
        CHECK.refused(bog, argument, "set(1, 1, -1, 1)", () -> bog.set(1, 1, -1, 1));
        CHECK.refused(bog, argument, "set(1, 1, 1, 10)", () -> bog.set(1, 1, 1, 10));
        CHECK.refused(bog, argument, "set(1, 1, 1, -1)", () -> bog.set(1, 1, 1, -1));
        CHECK.refused(bog, argument, "set(0, 0, 1, 1)", () -> bog.set(0, 0, 1, 1));
    }

    private static void stacking() {
        PeatBog bog = new PeatBog();
        CHECK.same("stack(2, 5, 3, 20)", bog.stack(2, 5, 3, 20), 3);
        CHECK.same("stack(2, 5, 4, 5)", bog.stack(2, 5, 4, 5), 7);
        CHECK.same("bricks", bog.cell(2, 5, 2), 7);
        CHECK.same("mixed wetness", bog.cell(2, 5, 3), (3 * 20 + 4 * 5) / 7);
        CHECK.same("not turned", bog.cell(2, 5, 4), 0);
        CHECK.same("stack(2, 5, 92, 0)", bog.stack(2, 5, 92, 0), 99);
        CHECK.same("mixed wetness of 99", bog.cell(2, 5, 3), 7 * 11 / 99);
        CHECK.same("stack(0, 0, 99, 20)", bog.stack(0, 0, 99, 20), 99);
        CHECK.same("stack(1, 1, 1, 0)", bog.stack(1, 1, 1, 0), 1);
        Class<? extends RuntimeException> index = IndexOutOfBoundsException.class;
        Class<? extends RuntimeException> argument = IllegalArgumentException.class;
        Class<? extends RuntimeException> state = IllegalStateException.class;
        CHECK.refused(bog, state, "stack(2, 5, 1, 0)", () -> bog.stack(2, 5, 1, 0));
        CHECK.refused(bog, state, "stack(1, 1, 99, 0)", () -> bog.stack(1, 1, 99, 0));
        CHECK.refused(bog, argument, "stack(2, 5, 0, 0)", () -> bog.stack(2, 5, 0, 0));
        CHECK.refused(bog, argument, "stack(2, 5, 100, 0)", () -> bog.stack(2, 5, 100, 0));
        CHECK.refused(bog, argument, "stack(2, 5, 1, 21)", () -> bog.stack(2, 5, 1, 21));
        CHECK.refused(bog, argument, "stack(3, 3, 1, -1)", () -> bog.stack(3, 3, 1, -1));
        CHECK.refused(bog, argument, "stack(3, 3, -5, 1)", () -> bog.stack(3, 3, -5, 1));
        CHECK.refused(bog, index, "stack(8, 5, 0, 21)", () -> bog.stack(8, 5, 0, 21));
        CHECK.refused(bog, index, "stack(-1, 5, 1, 1)", () -> bog.stack(-1, 5, 1, 1));
        CHECK.refused(bog, index, "stack(5, 8, 1, 1)", () -> bog.stack(5, 8, 1, 1));
        CHECK.refused(bog, index, "stack(5, -1, 1, 1)", () -> bog.stack(5, -1, 1, 1));
    }

    private static void cells() {
        PeatBog bog = Check.taught("gang a at 6 1 { turn; }");
        bog.set(6, 1, 12, 8);
        bog.stack(6, 1, 5, 17);
        bog.pass(1);
        int[] due = {12, 8, 5, 17, 1};
        for (int what = 0; what < due.length; what++) {
            CHECK.same("cell(6, 1, " + what + ")", bog.cell(6, 1, what), due[what]);
        }
        CHECK.same("cell(1, 6, 0)", bog.cell(1, 6, 0), 30);
        bog.stack(6, 1, 1, 20);
        CHECK.same("turned, with bricks that came later", bog.cell(6, 1, 4), 1);
        Class<? extends RuntimeException> index = IndexOutOfBoundsException.class;
        CHECK.refused(bog, index, "cell(6, 1, 5)", () -> bog.cell(6, 1, 5));
        CHECK.refused(bog, index, "cell(6, 1, -1)", () -> bog.cell(6, 1, -1));
        CHECK.refused(bog, index, "cell(8, 1, 0)", () -> bog.cell(8, 1, 0));
        CHECK.refused(bog, index, "cell(-1, 1, 0)", () -> bog.cell(-1, 1, 0));
        CHECK.refused(bog, index, "cell(1, 8, 0)", () -> bog.cell(1, 8, 0));
        CHECK.refused(bog, index, "cell(1, -1, 0)", () -> bog.cell(1, -1, 0));
    }

    private static void gangs() {
        PeatBog bog = Check.taught("gang a at 6 1 { cut 0; load 4; wait 3; } gang b at 0 7 { }");
        bog.stack(6, 1, 5, 17);
        bog.pass(3);
        int[] a = {6, 1, 4, 17, 0, 0, 1, 3, 2};
        int[] b = {0, 7, 0, 0, 1, 3, 0, 3, 0};
        for (int what = 0; what < 9; what++) {
            CHECK.same("gang(0, " + what + ")", bog.gang(0, what), a[what]);
            CHECK.same("gang(1, " + what + ")", bog.gang(1, what), b[what]);
        }
        Class<? extends RuntimeException> index = IndexOutOfBoundsException.class;
        CHECK.refused(bog, index, "gang(2, 0)", () -> bog.gang(2, 0));
        CHECK.refused(bog, index, "gang(-1, 0)", () -> bog.gang(-1, 0));
        CHECK.refused(bog, index, "gang(0, 9)", () -> bog.gang(0, 9));
        CHECK.refused(bog, index, "gang(0, -1)", () -> bog.gang(0, -1));
    }
}
