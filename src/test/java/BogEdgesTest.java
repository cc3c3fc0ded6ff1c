/** The edges that part 2 of the terms and the promises 1 and 6 to 11 name, sentence by sentence. */
public final class BogEdgesTest {
    private static final Check CHECK = new Check("BogEdgesTest");
    private static final Class<? extends RuntimeException> INDEX = IndexOutOfBoundsException.class;
    private static final Class<? extends RuntimeException> ARGUMENT = IllegalArgumentException.class;
    private static final Class<? extends RuntimeException> STATE = IllegalStateException.class;
    private static final int LEAST = Integer.MIN_VALUE;
    private static final int MOST = Integer.MAX_VALUE;

    public static void main(String[] args) {
        newObject();
        cellsOfTheBog();
        contentsOfCells();
        noPeatAtTheBarn();
        daysOfTheTable();
        dayAndHour();
        cartsOfGangs();
        mixedBricks();
        countOfWhat();
        tellingCounts();
        weatherOfADay();
        settingOfCells();
        stackingOfBricks();
        tellingCells();
        tellingGangs();
        refusedCallsChangeNothing();
        CHECK.finish();
    }

    private static void newObject() {
        CHECK.sentence("Creates a bog without gangs, on the day 0, at the hour 0.");
        PeatBog bog = new PeatBog();
        int[] due = {0, 0, 0, 0, 0, 0, 0, 0, 0, 0, 0, 1890, 0};
        for (int what = 0; what < 13; what++) {
            CHECK.same("count(" + what + ")", bog.count(what), due[what]);
        }
        CHECK.same("errorAt()", bog.errorAt(), -1);
        CHECK.same("share()", (long) (bog.share() * 1000), 0);
        CHECK.same("foresee(300, 0)", bog.foresee(300, 0), 0);
        CHECK.same("advise(120)", bog.advise(120), -1);
        CHECK.refused(bog, INDEX, "gang(0, 0)", () -> bog.gang(0, 0));
        CHECK.refused(bog, INDEX, "done(0)", () -> bog.done(0));
        CHECK.refused(bog, INDEX, "byteAt(0)", () -> bog.byteAt(0));
        CHECK.same("pass() without gangs", bog.pass(200), 0);
        CHECK.same("the day then", bog.count(0), 20);
        PeatBog other = new PeatBog();
        CHECK.same("a second object is new, too", other.count(0), 0);
        CHECK.same("its sun", other.setWeather(0, 0, 4), 4);
    }

    // ---- part 2

    private static void cellsOfTheBog() {
        CHECK.sentence("It has 8 times 8 cells, x and y are 0 to 7.");
        int[] edges = {LEAST, -8, -1, 0, 7, 8, 9, 64, MOST};
        for (int x : edges) {
            for (int y : edges) {
                PeatBog bog = new PeatBog();
                String at = x + ", " + y;
                if (x >= 0 && x <= 7 && y >= 0 && y <= 7) {
                    CHECK.same("set(" + at + ")", bog.set(x, y, 0, 7), x + y == 0 ? 3 : 303);
                    CHECK.same("stack(" + at + ")", bog.stack(x, y, 5, 5), 5);
                    CHECK.same("cell(" + at + ", 1)", bog.cell(x, y, 1), 7);
                    CHECK.same("dries(" + at + ")", bog.dries(x, y), 0);
                } else {
                    CHECK.refused(bog, INDEX, "set(" + at + ")", () -> bog.set(x, y, 0, 7));
                    CHECK.refused(bog, INDEX, "stack(" + at + ")", () -> bog.stack(x, y, 5, 5));
                    CHECK.refused(bog, INDEX, "cell(" + at + ")", () -> bog.cell(x, y, 1));
                    CHECK.refused(bog, INDEX, "dries(" + at + ")", () -> bog.dries(x, y));
                }
            }
        }
        PeatBog bog = new PeatBog();
        for (int i = 1; i < 64; i++) {
            bog.set(i % 8, i / 8, i % 61, i % 9);
            bog.stack(i % 8, i / 8, i, i % 21);
        }
        for (int i = 1; i < 64; i++) {
            long told = bog.cell(i % 8, i / 8, 0) * 1000 + bog.cell(i % 8, i / 8, 1) * 100 + bog.cell(i % 8, i / 8, 2);
            CHECK.same("each cell has its own", told, i % 61 * 1000 + i % 9 * 100 + i);
        }
    }

    private static void contentsOfCells() {
        CHECK.sentence("Each has peat, 0 to 60 (30, at first), water, 0 to 9 (3, at first), and a stack of bricks, 0 to 99");
        PeatBog bog = new PeatBog();
        for (int i = 0; i < 64; i++) {
            int[] due = {i == 0 ? 0 : 30, 3, 0, 0, 0};
            for (int what = 0; what < 5; what++) {
                CHECK.same("cell " + i + ", " + what, bog.cell(i % 8, i / 8, what), due[what]);
            }
        }
        CHECK.same("the least", bog.set(3, 4, 0, 0), 303);
        CHECK.same("the most", bog.set(3, 4, 60, 9), 0);
        CHECK.same("the most before", bog.set(3, 4, 1, 0), 609);
        CHECK.sentence("turned or not (0, and not, without bricks)");
        PeatBog turned = Check.taught("gang a at 5 6 { turn; load 8; turn; load 2; turn; cut 3; }");
        turned.stack(5, 6, 10, 17);
        turned.pass(2);
        CHECK.same("turned, with bricks", turned.cell(5, 6, 4), 1);
        CHECK.same("wetness, with bricks", turned.cell(5, 6, 3), 17);
        turned.pass(2);
        CHECK.same("turned, without bricks", turned.cell(5, 6, 4), 0);
        CHECK.same("wetness, without bricks", turned.cell(5, 6, 3), 0);
        turned.pass(1);
        CHECK.same("a turn without bricks", turned.cell(5, 6, 4), 0);
        turned.stack(5, 6, 1, 3);
        CHECK.same("not turned, as it is new", turned.cell(5, 6, 4), 0);
        CHECK.same("the wetness of those that came", turned.cell(5, 6, 3), 3);
    }

    private static void noPeatAtTheBarn() {
        CHECK.sentence("The barn stands in the cell x 0, y 0; there is no peat, ever.");
        PeatBog bog = Check.taught("gang a at 0 0 { cut 6; }");
        for (int day = 0; day < 12; day++) {
            bog.setWeather(day, 9, 0);
        }
        for (int peat = 1; peat <= 60; peat += 59) {
            int some = peat;
            CHECK.refused(bog, ARGUMENT, "set(0, 0, " + peat + ", 9)", () -> bog.set(0, 0, some, 9));
        }
        CHECK.same("set(0, 0, 0, 9)", bog.set(0, 0, 0, 9), 3);
        CHECK.same("set(0, 1, 1, 9)", bog.set(0, 1, 1, 9), 303);
        CHECK.same("set(1, 0, 1, 9)", bog.set(1, 0, 1, 9), 303);
        bog.pass(200);
        CHECK.same("peat there", bog.cell(0, 0, 0), 0);
        CHECK.same("peat beside it", bog.cell(1, 0, 0), 6);
        CHECK.same("cut there", bog.count(10), 0);
        CHECK.same("the cut is missed", bog.gang(0, 6), 1);
    }

    private static void daysOfTheTable() {
        CHECK.sentence("on the day t they are those with the number t by the remainder of 12");
        PeatBog bog = new PeatBog();
        for (int day = 0; day < 12; day++) {
            CHECK.same("setWeather(" + day + ")", bog.setWeather(day, day % 10, (day * 7 + 3) % 10), 4);
        }
        for (int day = 0; day < 38; day++) {
            Check.teachText(bog, "gang a at 5 6 { wait 100 + 10*rain + sun; }");
            bog.pass(1);
            int number = day % 12;
            CHECK.same("rain and sun of the day " + day, bog.gang(0, 8) + 1 - 100, 10 * (number % 10) + (number * 7 + 3) % 10);
            bog.pass(9);
        }
    }

    private static void dayAndHour() {
        CHECK.sentence("Time is told in days, from 0, of 10 hours each, 0 to 9.");
        PeatBog bog = new PeatBog();
        for (int hours = 0; hours < 32; hours++) {
            CHECK.same("day", bog.count(0), hours / 10);
            CHECK.same("hour", bog.count(1), hours % 10);
            bog.pass(1);
        }
    }

    private static void cartsOfGangs() {
        CHECK.sentence("Gangs are numbered from 0 in the order in which they are told.");
        PeatBog bog = Check.taught("gang z at 7 0 {} gang y1 at 1 6 {} gang b at 2 5 {} gang a at 3 4 {}");
        int[] xs = {7, 1, 2, 3};
        int[] ys = {0, 6, 5, 4};
        for (int gang = 0; gang < 4; gang++) {
            CHECK.same("x of " + gang, bog.gang(gang, 0), xs[gang]);
            CHECK.same("y of " + gang, bog.gang(gang, 1), ys[gang]);
        }
        CHECK.sentence("with a cart, which bears at most 40 bricks (none, at first), with wetness, 0 to 20 (0 without bricks)");
        for (int[] load : new int[][] {{39, 39}, {40, 40}, {41, 40}, {999999, 40}}) {
            bog = Check.taught("gang a at 5 6 { load " + load[0] + "; load 1; }");
            bog.stack(5, 6, 99, 20);
            CHECK.same("bricks at first", bog.gang(0, 2), 0);
            CHECK.same("wetness at first", bog.gang(0, 3), 0);
            bog.pass(1);
            CHECK.same("load " + load[0], bog.gang(0, 2), load[1]);
            CHECK.same("wetness then", bog.gang(0, 3), 20);
            bog.pass(1);
            CHECK.same("load 1 then", bog.gang(0, 2), 40);
            CHECK.same("missed then", bog.gang(0, 6), load[1] == 40 ? 1 : 0);
        }
        bog = Check.taught("gang a at 5 6 { load 10; unload; go 0,0; load 10; unload; }");
        bog.stack(5, 6, 10, 13);
        bog.stack(0, 0, 10, 13);
        bog.pass(2);
        CHECK.same("wetness behind unload", bog.gang(0, 3), 0);
        bog.pass(12);
        CHECK.same("at the barn", bog.gang(0, 2), 10);
        bog.pass(1);
        CHECK.same("behind unload in the barn", bog.gang(0, 2) + bog.gang(0, 3), 0);
    }

    private static void mixedBricks() {
        CHECK.sentence("Bricks that come to others (in a stack or a cart) are mixed");
        int[][] cases = {{1, 20, 1, 19}, {1, 0, 1, 1}, {98, 20, 1, 0}, {1, 20, 98, 0}, {50, 7, 49, 8}, {33, 5, 66, 5}, {3, 20, 2, 11}};
        for (int[] mix : cases) {
            int due = (mix[0] * mix[1] + mix[2] * mix[3]) / (mix[0] + mix[2]);
            PeatBog bog = new PeatBog();
            bog.stack(5, 6, mix[0], mix[1]);
            CHECK.same("alone", bog.cell(5, 6, 3), mix[1]);
            bog.stack(5, 6, mix[2], mix[3]);
            CHECK.same("a stack of " + mix[0] + " and " + mix[2], bog.cell(5, 6, 3), due);
            if (mix[0] + mix[2] <= 40) {
                PeatBog cart = Check.taught("gang a at 5 6 { load 99; go 4,6; load 99; }");
                cart.stack(5, 6, mix[0], mix[1]);
                cart.stack(4, 6, mix[2], mix[3]);
                cart.pass(3);
                CHECK.same("a cart of " + mix[0] + " and " + mix[2], cart.gang(0, 3), due);
            }
        }
        PeatBog bog = Check.taught("gang a at 5 6 { cut 3; } gang b at 1 1 { load 9; go 1,2; unload; }");
        bog.stack(5, 6, 10, 7);
        bog.stack(1, 1, 9, 1);
        bog.stack(1, 2, 10, 20);
        bog.pass(3);
        CHECK.same("cut ones with others", bog.cell(5, 6, 3), (10 * 7 + 3 * 20) / 13);
        CHECK.same("unloaded ones with others", bog.cell(1, 2, 3), (9 * 1 + 10 * 20) / 19);
    }

    // ---- count

    private static void countOfWhat() {
        CHECK.sentence("Throws IndexOutOfBoundsException if what is not 0 to 12");
        PeatBog bog = new PeatBog();
        for (int what : new int[] {LEAST, -1, 13, 14, MOST}) {
            CHECK.refused(bog, INDEX, "count(" + what + ")", () -> bog.count(what));
        }
    }

    private static void tellingCounts() {
        CHECK.sentence("12 cells with a water of 9");
        PeatBog wet = new PeatBog();
        for (int i = 0; i < 64; i++) {
            CHECK.same("count(12)", wet.count(12), i);
            wet.set(i % 8, i / 8, 0, 8);
            CHECK.same("count(12) with a water of 8", wet.count(12), i);
            wet.set(i % 8, i / 8, 0, 9);
        }
        CHECK.same("count(12) of all", wet.count(12), 64);
        CHECK.sentence("11 all peat");
        CHECK.same("count(11) of none", wet.count(11), 0);
        wet.set(7, 7, 60, 0);
        wet.set(1, 0, 59, 0);
        CHECK.same("count(11)", wet.count(11), 119);
        CHECK.sentence("5 dry bricks of the barn, 6 wet ones, 7 bricks in stacks, 8 bricks in carts");
        PeatBog bog = Check.taught("gang a at 0 0 { load 4; unload; } gang b at 7 7 { load 7; } gang c at 3 3 { load 8; }");
        bog.stack(0, 0, 10, 6);
        bog.stack(7, 7, 20, 9);
        bog.stack(3, 3, 30, 9);
        bog.pass(2);
        int[] due = {0, 4, 6 + 13 + 22, 15};
        for (int what = 5; what <= 8; what++) {
            CHECK.same("count(" + what + ")", bog.count(what), due[what - 5]);
        }
        CHECK.sentence("9 bricks that crumbled in all, 10 bricks that were cut in all");
        bog = Check.taught("gang a at 5 6 { cut 6; cut 5; wait 8; wait 10; cut 4; cut 0; }");
        bog.setWeather(0, 2, 0);
        bog.setWeather(1, 9, 9);
        bog.pass(10);
        CHECK.same("crumbled in the night 0", bog.count(9), 1);
        CHECK.same("cut on the day 0", bog.count(10), 11);
        bog.pass(10);
        bog.stack(4, 6, 10, 20);
        bog.pass(10);
        CHECK.same("crumbled in the nights 0 and 1, stacked ones too", bog.count(9), 2);
        CHECK.same("cut in all", bog.count(10), 15);
        Check.teachText(bog, "");
        CHECK.same("crumbled, behind teach()", bog.count(9), 2);
        CHECK.same("cut, behind teach()", bog.count(10), 15);
        CHECK.sentence("2 gangs, 3 bytes of the tape, 4 bytes of the paper");
        bog = new PeatBog();
        for (int gangs = 1; gangs <= 4; gangs++) {
            String text = "gang a at 0 0{}gang b at 0 0{}gang c at 0 0{}gang d at 0 0{}".substring(0, 15 * gangs);
            Check.feedText(bog, text);
            CHECK.same("count(3)", bog.count(3), 15 * gangs);
            bog.teach();
            CHECK.same("count(2)", bog.count(2), gangs);
        }
        bog.draw();
        bog.draw();
        CHECK.same("count(4)", bog.count(4), 72);
    }

    // ---- setWeather, set, stack

    private static void weatherOfADay() {
        CHECK.sentence("Returns 10 * the rain and the sun before.");
        PeatBog bog = new PeatBog();
        for (int at = 0; at < 12; at++) {
            CHECK.same("at first", bog.setWeather(at, 9, 9), 4);
            CHECK.same("99", bog.setWeather(at, 0, 0), 99);
            CHECK.same("0", bog.setWeather(at, 9, 0), 0);
            CHECK.same("90", bog.setWeather(at, 0, 9), 90);
            CHECK.same("9", bog.setWeather(at, 1, at % 10), 9);
        }
        for (int at = 0; at < 12; at++) {
            CHECK.same("each day has its own", bog.setWeather(at, 0, 0), 10 + at % 10);
        }
        int[] wrong = {LEAST, -1, 10, MOST};
        for (int at : new int[] {LEAST, -1, 12, MOST}) {
            CHECK.sentence("Throws IndexOutOfBoundsException if at is not 0 to 11");
            CHECK.refused(bog, INDEX, "setWeather(" + at + ", 1, 1)", () -> bog.setWeather(at, 1, 1));
            CHECK.sentence("If several exceptions apply, the one that is named first is thrown.");
            CHECK.refused(bog, INDEX, "setWeather(" + at + ", 10, 1)", () -> bog.setWeather(at, 10, 1));
            CHECK.refused(bog, INDEX, "setWeather(" + at + ", 1, -1)", () -> bog.setWeather(at, 1, -1));
        }
        CHECK.sentence("Throws IllegalArgumentException if rain or sun is not 0 to 9");
        for (int number : wrong) {
            CHECK.refused(bog, ARGUMENT, "setWeather(0, " + number + ", 1)", () -> bog.setWeather(0, number, 1));
            CHECK.refused(bog, ARGUMENT, "setWeather(11, 1, " + number + ")", () -> bog.setWeather(11, 1, number));
            CHECK.refused(bog, ARGUMENT, "setWeather(5, twice " + number + ")", () -> bog.setWeather(5, number, number));
        }
    }

    private static void settingOfCells() {
        PeatBog bog = new PeatBog();
        int[] wrongCells = {LEAST, -1, 8, MOST};
        for (int x : wrongCells) {
            CHECK.sentence("Throws IndexOutOfBoundsException if x or y is not 0 to 7");
            CHECK.refused(bog, INDEX, "set(" + x + ", 1, 1, 1)", () -> bog.set(x, 1, 1, 1));
            CHECK.refused(bog, INDEX, "set(1, " + x + ", 1, 1)", () -> bog.set(1, x, 1, 1));
            CHECK.sentence("If several exceptions apply, the one that is named first is thrown.");
            CHECK.refused(bog, INDEX, "set(" + x + ", 0, 61, 1)", () -> bog.set(x, 0, 61, 1));
            CHECK.refused(bog, INDEX, "set(0, " + x + ", 1, 10)", () -> bog.set(0, x, 1, 10));
        }
        CHECK.sentence("Throws IllegalArgumentException if peat is not 0 to 60, water is not 0 to 9");
        for (int peat : new int[] {LEAST, -1, 61, MOST}) {
            CHECK.refused(bog, ARGUMENT, "set(1, 1, " + peat + ", 1)", () -> bog.set(1, 1, peat, 1));
            CHECK.refused(bog, ARGUMENT, "set(0, 0, " + peat + ", 1)", () -> bog.set(0, 0, peat, 1));
        }
        for (int water : new int[] {LEAST, -1, 10, MOST}) {
            CHECK.refused(bog, ARGUMENT, "set(1, 1, 1, " + water + ")", () -> bog.set(1, 1, 1, water));
            CHECK.refused(bog, ARGUMENT, "set(0, 0, 0, " + water + ")", () -> bog.set(0, 0, 0, water));
        }
        CHECK.sentence("or peat is not 0 in the cell of the barn");
        CHECK.refused(bog, ARGUMENT, "set(0, 0, 1, 1)", () -> bog.set(0, 0, 1, 1));
        CHECK.same("peat beside the barn", bog.set(0, 1, 1, 1), 303);
        CHECK.same("peat on its other side", bog.set(1, 0, 1, 1), 303);
        CHECK.sentence("Returns 10 * the peat and the water before.");
        CHECK.same("set(1, 0, 60, 9)", bog.set(1, 0, 60, 9), 11);
        CHECK.same("set(1, 0, 0, 9)", bog.set(1, 0, 0, 9), 609);
        CHECK.same("set(1, 0, 60, 0)", bog.set(1, 0, 60, 0), 9);
        CHECK.same("set(1, 0, 0, 0)", bog.set(1, 0, 0, 0), 600);
        CHECK.same("set(1, 0, 0, 0) again", bog.set(1, 0, 0, 0), 0);
        bog.stack(1, 0, 7, 8);
        bog.set(1, 0, 5, 5);
        CHECK.same("the stack stays", bog.cell(1, 0, 2) * 100 + bog.cell(1, 0, 3), 708);
    }

    private static void stackingOfBricks() {
        CHECK.sentence("Throws IllegalStateException if there would be more than 99");
        int[][] sums = {{99, 1}, {98, 2}, {1, 99}, {50, 50}, {99, 99}};
        for (int[] sum : sums) {
            PeatBog bog = new PeatBog();
            CHECK.same("stack()", bog.stack(5, 6, sum[0], 9), sum[0]);
            CHECK.refused(bog, STATE, "stack() of " + sum[1] + " more", () -> bog.stack(5, 6, sum[1], 9));
            if (sum[1] > 1 && sum[0] < 99) {
                CHECK.same("stack() of one less", bog.stack(5, 6, 99 - sum[0], 9), 99);
            }
        }
        CHECK.sentence("Throws IllegalArgumentException if bricks is not 1 to 99, or wetness is not 0 to 20");
        PeatBog bog = new PeatBog();
        CHECK.same("the least", bog.stack(1, 1, 1, 0), 1);
        CHECK.same("the most", bog.stack(2, 2, 99, 20), 99);
        for (int bricks : new int[] {LEAST, -1, 0, 100, MOST}) {
            CHECK.refused(bog, ARGUMENT, "stack(3, 3, " + bricks + ", 9)", () -> bog.stack(3, 3, bricks, 9));
        }
        for (int wetness : new int[] {LEAST, -1, 21, MOST}) {
            CHECK.refused(bog, ARGUMENT, "stack(3, 3, 9, " + wetness + ")", () -> bog.stack(3, 3, 9, wetness));
        }
        CHECK.sentence("If several exceptions apply, the one that is named first is thrown.");
        CHECK.refused(bog, INDEX, "stack(8, 2, 100, 21)", () -> bog.stack(8, 2, 100, 21));
        CHECK.refused(bog, INDEX, "stack(2, -1, 0, 5)", () -> bog.stack(2, -1, 0, 5));
        CHECK.refused(bog, ARGUMENT, "stack(2, 2, 100, 5)", () -> bog.stack(2, 2, 100, 5));
        CHECK.refused(bog, ARGUMENT, "stack(2, 2, 0, 5)", () -> bog.stack(2, 2, 0, 5));
        CHECK.refused(bog, ARGUMENT, "stack(2, 2, 5, 21)", () -> bog.stack(2, 2, 5, 21));
        CHECK.refused(bog, ARGUMENT, "stack(2, 2, 5, -1)", () -> bog.stack(2, 2, 5, -1));
        CHECK.sentence("Stacks bricks in a cell: they come to those that are there.");
        PeatBog turned = Check.taught("gang a at 5 6 { turn; }");
        turned.stack(5, 6, 10, 10);
        turned.pass(1);
        CHECK.same("Returns the bricks there then", turned.stack(5, 6, 10, 20), 20);
        CHECK.same("their wetness", turned.cell(5, 6, 3), 15);
        CHECK.same("the stack is still turned", turned.cell(5, 6, 4), 1);
        CHECK.same("they aren't cut", turned.count(10), 0);
    }

    // ---- cell, gang

    private static void tellingCells() {
        CHECK.sentence("Throws IndexOutOfBoundsException if x or y is not 0 to 7, or what is not 0 to 4");
        PeatBog bog = new PeatBog();
        for (int what : new int[] {LEAST, -1, 5, 6, MOST}) {
            CHECK.refused(bog, INDEX, "cell(3, 3, " + what + ")", () -> bog.cell(3, 3, what));
            CHECK.refused(bog, INDEX, "cell(8, 3, " + what + ")", () -> bog.cell(8, 3, what));
        }
        CHECK.sentence("4 1 if the stack is turned, else 0");
        PeatBog turned = Check.taught("gang a at 5 6 { turn; wait 8; }");
        turned.stack(5, 6, 1, 20);
        turned.stack(6, 5, 1, 20);
        CHECK.same("ahead of it", turned.cell(5, 6, 4), 0);
        turned.pass(1);
        CHECK.same("behind it", turned.cell(5, 6, 4), 1);
        CHECK.same("another one", turned.cell(6, 5, 4), 0);
        turned.pass(8);
        CHECK.same("in the last hour", turned.cell(5, 6, 4), 1);
        turned.pass(1);
        CHECK.same("behind the night", turned.cell(5, 6, 4), 0);
    }

    private static void tellingGangs() {
        CHECK.sentence("Throws IndexOutOfBoundsException if there is no such gang, or what is not 0 to 8");
        PeatBog bog = Check.taught("gang a at 0 0 {} gang b at 1 1 {}");
        for (int gang : new int[] {LEAST, -1, 2, 3, 4, MOST}) {
            CHECK.refused(bog, INDEX, "gang(" + gang + ", 0)", () -> bog.gang(gang, 0));
            CHECK.refused(bog, INDEX, "gang(" + gang + ", 9)", () -> bog.gang(gang, 9));
        }
        for (int what : new int[] {LEAST, -1, 9, 10, MOST}) {
            CHECK.refused(bog, INDEX, "gang(1, " + what + ")", () -> bog.gang(1, what));
        }
        CHECK.same("gang(1, 8)", bog.gang(1, 8), 0);
        Check.teachText(bog, "gang c at 1 1 {}");
        CHECK.refused(bog, INDEX, "gang(1, 0) of fewer gangs", () -> bog.gang(1, 0));
        Check.teachText(bog, "");
        CHECK.refused(bog, INDEX, "gang(0, 0) of none", () -> bog.gang(0, 0));
        CHECK.sentence("4 1 if it is done, else 0, 5 hours that were idle, 6 hours that were missed, 7 hours in all");
        PeatBog hours = Check.taught("gang a at 5 6 { cut 0; wait 2; turn; repeat 20 {} repeat 20 {} repeat 20 {} cut 1; }");
        int[][] due = {{0, 0, 0, 0, 0}, {0, 0, 1, 1, 0}, {0, 0, 1, 2, 1}, {0, 0, 1, 3, 0}, {0, 0, 2, 4, 0}, {0, 1, 2, 5, 0},
            {0, 1, 2, 6, 0}, {1, 2, 2, 7, 0}, {1, 3, 2, 8, 0}};
        for (int hour = 0; hour < due.length; hour++) {
            for (int what = 4; what <= 8; what++) {
                CHECK.same("gang(0, " + what + ") behind " + hour, hours.gang(0, what), due[hour][what - 4]);
            }
            hours.pass(1);
        }
    }

    // ---- exceptions

    private static PeatBog workingBog() {
        PeatBog bog = Check.taught("gang a at 1 0 { repeat 9 { load 3; go 0,0; unload; go 1,0; } } gang b at 2 2 { cut 6; turn; wait 9; }");
        bog.stack(1, 0, 60, 9);
        bog.setWeather(1, 7, 3);
        bog.pass(3);
        Check.feedText(bog, "gang c at 4 4 { wait 7; }");
        return bog;
    }

    /** Not even what no call tells at once: the tape's bytes, the programs and where the gangs are in them. */
    private static void refusedCallsChangeNothing() {
        CHECK.sentence("A method that throws an exception changes nothing.");
        PeatBog one = workingBog();
        PeatBog other = workingBog();
        CHECK.refused(one, ARGUMENT, "trim(26)", () -> one.trim(26));
        CHECK.refused(one, INDEX, "setWeather(12, 9, 9)", () -> one.setWeather(12, 9, 9));
        CHECK.refused(one, ARGUMENT, "setWeather(0, 9, 10)", () -> one.setWeather(0, 9, 10));
        CHECK.refused(one, ARGUMENT, "set(1, 0, 9, 10)", () -> one.set(1, 0, 9, 10));
        CHECK.refused(one, ARGUMENT, "stack(1, 0, 9, 21)", () -> one.stack(1, 0, 9, 21));
        CHECK.refused(one, STATE, "stack(1, 0, 99, 20)", () -> one.stack(1, 0, 99, 20));
        CHECK.refused(one, ARGUMENT, "pass(201)", () -> one.pass(201));
        CHECK.refused(one, ARGUMENT, "foresee(301, 0)", () -> one.foresee(301, 0));
        CHECK.refused(one, INDEX, "foresee(300, 4)", () -> one.foresee(300, 4));
        CHECK.refused(one, INDEX, "done(2)", () -> one.done(2));
        CHECK.refused(one, ARGUMENT, "advise(121)", () -> one.advise(121));
        CHECK.refused(one, INDEX, "byteAt(0)", () -> one.byteAt(0));
        for (int i = 0; i < 9; i++) {
            CHECK.same("pass(5)", one.pass(5), other.pass(5));
            CHECK.same("digest()", one.digest(), other.digest());
        }
        for (int i = 0; i < 98; i++) {
            one.feed(0x20202020, 0x20202020, 0x20202020, 0x20202020, 0x20202020);
            other.feed(0x20202020, 0x20202020, 0x20202020, 0x20202020, 0x20202020);
        }
        CHECK.refused(one, STATE, "feed() at 1985", () -> one.feed(-1, -1, -1, -1, -1));
        CHECK.same("teach()", one.teach(), 0);
        CHECK.same("teach() of the other", other.teach(), 0);
        one.pass(1);
        other.pass(1);
        CHECK.same("the taught wait", one.gang(0, 8), 6);
        CHECK.same("digest()", one.digest(), other.digest());
    }
}
