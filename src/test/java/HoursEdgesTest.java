/** The edges that part 3 of the terms and the promise 12 name, sentence by sentence. */
public final class HoursEdgesTest {
    private static final Check CHECK = new Check("HoursEdgesTest");
    private static final Class<? extends RuntimeException> ARGUMENT = IllegalArgumentException.class;
    private static final int DONE = 4;
    private static final int IDLE = 5;
    private static final int MISSED = 6;
    private static final int WAITS = 8;

    public static void main(String[] args) {
        hoursThatGoBy();
        gangByGang();
        doneAndIdle();
        fiftyCounted();
        comeToInTheNextHour();
        goOutside();
        goThere();
        goToTheNextCell();
        goIntoWater();
        goComeToAgain();
        cutAtMost();
        turned();
        loadAtMost();
        unloadInTheBarn();
        unloadElsewhere();
        waitHours();
        blocks();
        readings();
        bindings();
        nightBehindHourNine();
        stacksAtNight();
        crumblingStacks();
        turnedNoMore();
        waterAtNight();
        nightsOfRising();
        risingCells();
        risingNeighbours();
        byWhatWasBefore();
        CHECK.finish();
    }

    // ---- promise 12

    private static void hoursThatGoBy() {
        CHECK.sentence("Throws IllegalArgumentException if hours is not 1 to 200");
        PeatBog bog = Check.taught("gang a at 0 0 { load 5; unload; load 4; unload; load 3; unload; }");
        for (int hours : new int[] {Integer.MIN_VALUE, -200, -1, 0, 201, 202, Integer.MAX_VALUE}) {
            CHECK.refused(bog, ARGUMENT, "pass(" + hours + ")", () -> bog.pass(hours));
        }
        CHECK.sentence("Returns how many dry bricks the barn has more.");
        bog.stack(0, 0, 5, 5);
        CHECK.same("pass(1)", bog.pass(1), 0);
        bog.stack(0, 0, 4, 6);
        CHECK.same("pass(1), with dry ones", bog.pass(1), 5);
        CHECK.same("pass(2), with wet ones", bog.pass(2), 0);
        bog.stack(0, 0, 9, 5);
        CHECK.same("pass(200)", bog.pass(200), 3);
        CHECK.same("dry ones", bog.count(5), 8);
        CHECK.same("wet ones", bog.count(6), 4);
        CHECK.same("hours", bog.gang(0, 7), 204);
        CHECK.same("pass(200) of a gang that is done", bog.pass(200), 0);
    }

    // ---- an hour

    private static void gangByGang() {
        CHECK.sentence("Gang by gang, by numbers");
        PeatBog bog = Check.taught("gang b at 5 6 { cut 6; } gang a at 5 6 { load 9; } gang c at 5 6 { load 9; }");
        bog.pass(1);
        CHECK.same("the second one loads what the first one cut", bog.gang(1, 2), 6);
        CHECK.same("none is left for the third one", bog.gang(2, MISSED), 1);
        bog = Check.taught("gang b at 5 6 { load 9; } gang a at 5 6 { cut 6; }");
        bog.pass(1);
        CHECK.same("the first one finds none", bog.gang(0, MISSED), 1);
        bog = Check.taught("gang a at 0 0 { wait barn + 5; } gang b at 0 0 { load 9; unload; } gang c at 0 0 { wait 1; wait barn + 5; }");
        bog.stack(0, 0, 9, 0);
        bog.pass(2);
        CHECK.same("barn behind it", bog.gang(2, WAITS), 13);
        CHECK.same("barn ahead of it", bog.gang(0, WAITS), 3);
    }

    private static void doneAndIdle() {
        CHECK.sentence("or there is none any more (then it is done, and the hour is idle)");
        for (String none : new String[] {"", "if 1=2 { cut 1; }", "repeat 0 { cut 1; }", "while 1=2 { cut 1; }", "go 5,6;",
            "repeat 3 { if 1=1 { } else { cut 1; } }"}) {
            PeatBog bog = Check.taught("gang a at 5 6 { " + none + " }");
            CHECK.gang("at first: " + none, bog, 5, 6, 0, 0, 0, 0, 0, 0, 0);
            bog.pass(1);
            CHECK.gang("without a sentence that takes the hour: " + none, bog, 5, 6, 0, 0, 1, 1, 0, 1, 0);
            bog.pass(1);
            CHECK.gang("idle again: " + none, bog, 5, 6, 0, 0, 1, 2, 0, 2, 0);
        }
        for (String last : new String[] {"cut 1;", "wait 1;", "turn;", "go 8,8;", "if 1=1 { cut 1; }", "repeat 1 { cut 1; }"}) {
            PeatBog bog = Check.taught("gang a at 5 6 { " + last + " }");
            bog.pass(1);
            CHECK.same("in the last one's hour: " + last, bog.gang(0, DONE) + bog.gang(0, IDLE), 0);
            bog.pass(1);
            CHECK.same("behind it: " + last, bog.gang(0, DONE) + bog.gang(0, IDLE), 2);
        }
        PeatBog bog = Check.taught("gang a at 5 6 { go 4,6; }");
        bog.pass(1);
        CHECK.same("a go that comes there takes this hour", bog.gang(0, DONE), 0);
        bog.pass(1);
        CHECK.same("and is over in the next one", bog.gang(0, DONE), 1);
    }

    private static String counting(int times) {
        return "if 1=2{}".repeat(times);
    }

    /** The first brick is cut behind so many idle hours. */
    private static void idleAhead(int due, String sentences) {
        PeatBog bog = Check.taught("gang a at 5 6 {" + sentences + " cut 1; wait 9;}");
        for (int hour = 0; hour < due; hour++) {
            bog.pass(1);
            CHECK.same("cut so far: " + sentences, bog.count(10), 0);
        }
        bog.pass(1);
        CHECK.same("cut then: " + sentences, bog.count(10), 1);
        CHECK.gang(sentences, bog, 5, 6, 0, 0, 0, due, 0, due + 1, 0);
    }

    private static void fiftyCounted() {
        CHECK.sentence("when 50 are counted in the hour, and one more is come to, the hour is over, and idle");
        idleAhead(0, counting(50));
        for (String one : new String[] {"if 1=2{}", "if 1=1{}", "if 1=2{}else{}", "repeat 0{}", "while 1=2{}", "go 5,6;", "go x,y;"}) {
            idleAhead(0, counting(49) + one);
            idleAhead(1, counting(50) + one);
            idleAhead(1, one + counting(50));
        }
        CHECK.sentence("repeat and while also each time that they are come back to behind their blocks");
        idleAhead(0, counting(48) + "repeat 1{}");
        idleAhead(1, counting(49) + "repeat 1{}");
        idleAhead(1, counting(50) + "repeat 1{}");
        idleAhead(0, counting(29) + "repeat 20{}");
        idleAhead(1, counting(30) + "repeat 20{}");
        idleAhead(0, "repeat 20{go 5,6;}" + counting(9));
        idleAhead(1, "repeat 20{go 5,6;}" + counting(10));
        idleAhead(0, "repeat 15{if 1=1{}if 1=2{}else{}}" + counting(4));
        idleAhead(1, "repeat 15{if 1=1{}if 1=2{}else{}}" + counting(5));
        idleAhead(0, "repeat 20{}repeat 20{}" + "repeat 7{}");
        idleAhead(1, "repeat 20{}repeat 20{}" + "repeat 8{}");
        idleAhead(1, "repeat 20{}".repeat(4) + "repeat 15{}");
        idleAhead(2, "repeat 20{}".repeat(4) + "repeat 16{}");
        idleAhead(8, "repeat 20{repeat 20{}}");
        idleAhead(5, "while hour<5{}");
        idleAhead(5, "while hour<5{go 5,6;}");
        PeatBog bog = Check.taught("gang a at 5 6 {while 1=1{}}");
        bog.pass(200);
        CHECK.gang("for ever", bog, 5, 6, 0, 0, 0, 200, 0, 200, 0);
        bog = Check.taught("gang a at 5 6 {repeat 20{}repeat 20{}repeat 7{} cut 1; repeat 20{}repeat 20{}repeat 7{} cut 1;}"
                + "gang b at 4 6 {repeat 20{}repeat 20{}repeat 7{} cut 1;}");
        bog.pass(1);
        CHECK.same("each gang has its own 50", bog.count(10), 2);
        bog.pass(1);
        CHECK.same("and each hour", bog.count(10), 3);
        CHECK.same("none of them is idle", bog.gang(0, IDLE), 0);
    }

    private static void comeToInTheNextHour() {
        CHECK.sentence("it is come to in the next hour");
        String[] taking = {"cut 1;", "turn;", "load 1;", "unload;", "wait 1;", "go 8,6;", "go 5,-1;"};
        for (String one : taking) {
            PeatBog bog = Check.taught("gang a at 5 6 {" + counting(50) + one + "wait 5;}");
            bog.pass(2);
            CHECK.same("no hour is idle ahead of " + one, bog.gang(0, IDLE), 0);
            CHECK.same("the wait behind " + one, bog.gang(0, WAITS), 4);
        }
        PeatBog bog = Check.taught("gang a at 5 6 {" + counting(50) + "go 4,6; wait 5;}");
        bog.pass(1);
        CHECK.gang("a go elsewhere isn't counted", bog, 4, 6, 0, 0, 0, 0, 0, 1, 0);
        bog = Check.taught("gang a at 5 6 {" + counting(50) + "}");
        bog.pass(1);
        CHECK.gang("the end isn't counted", bog, 5, 6, 0, 0, 1, 1, 0, 1, 0);
        bog = Check.taught("gang a at 5 6 {" + counting(51) + "}");
        bog.pass(1);
        CHECK.gang("idle ahead of the end", bog, 5, 6, 0, 0, 0, 1, 0, 1, 0);
        bog.pass(1);
        CHECK.gang("the end then", bog, 5, 6, 0, 0, 1, 2, 0, 2, 0);
        bog = Check.taught("gang a at 5 6 {" + counting(50) + "if hour=0{cut 1;}else{cut 2;}}");
        bog.pass(2);
        CHECK.same("an if is reckoned in the next hour", bog.count(10), 2);
        bog = Check.taught("gang a at 5 6 {" + counting(50) + "while hour=0{cut 1;}cut 2;}");
        bog.pass(2);
        CHECK.same("a while, too", bog.count(10), 2);
        bog = Check.taught("gang a at 5 6 {" + counting(50) + "go 5-hour,6;}");
        bog.pass(1);
        CHECK.gang("a go to where the gang is", bog, 5, 6, 0, 0, 0, 1, 0, 1, 0);
        bog.pass(1);
        CHECK.gang("goes in the next hour", bog, 4, 6, 0, 0, 0, 1, 0, 2, 0);
        bog = Check.taught("gang a at 5 6 {" + counting(49) + "repeat 2{}repeat 3{cut 1;}turn;}");
        bog.pass(5);
        CHECK.same("a repeat goes on where it was", bog.count(10), 3);
        CHECK.same("and is over behind it", bog.cell(5, 6, 4), 1);
    }

    // ---- go

    private static void goOutside() {
        CHECK.sentence("If one of them is not 0 to 7, the hour is missed, and the go is over.");
        String[] outside = {"8,6", "-1,6", "5,8", "5,-1", "8,8", "-1,-1", "8,-1", "999999,6", "5,-999999", "32768*65536,6", "5,32768*65536"};
        for (String cell : outside) {
            PeatBog bog = Check.taught("gang a at 5 6 { go " + cell + "; cut 1; }");
            bog.pass(1);
            CHECK.gang("go " + cell, bog, 5, 6, 0, 0, 0, 0, 1, 1, 0);
            bog.pass(1);
            CHECK.same("behind go " + cell, bog.count(10), 1);
        }
        for (String cell : new String[] {"0,0", "7,0", "0,7", "7,7"}) {
            PeatBog bog = Check.taught("gang a at 3 4 { go " + cell + "; }");
            bog.pass(9);
            CHECK.same("go " + cell, bog.gang(0, 0) * 10 + bog.gang(0, 1), (cell.charAt(0) - '0') * 10 + cell.charAt(2) - '0');
            CHECK.same("go " + cell + " is done", bog.gang(0, DONE), 1);
            CHECK.same("no hour is missed", bog.gang(0, MISSED), 0);
        }
    }

    private static void goThere() {
        CHECK.sentence("If the gang is there, the go is over.");
        PeatBog bog = Check.taught("gang a at 5 6 { go 5,6; go x,y; go 65536*65536+5,6; cut 1; go 5,6; cut 1; go 5,6; }");
        bog.set(5, 6, 30, 9);
        bog.pass(2);
        CHECK.same("two hours for two cuts, even in water", bog.count(10), 2);
        bog.pass(1);
        CHECK.gang("and the last one is over", bog, 5, 6, 0, 0, 1, 1, 0, 3, 0);
    }

    private static void goToTheNextCell() {
        CHECK.sentence("Otherwise it goes to the next cell: to the left or right, if x is another one, otherwise up or down");
        int[][] ways = {{3, 4, 1, 3, 2, 4, 1, 4, 1, 3}, {3, 4, 4, 5, 4, 4, 4, 5}, {3, 4, 3, 6, 3, 5, 3, 6},
            {3, 4, 3, 2, 3, 3, 3, 2}, {3, 4, 1, 4, 2, 4, 1, 4}, {0, 0, 0, 1, 0, 1}, {7, 7, 7, 6, 7, 6}, {0, 7, 1, 7, 1, 7}};
        for (int[] way : ways) {
            PeatBog bog = Check.taught("gang a at " + way[0] + " " + way[1] + " { go " + way[2] + "," + way[3] + "; cut 1; }");
            for (int at = 4; at < way.length; at += 2) {
                bog.pass(1);
                CHECK.gang("go from " + way[0] + ", " + way[1], bog, way[at], way[at + 1], 0, 0, 0, 0, 0);
            }
            bog.pass(1);
            CHECK.same("the cut behind it", bog.count(10), 1);
        }
        PeatBog bog = Check.taught("gang a at 0 0 { go 7,7; }");
        bog.pass(14);
        CHECK.gang("the longest way", bog, 7, 7, 0, 0, 0, 0, 0, 14, 0);
    }

    private static void goIntoWater() {
        CHECK.sentence("but not into a cell with a water of 9: then the hour is missed");
        int[][] next = {{4, 4}, {2, 4}, {3, 5}, {3, 3}};
        for (int[] cell : next) {
            PeatBog bog = Check.taught("gang a at 3 4 { go " + cell[0] + "," + cell[1] + "; cut 1; }");
            bog.set(cell[0], cell[1], 30, 9);
            bog.pass(2);
            CHECK.gang("into a water of 9", bog, 3, 4, 0, 0, 0, 0, 2, 2, 0);
            bog.set(cell[0], cell[1], 30, 8);
            bog.pass(1);
            CHECK.gang("into a water of 8", bog, cell[0], cell[1], 0, 0, 0, 0, 2, 3, 0);
        }
        PeatBog bog = Check.taught("gang a at 3 4 { go 5,5; cut 1; }");
        bog.set(3, 4, 30, 9);
        bog.set(5, 5, 30, 9);
        bog.pass(2);
        CHECK.gang("out of a water of 9", bog, 5, 4, 0, 0, 0, 0, 0, 2, 0);
        bog.pass(1);
        CHECK.gang("not into the last cell", bog, 5, 4, 0, 0, 0, 0, 1, 3, 0);
        bog = Check.taught("gang a at 3 4 { go 4,5; }");
        bog.set(4, 4, 30, 9);
        bog.pass(5);
        CHECK.gang("no way round it", bog, 3, 4, 0, 0, 0, 0, 5, 5, 0);
        bog = Check.taught("gang a at 5 6 { cut 5; turn; load 2; wait 1; }");
        bog.set(5, 6, 30, 9);
        bog.pass(4);
        CHECK.gang("work in a water of 9", bog, 5, 6, 2, 20, 0, 0, 0, 4, 0);
    }

    private static void goComeToAgain() {
        CHECK.sentence("In both cases the go is come to again in the next hour (with what the sums tell then).");
        PeatBog bog = Check.taught("gang a at 5 6 { go 6-2*hour,6; cut 1; }");
        bog.set(6, 6, 30, 9);
        int[][] due = {{5, 1, 0}, {4, 1, 0}, {3, 1, 0}, {2, 1, 0}, {2, 2, 0}, {2, 2, 1}};
        for (int[] hour : due) {
            bog.pass(1);
            CHECK.same("x", bog.gang(0, 0), hour[0]);
            CHECK.same("missed", bog.gang(0, MISSED), hour[1]);
            CHECK.same("cut", bog.count(10), hour[2]);
        }
        bog = Check.taught("gang a at 5 6 { go max(4,3+hour),6; cut 1; }");
        bog.pass(2);
        CHECK.gang("where it is already", bog, 4, 6, 0, 0, 0, 0, 0, 2, 0);
        CHECK.same("the cut then", bog.count(10), 1);
        bog = Check.taught("gang a at 5 6 { go 5,5+hour; cut 1; }");
        bog.set(5, 5, 30, 9);
        bog.pass(2);
        CHECK.gang("where it was kept", bog, 5, 6, 0, 0, 0, 0, 1, 2, 0);
        CHECK.same("the cut then", bog.count(10), 1);
    }

    // ---- cut, turn, load, unload, wait

    private static void cutAtMost() {
        CHECK.sentence("as many bricks as the sum tells, but at most 6, as there is peat, and as the stack here has room for (99)");
        int[][] cases = {{6, 30, 0, 6}, {7, 30, 0, 6}, {999999, 30, 0, 6}, {5, 30, 0, 5}, {1, 30, 0, 1}, {6, 7, 0, 6}, {6, 6, 0, 6},
            {6, 5, 0, 5}, {6, 1, 0, 1}, {6, 60, 92, 6}, {6, 60, 93, 6}, {6, 60, 94, 5}, {6, 60, 98, 1}, {3, 2, 98, 1}, {2, 3, 97, 2},
            {4, 5, 96, 3}, {4, 3, 96, 3}};
        for (int[] one : cases) {
            PeatBog bog = Check.taught("gang a at 5 6 { cut " + one[0] + "; }");
            bog.set(5, 6, one[1], 3);
            if (one[2] > 0) {
                bog.stack(5, 6, one[2], 20);
            }
            String what = "cut " + one[0] + " of " + one[1] + " to " + one[2];
            bog.pass(1);
            CHECK.same(what + ", in all", bog.count(10), one[3]);
            CHECK.same(what + ", the peat", bog.cell(5, 6, 0), one[1] - one[3]);
            CHECK.same(what + ", the stack", bog.cell(5, 6, 2), one[2] + one[3]);
            CHECK.same(what + ", the wetness", bog.cell(5, 6, 3), 20);
            CHECK.same(what + ", missed", bog.gang(0, MISSED), 0);
        }
        CHECK.sentence("A cut, load or unload of no bricks (also if the sum is less than 0)");
        for (int[] one : new int[][] {{0, 30, 0}, {-1, 30, 0}, {-999999, 30, 5}, {6, 0, 0}, {6, 30, 99}, {6, 0, 99}, {-1, 0, 99}}) {
            PeatBog bog = Check.taught("gang a at 5 6 { cut " + one[0] + "; wait 3; }");
            bog.set(5, 6, one[1], 3);
            if (one[2] > 0) {
                bog.stack(5, 6, one[2], 9);
            }
            String what = "cut " + one[0] + " of " + one[1] + " to " + one[2];
            bog.pass(1);
            CHECK.gang(what, bog, 5, 6, 0, 0, 0, 0, 1, 1, 0);
            CHECK.same(what + ", in all", bog.count(10), 0);
            CHECK.same(what + ", the peat", bog.cell(5, 6, 0), one[1]);
            CHECK.same(what + ", the stack", bog.cell(5, 6, 2), one[2]);
            CHECK.same(what + ", the wetness", bog.cell(5, 6, 3), one[2] == 0 ? 0 : 9);
            bog.pass(1);
            CHECK.same("the hour is gone all the same", bog.gang(0, WAITS), 2);
        }
    }

    private static void turned() {
        CHECK.sentence("and a turn without bricks, are missed: the hour is gone all the same");
        PeatBog bog = Check.taught("gang a at 5 6 { turn; wait 3; }");
        bog.pass(1);
        CHECK.gang("turn without bricks", bog, 5, 6, 0, 0, 0, 0, 1, 1, 0);
        CHECK.same("nothing is turned", bog.cell(5, 6, 4), 0);
        bog.pass(1);
        CHECK.same("the wait behind it", bog.gang(0, WAITS), 2);
        CHECK.sentence("turn: the stack here is turned.");
        for (int bricks : new int[] {1, 2, 99}) {
            bog = Check.taught("gang a at 5 6 { turn; turn; }");
            bog.stack(5, 6, bricks, 20);
            bog.stack(5, 5, bricks, 20);
            for (int hour = 1; hour <= 2; hour++) {
                bog.pass(1);
                CHECK.gang("turn of " + bricks, bog, 5, 6, 0, 0, 0, 0, 0, hour, 0);
                CHECK.same("it is turned", bog.cell(5, 6, 4), 1);
                CHECK.same("the one beside it isn't", bog.cell(5, 5, 4), 0);
            }
        }
    }

    private static void loadAtMost() {
        CHECK.sentence("as many bricks as the sum tells, but at most as the stack here has, and the cart has room for");
        int[][] cases = {{1, 1, 0, 1}, {5, 5, 0, 5}, {6, 5, 0, 5}, {4, 5, 0, 4}, {39, 99, 0, 39}, {40, 99, 0, 40}, {41, 99, 0, 40},
            {999999, 99, 0, 40}, {10, 99, 30, 10}, {10, 99, 31, 9}, {10, 99, 39, 1}, {10, 3, 38, 2}, {10, 1, 38, 1}, {1, 3, 38, 1},
            {0, 5, 0, 0}, {-1, 5, 0, 0}, {-999999, 5, 3, 0}, {10, 0, 0, 0}, {10, 0, 5, 0}, {10, 9, 40, 0}, {-1, 0, 40, 0}};
        for (int[] one : cases) {
            PeatBog bog = Check.taught("gang a at 4 6 { if bricks>0 { load 40; } else { wait 1; } go 5,6; load " + one[0] + "; wait 3; }");
            if (one[2] > 0) {
                bog.stack(4, 6, one[2], 4);
            }
            if (one[1] > 0) {
                bog.stack(5, 6, one[1], 17);
            }
            String what = "load " + one[0] + " of " + one[1] + " to " + one[2];
            bog.pass(3);
            int all = one[2] + one[3];
            int damp = all == 0 ? 0 : (one[2] * 4 + one[3] * 17) / all;
            CHECK.gang(what, bog, 5, 6, all, damp, 0, 0, one[3] == 0 ? 1 : 0, 3, 0);
            CHECK.same(what + ", the stack", bog.cell(5, 6, 2), one[1] - one[3]);
            CHECK.same(what + ", its wetness", bog.cell(5, 6, 3), one[1] == one[3] ? 0 : 17);
            bog.pass(1);
            CHECK.same("the hour is gone all the same", bog.gang(0, WAITS), 2);
        }
    }

    private static void unloadInTheBarn() {
        CHECK.sentence("all bricks of the cart come to the barn, as dry ones, if their wetness is at most 5, otherwise as wet ones");
        for (int wetness = 0; wetness <= 20; wetness++) {
            PeatBog bog = Check.taught("gang a at 0 0 { load 40; unload; unload; }");
            bog.stack(0, 0, 99, wetness);
            bog.pass(1);
            bog.stack(0, 0, 40, 20);
            bog.pass(1);
            CHECK.same("dry ones of wetness " + wetness, bog.count(5), wetness <= 5 ? 40 : 0);
            CHECK.same("wet ones of wetness " + wetness, bog.count(6), wetness <= 5 ? 0 : 40);
            CHECK.same("the stack there is full, and stays", bog.cell(0, 0, 2), 99);
            CHECK.gang("unload", bog, 0, 0, 0, 0, 0, 0, 0, 2, 0);
            bog.pass(1);
            CHECK.gang("unload of no bricks", bog, 0, 0, 0, 0, 0, 0, 1, 3, 0);
        }
        PeatBog bog = Check.taught("gang a at 0 0 { load 1; unload; }");
        bog.stack(0, 0, 1, 5);
        CHECK.same("one brick", bog.pass(2), 1);
    }

    private static void unloadElsewhere() {
        CHECK.sentence("elsewhere as many of them as the stack here has room for come to it");
        int[][] cases = {{5, 0, 5}, {5, 94, 5}, {5, 95, 4}, {5, 98, 1}, {40, 59, 40}, {40, 60, 39}, {1, 98, 1}, {40, 99, 0}, {1, 99, 0},
            {0, 0, 0}, {0, 9, 0}};
        for (int[] cell : new int[][] {{5, 6}, {0, 1}, {1, 0}}) {
            for (int[] one : cases) {
                int x = cell[0];
                int y = cell[1];
                PeatBog bog = Check.taught("gang a at 4 4 { if bricks>0 { load 40; } go " + x + "," + y + "; unload; wait 3; }");
                if (one[0] > 0) {
                    bog.stack(4, 4, one[0], 4);
                }
                if (one[1] > 0) {
                    bog.stack(x, y, one[1], 20);
                }
                String what = "unload of " + one[0] + " to " + one[1];
                int hours = (one[0] > 0 ? 1 : 0) + Math.abs(x - 4) + Math.abs(y - 4) + 1;
                bog.setWeather(0, 0, 0);
                bog.pass(hours);
                int left = one[0] - one[2];
                CHECK.gang(what, bog, x, y, left, left == 0 ? 0 : 4, 0, 0, one[2] == 0 ? 1 : 0, hours, 0);
                int all = one[1] + one[2];
                CHECK.same(what + ", the stack", bog.cell(x, y, 2), all);
                CHECK.same(what + ", its wetness", bog.cell(x, y, 3), all == 0 ? 0 : (one[1] * 20 + one[2] * 4) / all);
                CHECK.same(what + ", the barn", bog.count(5) + bog.count(6), 0);
                bog.pass(1);
                CHECK.same("the hour is gone all the same", bog.gang(0, WAITS), 2);
            }
        }
    }

    private static void waitHours() {
        CHECK.sentence("so many hours go by as the sum tells (it is reckoned as it is come to; 0 or less: it takes this one hour)");
        String[] sums = {"0", "-1", "-999999", "32768*65536", "1", "2", "3", "9"};
        int[] hours = {1, 1, 1, 1, 1, 2, 3, 9};
        for (int i = 0; i < sums.length; i++) {
            PeatBog bog = Check.taught("gang a at 5 6 { wait " + sums[i] + "; cut 1; }");
            for (int hour = 1; hour <= hours[i]; hour++) {
                bog.pass(1);
                CHECK.gang("wait " + sums[i], bog, 5, 6, 0, 0, 0, 0, 0, hour, hours[i] - hour);
            }
            CHECK.same("ahead of the cut", bog.count(10), 0);
            bog.pass(1);
            CHECK.same("behind wait " + sums[i], bog.count(10), 1);
        }
        PeatBog bog = Check.taught("gang a at 5 6 { wait 1; wait 4-bricks; cut 1; } gang b at 5 6 { wait 2; cut 4; }");
        bog.pass(5);
        CHECK.same("the bricks that come later don't change it", bog.count(10), 4);
        bog.pass(1);
        CHECK.same("the cut behind it", bog.count(10), 5);
        bog = Check.taught("gang a at 5 6 { wait 32768*65535+32767; }");
        bog.pass(200);
        CHECK.same("the longest wait", bog.gang(0, WAITS), Integer.MAX_VALUE - 200);
    }

    // ---- if, repeat, while, sums and tests

    private static void cuts(String sentences, int... due) {
        PeatBog bog = Check.taught("gang a at 5 6 { " + sentences + " wait 9; }");
        bog.set(5, 6, 60, 3);
        for (int cut : due) {
            bog.pass(1);
            CHECK.same("cut by " + sentences, bog.count(10), cut);
        }
        bog.pass(1);
        CHECK.same("the wait behind " + sentences, bog.gang(0, WAITS), 8);
    }

    private static void blocks() {
        CHECK.sentence("if carries out the block behind the test, if it holds, otherwise that behind else, if there is one");
        cuts("if 1=1 { cut 1; } cut 4;", 1, 5);
        cuts("if 1=2 { cut 1; } cut 4;", 4);
        cuts("if 1=1 { cut 1; } else { cut 2; } cut 4;", 1, 5);
        cuts("if 1=2 { cut 1; } else { cut 2; } cut 4;", 2, 6);
        cuts("if 1=1 { } else { cut 2; } cut 4;", 4);
        cuts("if 1=2 { cut 1; } else { } cut 4;", 4);
        cuts("if 1=2 { cut 1; } else { if 1=2 { cut 2; } else { cut 3; } } cut 4;", 3, 7);
        cuts("if 1=1 { if 1=2 { cut 1; } } else { cut 2; } cut 4;", 4);
        CHECK.sentence("repeat its block so often");
        cuts("repeat 0 { cut 1; } cut 4;", 4);
        cuts("repeat 1 { cut 1; } cut 4;", 1, 5);
        cuts("repeat 2 { cut 1; } cut 4;", 1, 2, 6);
        cuts("repeat 20 { cut 1; } cut 4;", 1, 2, 3, 4, 5, 6, 7, 8, 9, 10, 11, 12, 13, 14, 15, 16, 17, 18, 19, 20, 24);
        cuts("repeat 2 { repeat 0 { cut 6; } repeat 2 { cut 1; } cut 3; } cut 4;", 1, 2, 5, 6, 7, 10, 14);
        CHECK.sentence("while its block as long as the test holds");
        cuts("while 1=2 { cut 1; } cut 4;", 4);
        cuts("while peat>57 { cut 1; } cut 4;", 1, 2, 3, 7);
        cuts("while peat>57 { cut 2; } cut 4;", 2, 4, 8);
        cuts("repeat 2 { while peat>57 { cut 1; } cut 3; } cut 4;", 1, 2, 3, 6, 9, 13);
        cuts("while hour<2 { repeat 2 { cut 1; } } cut 4;", 1, 2, 6);
        cuts("while hour<3 { repeat 2 { cut 1; } } cut 4;", 1, 2, 3, 4, 8);
    }

    private static void readings() {
        CHECK.sentence("In sums x and y are those of the gang, peat, bricks, wet and water those of its cell");
        PeatBog bog = Check.taught("gang a at 5 6 { if x=5 and y=6 and peat=60 and bricks=7 and wet=4 and water=9 { go 4,5; } go x,y;"
                + " if x=4 and y=6 and peat=1 and bricks=0 and wet=0 and water=0 { wait 50; } }");
        bog.set(5, 6, 60, 9);
        bog.stack(5, 6, 7, 4);
        bog.set(4, 6, 1, 0);
        bog.set(4, 5, 1, 9);
        bog.pass(1);
        CHECK.same("the first cell", bog.gang(0, 0), 4);
        bog = Check.taught("gang a at 5 6 { go 4,6; if x=4 and y=6 and peat=1 and bricks=0 and wet=0 and water=0 { wait 50; } }");
        bog.set(4, 6, 1, 0);
        bog.pass(2);
        CHECK.same("the next cell", bog.gang(0, WAITS), 49);
        CHECK.sentence("cart and damp the bricks of its cart and their wetness");
        bog = Check.taught("gang a at 5 6 { if cart=0 and damp=0 { load 3; } if cart=3 and damp=17 { unload; } if cart=0 and damp=0 { wait 50; } }");
        bog.stack(5, 6, 3, 17);
        bog.pass(3);
        CHECK.same("cart and damp", bog.gang(0, WAITS), 49);
        CHECK.sentence("day and hour those that are now, rain and sun those of the day");
        bog = Check.taught("gang a at 5 6 { while not [day=12 and hour=9] { if rain=0 and sun=4 { wait 1; } else { cut 1; } }"
                + " if rain=7 and sun=2 { wait 50; } } gang b at 1 1 { while day<13 { wait 1; } if day=13 and hour=0 and sun=9 { wait 50; } }");
        bog.pass(120);
        bog.setWeather(0, 7, 2);
        bog.setWeather(1, 0, 9);
        bog.pass(11);
        CHECK.same("the hour 9 of the day 12", bog.gang(0, WAITS), 48);
        CHECK.same("cut while the day 12 has another weather", bog.count(10), 9);
        CHECK.same("the hour 0 of the day 13", bog.gang(1, WAITS), 49);
        CHECK.sentence("barn the dry bricks of the barn");
        bog = Check.taught("gang a at 0 0 { load 4; unload; load 3; unload; wait 50 + barn; }");
        bog.stack(0, 0, 4, 6);
        bog.pass(1);
        bog.stack(0, 0, 3, 5);
        bog.pass(4);
        CHECK.same("barn", bog.gang(0, WAITS), 52);
    }

    private static final String[] RIGHT = {"1=1", "1<2", "2>1", "1<=1", "2>=2", "not 1=2"};
    private static final String[] WRONG = {"1=2", "2<2", "2>2", "2<=1", "1>=2", "not 1<2"};

    private static void test(String test, boolean holds) {
        PeatBog bog = Check.taught("gang a at 5 6 { if " + test + " { wait 5; } else { wait 8; } }");
        bog.pass(1);
        CHECK.same("if " + test, bog.gang(0, WAITS), holds ? 4 : 7);
    }

    private static void bindings() {
        CHECK.sentence("and binds more than or, not more than and");
        for (int i = 0; i < RIGHT.length; i++) {
            for (int j = 0; j < RIGHT.length; j++) {
                test(RIGHT[i] + " and " + RIGHT[j], true);
                test(RIGHT[i] + " and " + WRONG[j], false);
                test(WRONG[i] + " and " + RIGHT[j], false);
                test(WRONG[i] + " and " + WRONG[j], false);
                test(RIGHT[i] + " or " + RIGHT[j], true);
                test(RIGHT[i] + " or " + WRONG[j], true);
                test(WRONG[i] + " or " + RIGHT[j], true);
                test(WRONG[i] + " or " + WRONG[j], false);
            }
        }
        for (int bits = 0; bits < 8; bits++) {
            boolean a = (bits & 1) != 0;
            boolean b = (bits & 2) != 0;
            boolean c = (bits & 4) != 0;
            String one = a ? "1=1" : "1=2";
            String two = b ? "1<2" : "2<1";
            String three = c ? "2>=1" : "1>=2";
            test(one + " or " + two + " and " + three, a || b && c);
            test(one + " and " + two + " or " + three, a && b || c);
            test("[" + one + " or " + two + "] and " + three, (a || b) && c);
            test(one + " and [" + two + " or " + three + "]", a && (b || c));
            test("not " + one + " and " + two + " or " + three, !a && b || c);
            test("not " + one + " or " + two + " and not " + three, !a || b && !c);
            test("not [" + one + " or " + two + "] or " + three, !(a || b) || c);
            test("not not " + one + " and not [not " + two + " or " + three + "]", a && !(!b || c));
            test(one + " or " + two + " or " + three, a || b || c);
            test(one + " and " + two + " and " + three, a && b && c);
        }
    }

    // ---- night

    private static void nightBehindHourNine() {
        CHECK.sentence("Behind all gangs the hour is 1 greater. Behind the hour 9 it is night");
        PeatBog bog = Check.taught("gang a at 1 1 { wait 9; if hour=9 and day=0 { turn; } if hour=0 and day=1 and wet=4 { wait 50; } }"
                + " gang b at 2 2 { wait 9; if hour=9 and day=0 { cut 1; } }");
        bog.setWeather(0, 0, 8);
        bog.stack(1, 1, 9, 20);
        bog.pass(9);
        CHECK.same("hour", bog.count(1), 9);
        CHECK.same("ahead of the night", bog.cell(1, 1, 3), 20);
        bog.pass(1);
        CHECK.sentence("Then the day is 1 greater, and the hour is 0.");
        CHECK.same("day", bog.count(0), 1);
        CHECK.same("hour", bog.count(1), 0);
        CHECK.same("turned in the hour 9", bog.cell(1, 1, 3), 4);
        CHECK.same("cut in the hour 9", bog.cell(2, 2, 3), 12);
        bog.pass(1);
        CHECK.same("in the hour 0", bog.gang(0, WAITS), 49);
    }

    /** Rain, sun, turned, wetness, bricks; then wetness and bricks behind the night. */
    private static void night(int[]... cases) {
        for (int[] one : cases) {
            PeatBog bog = Check.withWeather(one[2] == 0 ? "" : "gang a at 5 6 { turn; }", 9, 9);
            bog.setWeather(0, one[0], one[1]);
            bog.stack(5, 6, one[4], one[3]);
            bog.pass(10);
            String what = "a stack of " + one[4] + ", wetness " + one[3] + ", by rain " + one[0] + " and sun " + one[1];
            CHECK.same(what + ", wetness", bog.cell(5, 6, 3), one[5]);
            CHECK.same(what + ", bricks", bog.cell(5, 6, 2), one[6]);
            CHECK.same(what + ", crumbled", bog.count(9), one[4] - one[6]);
            CHECK.same(what + ", turned no more", bog.cell(5, 6, 4), 0);
            CHECK.same("a cell without bricks stays without wetness", bog.cell(4, 6, 3) + bog.cell(4, 6, 2), 0);
        }
    }

    private static void stacksAtNight() {
        CHECK.sentence("each one with bricks becomes wetter by 2 * rain less sun (of the day), and, if it is turned, less sun once more");
        night(new int[] {3, 1, 0, 4, 30, 9, 30}, new int[] {3, 1, 1, 4, 30, 8, 30}, new int[] {0, 3, 0, 12, 30, 9, 30},
                new int[] {0, 3, 1, 12, 30, 6, 30}, new int[] {5, 9, 1, 20, 30, 12, 30}, new int[] {1, 2, 0, 7, 1, 7, 1},
                new int[] {0, 1, 0, 20, 99, 19, 99}, new int[] {0, 4, 0, 9, 1, 5, 1}, new int[] {1, 1, 0, 18, 99, 19, 99});
        CHECK.sentence("held at 0 to 20");
        night(new int[] {0, 9, 0, 9, 5, 0, 5}, new int[] {0, 9, 0, 8, 5, 0, 5}, new int[] {0, 9, 0, 10, 5, 1, 5},
                new int[] {0, 9, 1, 17, 5, 0, 5}, new int[] {0, 9, 1, 18, 5, 0, 5}, new int[] {0, 9, 1, 19, 5, 1, 5},
                new int[] {9, 0, 0, 1, 5, 19, 5}, new int[] {9, 0, 0, 3, 5, 20, 5}, new int[] {9, 0, 0, 20, 5, 20, 5},
                new int[] {9, 9, 1, 5, 5, 5, 5}, new int[] {9, 9, 1, 19, 50, 19, 50}, new int[] {9, 8, 1, 19, 5, 20, 5},
                new int[] {4, 6, 1, 20, 50, 16, 50}, new int[] {2, 5, 1, 5, 50, 0, 50});
    }

    private static void crumblingStacks() {
        CHECK.sentence("With a wetness of 20 then a tenth of its bricks (cut) crumbles.");
        int[][] tenths = {{1, 0}, {9, 0}, {10, 1}, {11, 1}, {19, 1}, {20, 2}, {29, 2}, {98, 9}, {99, 9}};
        for (int[] tenth : tenths) {
            night(new int[] {0, 0, 0, 20, tenth[0], 20, tenth[0] - tenth[1]}, new int[] {1, 0, 0, 18, tenth[0], 20, tenth[0] - tenth[1]},
                    new int[] {0, 0, 0, 19, tenth[0], 19, tenth[0]}, new int[] {0, 1, 0, 20, tenth[0], 19, tenth[0]},
                    new int[] {9, 9, 1, 20, tenth[0], 20, tenth[0] - tenth[1]}, new int[] {9, 0, 0, 2, tenth[0], 20, tenth[0] - tenth[1]});
        }
        PeatBog bog = Check.withWeather("", 0, 0);
        bog.stack(5, 6, 99, 20);
        int[] due = {90, 81, 73, 66, 60, 54, 49, 45, 41, 37};
        for (int bricks : due) {
            bog.pass(10);
            CHECK.same("night by night", bog.cell(5, 6, 2), bricks);
        }
        CHECK.same("crumbled in all", bog.count(9), 62);
        bog = Check.withWeather("gang a at 5 6 { load 40; }", 0, 0);
        bog.stack(5, 6, 40, 20);
        bog.pass(10);
        CHECK.gang("those in a cart don't", bog, 5, 6, 40, 20);
    }

    private static void turnedNoMore() {
        CHECK.sentence("it is turned no more");
        PeatBog bog = Check.withWeather("gang a at 5 6 { turn; wait 15; turn; }", 0, 3);
        bog.stack(5, 6, 9, 20);
        int[] due = {14, 8, 5};
        for (int wetness : due) {
            bog.pass(10);
            CHECK.same("wetness", bog.cell(5, 6, 3), wetness);
            CHECK.same("turned", bog.cell(5, 6, 4), 0);
        }
    }

    private static void waterAtNight() {
        CHECK.sentence("each cell has rain / 2 more and sun / 4 less, and 1 more, if it has no peat and is not the barn's, held at 0 to 9");
        int[] more = {0, 0, 1, 1, 2, 2, 3, 3, 4, 4};
        int[] less = {0, 0, 0, 0, 1, 1, 1, 1, 2, 2};
        for (int rain = 0; rain <= 9; rain++) {
            for (int sun = 0; sun <= 9; sun++) {
                PeatBog bog = new PeatBog();
                bog.setWeather(0, rain, sun);
                bog.set(0, 0, 0, 4);
                for (int water = 0; water <= 9; water++) {
                    bog.set(1 + water % 5, 1 + water / 5, 0, water);
                    bog.set(1 + water % 5, 4 + water / 5, 1, water);
                }
                bog.pass(10);
                for (int water = 0; water <= 9; water++) {
                    int then = water + more[rain] - less[sun];
                    String what = "water " + water + ", rain " + rain + ", sun " + sun;
                    CHECK.same(what + ", with peat", bog.cell(1 + water % 5, 4 + water / 5, 1), Math.max(0, Math.min(9, then)));
                    CHECK.same(what + ", without", bog.cell(1 + water % 5, 1 + water / 5, 1), Math.max(0, Math.min(9, then + 1)));
                }
                CHECK.same("the barn's", bog.cell(0, 0, 1), 4 + more[rain] - less[sun]);
            }
        }
        PeatBog bog = Check.taught("gang a at 5 6 { cut 6; }");
        bog.setWeather(0, 0, 0);
        bog.set(5, 6, 6, 3);
        bog.set(4, 6, 7, 3);
        bog.pass(10);
        CHECK.same("a cell whose peat is cut on this day", bog.cell(5, 6, 1), 4);
    }

    // ---- the bog rises

    /** A bog without peat, with water 9, as it stays without rain and sun. */
    private static PeatBog bareBog() {
        PeatBog bog = Check.withWeather("", 0, 0);
        for (int i = 0; i < 64; i++) {
            bog.set(i % 8, i / 8, 0, 9);
        }
        return bog;
    }

    private static void nightsOfRising() {
        CHECK.sentence("In a night whose day and 1, added, can be divided by 4, the bog rises");
        PeatBog bog = bareBog();
        bog.set(5, 6, 10, 9);
        for (int night = 0; night < 26; night++) {
            CHECK.same("ahead of the night " + night, bog.cell(5, 6, 0), 10 + night / 4);
            bog.pass(10);
            CHECK.same("behind the night " + night, bog.cell(5, 6, 0), 10 + (night + 1) / 4);
        }
    }

    private static void risingCells() {
        CHECK.sentence("each cell with a water of 4 or more and peat less than 60 has 1 more of this");
        int[][] cases = {{30, 3, 30}, {30, 4, 31}, {30, 5, 31}, {30, 0, 30}, {30, 9, 31}, {1, 4, 2}, {1, 3, 1}, {58, 4, 59}, {59, 4, 60},
            {60, 4, 60}, {60, 9, 60}, {59, 3, 59}};
        for (int[] one : cases) {
            PeatBog bog = bareBog();
            bog.pass(39);
            bog.set(5, 6, one[0], one[1]);
            bog.pass(1);
            CHECK.same("peat " + one[0] + ", water " + one[1], bog.cell(5, 6, 0), one[2]);
        }
        int[][] weathers = {{2, 0, 3, 31}, {1, 0, 3, 30}, {0, 4, 4, 30}, {0, 3, 4, 31}, {9, 9, 1, 30}, {9, 9, 2, 31}, {0, 9, 5, 30}, {0, 9, 6, 31}};
        for (int[] one : weathers) {
            PeatBog bog = bareBog();
            bog.setWeather(3, one[0], one[1]);
            bog.pass(39);
            bog.set(5, 6, 30, one[2]);
            bog.pass(1);
            CHECK.same("water " + one[2] + ", rain " + one[0] + ", sun " + one[1], bog.cell(5, 6, 0), one[3]);
        }
        for (int water = 0; water <= 9; water++) {
            PeatBog bog = bareBog();
            bog.pass(39);
            bog.set(5, 6, 0, water);
            bog.set(4, 6, 1, 0);
            bog.set(5, 7, 60, 0);
            bog.pass(1);
            CHECK.same("without peat, water " + water + " and 1 more", bog.cell(5, 6, 0), water >= 3 ? 1 : 0);
        }
    }

    private static void risingNeighbours() {
        CHECK.sentence("but one without peat only if at least two neighbours have some, and that of the barn never");
        int[] centers = {27, 63, 7, 56, 24, 31, 3, 60, 1, 8, 0, 9};
        for (int center : centers) {
            int x = center % 8;
            int y = center / 8;
            int[][] near = {{x - 1, y}, {x + 1, y}, {x, y - 1}, {x, y + 1}};
            for (int which = 0; which < 16; which++) {
                PeatBog bog = bareBog();
                int found = 0;
                for (int i = 0; i < 4; i++) {
                    boolean isCell = near[i][0] >= 0 && near[i][0] <= 7 && near[i][1] >= 0 && near[i][1] <= 7
                            && near[i][0] + near[i][1] > 0;
                    if ((which >> i & 1) != 0 && isCell) {
                        bog.set(near[i][0], near[i][1], 1, 0);
                        found++;
                    }
                }
                bog.pass(40);
                CHECK.same("neighbours " + which + " of " + x + ", " + y, bog.cell(x, y, 0), found >= 2 && center > 0 ? 1 : 0);
            }
        }
        PeatBog bog = bareBog();
        int[][] others = {{2, 2}, {4, 2}, {2, 4}, {4, 4}, {1, 3}, {5, 3}, {3, 1}, {3, 5}};
        for (int[] other : others) {
            bog.set(other[0], other[1], 30, 0);
        }
        bog.pass(40);
        CHECK.same("those farther off are no neighbours", bog.cell(3, 3, 0), 0);
        bog = bareBog();
        bog.set(7, 2, 9, 9);
        bog.set(1, 3, 9, 9);
        bog.set(0, 6, 9, 9);
        bog.set(6, 5, 9, 9);
        bog.pass(40);
        CHECK.same("the last one of the line above is none", bog.cell(0, 3, 0), 0);
        CHECK.same("the first one of the line below is none", bog.cell(7, 5, 0), 0);
    }

    private static void byWhatWasBefore() {
        CHECK.sentence("the bog rises, all by what was before");
        int[][][] lines = {{{2, 3}, {3, 2}, {4, 4}, {3, 3}, {4, 3}}, {{5, 3}, {4, 2}, {3, 4}, {4, 3}, {3, 3}},
            {{3, 2}, {2, 3}, {4, 4}, {3, 3}, {3, 4}}, {{3, 5}, {2, 4}, {4, 3}, {3, 4}, {3, 3}}};
        for (int[][] line : lines) {
            PeatBog bog = bareBog();
            for (int i = 0; i < 3; i++) {
                bog.set(line[i][0], line[i][1], 1, 9);
            }
            bog.pass(40);
            CHECK.same("with two neighbours", bog.cell(line[3][0], line[3][1], 0), 1);
            CHECK.same("with one, and one that rises now", bog.cell(line[4][0], line[4][1], 0), 0);
            bog.pass(40);
            CHECK.same("in the next such night", bog.cell(line[4][0], line[4][1], 0), 1);
        }
        PeatBog bog = Check.withWeather("gang a at 5 6 { wait 39; cut 1; }", 0, 0);
        bog.set(5, 6, 1, 5);
        bog.set(4, 6, 0, 9);
        bog.set(4, 5, 0, 9);
        bog.set(4, 7, 0, 9);
        bog.set(3, 6, 7, 9);
        bog.pass(40);
        CHECK.same("with three neighbours", bog.cell(5, 6, 0), 1);
        CHECK.same("a neighbour whose peat is cut on this day has none", bog.cell(4, 6, 0), 0);
    }
}
