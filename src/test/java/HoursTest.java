/** Promise 12, and the part 3 of the terms. */
public final class HoursTest {
    private static final Check CHECK = new Check("HoursTest");
    private static final int CART = 2;
    private static final int DONE = 4;
    private static final int IDLE = 5;
    private static final int MISSED = 6;
    private static final int HOURS = 7;
    private static final int WAITS = 8;

    public static void main(String[] args) {
        passing();
        going();
        goingByWater();
        cutting();
        turning();
        loading();
        unloading();
        waiting();
        choosing();
        repeating();
        countedSentences();
        order();
        ends();
        stacksAtNight();
        waterAtNight();
        bogRises();
        CHECK.finish();
    }

    private static void gang(String what, PeatBog bog, int... due) {
        CHECK.gang(what, bog, due);
    }

    private static void passing() {
        PeatBog bog = Check.taught("gang a at 0 0 { repeat 3 { load 5; unload; } }");
        bog.stack(0, 0, 12, 5);
        CHECK.same("pass(1)", bog.pass(1), 0);
        CHECK.same("pass(1) again", bog.pass(1), 5);
        CHECK.same("pass(3)", bog.pass(3), 5);
        CHECK.same("pass(195)", bog.pass(195), 2);
        CHECK.same("day", bog.count(0), 20);
        CHECK.same("hour", bog.count(1), 0);
        CHECK.same("pass(200)", bog.pass(200), 0);
        CHECK.same("day then", bog.count(0), 40);
        CHECK.same("hours", bog.gang(0, HOURS), 400);
        CHECK.refused(bog, IllegalArgumentException.class, "pass(0)", () -> bog.pass(0));
        CHECK.refused(bog, IllegalArgumentException.class, "pass(201)", () -> bog.pass(201));
        CHECK.refused(bog, IllegalArgumentException.class, "pass(-1)", () -> bog.pass(-1));
    }

    private static void going() {
        PeatBog bog = Check.taught("gang a at 5 6 { go 3, 7; go 4, 5; cut 1; }");
        int[][] way = {{4, 6}, {3, 6}, {3, 7}, {4, 7}, {4, 6}, {4, 5}, {4, 5}};
        for (int[] cell : way) {
            bog.pass(1);
            gang("go", bog, cell);
        }
        CHECK.same("the go that has come takes no hour", bog.count(10), 1);
        gang("behind go", bog, 4, 5, 0, 0, 0, 0, 0, 7, 0);
        for (String wrong : new String[] {"8, 0", "0, 8", "-1, 0", "0, -1", "9, 9"}) {
            bog = Check.taught("gang a at 5 6 { go " + wrong + "; cut 1; }");
            bog.pass(1);
            gang("go " + wrong, bog, 5, 6, 0, 0, 0, 0, 1, 1, 0);
            bog.pass(1);
            CHECK.same("go " + wrong + " is over", bog.count(10), 1);
        }
        bog = Check.taught("gang a at 5 6 { go hour * 2, 6; cut 1; }");
        bog.pass(3);
        gang("go with a sum, it is the one of the hour", bog, 4, 6);
        bog.pass(1);
        gang("go with a sum, to the right", bog, 5, 6);
        bog = Check.taught("gang a at 5 6 { go x + 1 - 2 * (hour / 2), 6; }");
        bog.pass(4);
        gang("x of a go is the gang's", bog, 5, 6);
    }

    private static void goingByWater() {
        PeatBog bog = Check.taught("gang a at 2 2 { go 4, 3; cut 2; }");
        bog.set(3, 2, 30, 9);
        bog.pass(3);
        gang("go into water", bog, 2, 2, 0, 0, 0, 0, 3, 3, 0);
        bog.set(3, 2, 30, 8);
        bog.set(4, 3, 30, 9);
        bog.pass(3);
        gang("go into water, vertically", bog, 4, 2, 0, 0, 0, 0, 4, 6, 0);
        bog.set(4, 3, 30, 8);
        bog.set(4, 2, 30, 9);
        bog.pass(2);
        gang("go out of water", bog, 4, 3, 0, 0, 0, 0, 4, 8, 0);
        CHECK.same("cut behind it", bog.count(10), 2);
    }

    private static void cutting() {
        PeatBog bog = Check.taught("gang a at 5 6 { cut 4; cut 9; cut 0; cut -3; wait 6; cut 1; }");
        bog.pass(1);
        CHECK.same("cut 4", bog.cell(5, 6, 2), 4);
        CHECK.same("wetness", bog.cell(5, 6, 3), 20);
        CHECK.same("peat", bog.cell(5, 6, 0), 26);
        bog.pass(1);
        CHECK.same("cut 9", bog.cell(5, 6, 2), 10);
        CHECK.same("cut in all", bog.count(10), 10);
        bog.pass(2);
        gang("cut of none", bog, 5, 6, 0, 0, 0, 0, 2, 4, 0);
        bog.pass(7);
        CHECK.same("mixed", bog.cell(5, 6, 3), (16 * 10 + 20) / 11);
        CHECK.same("peat is 10 + 1 less", bog.cell(5, 6, 0), 19);

        bog = Check.taught("gang a at 5 6 { cut 6; cut 6; } gang b at 1 1 { cut 6; cut 6; } gang c at 0 0 { cut 6; }");
        bog.set(5, 6, 2, 3);
        bog.stack(1, 1, 95, 0);
        bog.pass(2);
        CHECK.same("as there is peat", bog.cell(5, 6, 2), 2);
        CHECK.same("peat is gone", bog.cell(5, 6, 0), 0);
        CHECK.same("missed without peat", bog.gang(0, MISSED), 1);
        CHECK.same("as there is room", bog.cell(1, 1, 2), 99);
        CHECK.same("peat without room", bog.cell(1, 1, 0), 26);
        CHECK.same("wetness of 95 dry ones and 4", bog.cell(1, 1, 3), 0);
        CHECK.same("missed without room", bog.gang(1, MISSED), 1);
        CHECK.same("missed at the barn", bog.gang(2, MISSED), 1);
        CHECK.same("cut in all", bog.count(10), 6);
    }

    private static void turning() {
        PeatBog bog = Check.taught("gang a at 5 6 { turn; cut 5; turn; turn; load 5; cut 1; }");
        bog.pass(1);
        gang("turn without bricks", bog, 5, 6, 0, 0, 0, 0, 1, 1, 0);
        CHECK.same("not turned", bog.cell(5, 6, 4), 0);
        bog.pass(2);
        CHECK.same("turned", bog.cell(5, 6, 4), 1);
        bog.pass(1);
        CHECK.same("turned twice", bog.cell(5, 6, 4), 1);
        CHECK.same("turn with bricks isn't missed", bog.gang(0, MISSED), 1);
        bog.pass(1);
        CHECK.same("turned, without bricks", bog.cell(5, 6, 4), 0);
        CHECK.same("wet, without bricks", bog.cell(5, 6, 3), 0);
        bog.pass(1);
        CHECK.same("new bricks aren't turned", bog.cell(5, 6, 4), 0);
    }

    private static void loading() {
        PeatBog bog = Check.taught("gang a at 5 6 { load 7; load 0; load -2; load 50; load 1; go 4, 6; load 9; }");
        bog.stack(5, 6, 60, 11);
        bog.pass(1);
        gang("load 7", bog, 5, 6, 7, 11);
        CHECK.same("stack", bog.cell(5, 6, 2), 53);
        CHECK.same("wetness stays", bog.cell(5, 6, 3), 11);
        bog.pass(2);
        gang("load of none", bog, 5, 6, 7, 11, 0, 0, 2);
        bog.pass(1);
        gang("as the cart has room", bog, 5, 6, 40, 11, 0, 0, 2);
        CHECK.same("stack then", bog.cell(5, 6, 2), 20);
        bog.pass(1);
        gang("without room", bog, 5, 6, 40, 11, 0, 0, 3);
        bog = Check.taught("gang a at 5 6 { load 9; go 4, 6; load 9; load 9; }");
        bog.stack(5, 6, 4, 3);
        bog.stack(4, 6, 7, 20);
        bog.pass(4);
        gang("mixed, as the stack has", bog, 4, 6, 11, (4 * 3 + 7 * 20) / 11, 0, 0, 1);
        CHECK.same("stack is empty", bog.cell(4, 6, 2), 0);
    }

    private static void unloading() {
        String text = "gang a at 0 0 { load 9; unload; unload; load 40; unload; } ";
        for (int wetness = 5; wetness <= 6; wetness++) {
            PeatBog bog = Check.taught(text);
            bog.stack(0, 0, 12, wetness);
            CHECK.same("more dry ones", bog.pass(2), wetness == 5 ? 9 : 0);
            CHECK.same("dry", bog.count(5), wetness == 5 ? 9 : 0);
            CHECK.same("wet", bog.count(6), wetness == 5 ? 0 : 9);
            gang("unloaded", bog, 0, 0, 0, 0, 0, 0, 0, 2, 0);
            bog.pass(1);
            gang("unload of none", bog, 0, 0, 0, 0, 0, 0, 1, 3, 0);
            bog.pass(2);
            CHECK.same("all", bog.count(5) + bog.count(6), 12);
        }
        PeatBog bog = Check.taught("gang a at 5 6 { load 30; go 5, 7; unload; unload; go 4, 7; unload; unload; }");
        bog.stack(5, 6, 30, 12);
        bog.stack(5, 7, 89, 1);
        bog.pass(3);
        gang("as there is room", bog, 5, 7, 20, 12, 0, 0, 0);
        CHECK.same("stack", bog.cell(5, 7, 2), 99);
        CHECK.same("mixed", bog.cell(5, 7, 3), (89 + 120) / 99);
        bog.pass(1);
        gang("without room", bog, 5, 7, 20, 12, 0, 0, 1);
        bog.pass(2);
        gang("all", bog, 4, 7, 0, 0, 0, 0, 1);
        CHECK.same("new stack", bog.cell(4, 7, 2), 20);
        CHECK.same("its wetness", bog.cell(4, 7, 3), 12);
        bog.pass(1);
        CHECK.same("missed without bricks", bog.gang(0, MISSED), 2);
        CHECK.same("the barn has none of them", bog.count(5) + bog.count(6), 0);
    }

    private static void waiting() {
        for (int time = -1; time <= 3; time++) {
            PeatBog bog = Check.taught("gang a at 5 6 { wait " + time + "; cut 1; }");
            int hours = Math.max(time, 1);
            for (int hour = 1; hour <= hours; hour++) {
                bog.pass(1);
                gang("wait " + time, bog, 5, 6, 0, 0, 0, 0, 0, hour, hours - hour);
            }
            bog.pass(1);
            CHECK.same("behind wait " + time, bog.count(10), 1);
        }
        PeatBog bog = Check.taught("gang a at 5 6 { wait 3 - hour; cut 1; }");
        bog.pass(1);
        CHECK.same("reckoned as it is come to", bog.gang(0, WAITS), 2);
        bog.pass(3);
        CHECK.same("behind it", bog.count(10), 1);
        bog = Check.taught("gang a at 5 6 { wait 65536 * 32768 - 1; }");
        bog.pass(200);
        CHECK.same("the longest wait", bog.gang(0, WAITS), Integer.MAX_VALUE - 200);
    }

    private static void choosing() {
        PeatBog bog = Check.taught("gang a at 5 6 { if peat > 29 { cut 1; } if peat > 29 { cut 2; } else { cut 3; }"
                + " if peat > 29 { cut 4; } cut 5; if peat < 9 { } else { turn; } if peat > 9 { } else { } cut 6; }");
        int[] cuts = {1, 4, 9, 9, 15, 15};
        for (int cut : cuts) {
            bog.pass(1);
            CHECK.same("cut by if", bog.count(10), cut);
        }
        CHECK.same("done", bog.gang(0, DONE), 1);
        bog = Check.taught("gang a at 5 6 { while peat > 21 { cut 3; } turn; while peat > 21 { cut 3; } }");
        bog.pass(4);
        CHECK.same("cut by while", bog.count(10), 9);
        CHECK.same("turned behind it", bog.cell(5, 6, 4), 1);
        CHECK.same("not yet done", bog.gang(0, DONE), 0);
        bog.pass(1);
        CHECK.same("done behind while", bog.gang(0, DONE), 1);
        CHECK.same("idle then", bog.gang(0, IDLE), 1);
    }

    private static void repeating() {
        PeatBog bog = Check.taught("gang a at 5 6 { repeat 2 { repeat 3 { cut 1; } turn; repeat 0 { cut 6; } repeat 1 { cut 2; } } load 3; }");
        int[] cuts = {1, 2, 3, 3, 5, 6, 7, 8, 8, 10, 10};
        for (int cut : cuts) {
            bog.pass(1);
            CHECK.same("cut by repeat", bog.count(10), cut);
        }
        CHECK.same("loaded behind it", bog.gang(0, CART), 3);
        bog = Check.taught("gang a at 5 6 { repeat 20 { cut 1; } turn; }");
        bog.pass(21);
        CHECK.same("20 times", bog.count(10), 20);
        CHECK.same("and no more", bog.cell(5, 6, 4), 1);
        bog = Check.taught("gang a at 5 6 { repeat 2 { if peat > 0 { repeat 2 { while peat > 28 { cut 1; } cut 2; } } } }");
        bog.pass(6);
        CHECK.same("loops in one another", bog.count(10), 2 + 8);
        bog = Check.taught("gang a at 5 6 { repeat 1 { repeat 1 { repeat 1 { repeat 1 { repeat 1 { repeat 2 {"
                + " repeat 3 { cut 1; } } } } } } } turn; }");
        bog.pass(7);
        CHECK.same("the deepest loops", bog.count(10), 6);
        CHECK.same("turned behind them", bog.cell(5, 6, 4), 1);
    }

    /** So many hours are idle ahead of the one in which the first brick is cut. */
    private static void idleAhead(String sentences, int due) {
        PeatBog bog = Check.taught("gang a at 5 6 { " + sentences + " cut 1; wait 9; }");
        for (int hours = 0; hours < due; hours++) {
            bog.pass(1);
            CHECK.same(sentences + " cut", bog.count(10), 0);
        }
        bog.pass(1);
        CHECK.same(sentences + " cut then", bog.count(10), 1);
        gang(sentences, bog, 5, 6, 0, 0, 0, due, 0, due + 1, 0);
    }

    private static void countedSentences() {
        String ten = "";
        for (int i = 0; i < 10; i++) {
            ten += "go 5,6; ";
        }
        String five = "go x,y; if 1 = 2 { } while 1 = 2 { } repeat 0 { } if 1 = 1 { } else { } ";
        idleAhead(ten + ten + ten + ten, 0);
        idleAhead("repeat 4 { " + ten + "} " + five, 0);
        idleAhead("repeat 4 { " + ten + "} " + five + "if 1 = 1 { } ", 1);
        idleAhead("repeat 4 { " + ten + "} " + five + "go x,y; ", 1);
        idleAhead("repeat 4 { " + ten + "} " + five + "while 1 = 2 { } ", 1);
        idleAhead("repeat 4 { " + ten + "} " + five + "repeat 0 { } ", 1);
        idleAhead("repeat 4 { " + ten + "} if 1 = 1 { go x,y; go x,y; } go 5,6; repeat 0 { turn; } ", 0);
        idleAhead("repeat 20 { } repeat 20 { } repeat 7 { }", 0);
        idleAhead("repeat 20 { } repeat 20 { } repeat 8 { }", 1);
        idleAhead("repeat 20 { } repeat 20 { } repeat 6 { } if 1 = 1 { }", 0);
        idleAhead("repeat 20 { } repeat 20 { } repeat 6 { } repeat 0 { } repeat 0 { }", 1);
        idleAhead("repeat 20 { repeat 20 { } }", (21 + 20 * 21 - 1) / 50);
        idleAhead("repeat 20 { repeat 3 { repeat 1 { } } }", (21 + 20 * 4 + 20 * 3 * 2 - 1) / 50);
        idleAhead("while hour < 4 { } go 5,6;", 4);
        PeatBog bog = Check.taught("gang a at 5 6 { repeat 20 { } repeat 20 { } repeat 7 { } go 4,6; }");
        bog.pass(1);
        gang("a go elsewhere behind 50", bog, 4, 6, 0, 0, 0, 0, 0, 1, 0);
        bog = Check.taught("gang a at 5 6 { repeat 20 { } repeat 20 { } repeat 7 { } go 8,6; }");
        bog.pass(1);
        gang("a missed go behind 50", bog, 5, 6, 0, 0, 0, 0, 1, 1, 0);
        bog = Check.taught("gang a at 5 6 { repeat 20 { } repeat 20 { } repeat 7 { } }");
        bog.pass(1);
        gang("done behind 50", bog, 5, 6, 0, 0, 1, 1, 0, 1, 0);
        bog = Check.taught("gang a at 5 6 { repeat 20 { } repeat 20 { } repeat 8 { } }");
        bog.pass(1);
        gang("idle, but not done behind 51", bog, 5, 6, 0, 0, 0, 1, 0, 1, 0);
        bog = Check.taught("gang a at 5 6 { repeat 20 { } repeat 20 { } repeat 7 { } if hour = 0 { cut 1; } else { cut 2; } }");
        bog.pass(2);
        CHECK.same("a test is reckoned as it is come to again", bog.count(10), 2);
        bog = Check.taught("gang a at 5 6 { repeat 20 { } repeat 20 { } cut 1; repeat 20 { } repeat 20 { } cut 1; }");
        bog.pass(2);
        CHECK.same("each hour has its own 50", bog.count(10), 2);
    }

    private static void order() {
        PeatBog bog = Check.taught("gang a at 5 6 { load 2; cut 3; } gang b at 5 6 { cut 4; load 9; } gang c at 5 6 { if bricks = 4 { turn; } }");
        bog.pass(1);
        CHECK.same("load ahead of cut", bog.gang(0, MISSED), 1);
        CHECK.same("turn behind cut", bog.cell(5, 6, 4), 1);
        bog.pass(1);
        CHECK.same("cut ahead of load", bog.gang(1, CART), 7);
        bog = Check.taught("gang a at 5 6 { wait 9; wait day * 100 + hour; } gang b at 1 1 { wait 10; wait day * 100 + hour; }");
        bog.pass(10);
        CHECK.same("the hour 9 of the day 0", bog.gang(0, WAITS), 9 - 1);
        bog.pass(1);
        CHECK.same("the hour 0 of the day 1", bog.gang(1, WAITS), 100 - 1);
        bog = Check.taught("gang a at 0 0 { load 20; wait sun * 10 + rain; } gang b at 7 7 { }");
        bog.stack(0, 0, 9, 2);
        bog.setWeather(0, 3, 7);
        bog.pass(2);
        CHECK.same("rain and sun of the day", bog.gang(0, WAITS), 72);
        bog = Check.taught("gang a at 0 0 { load 20; load 1; wait cart * 10 + damp; }");
        bog.stack(0, 0, 9, 2);
        bog.pass(3);
        CHECK.same("cart and damp", bog.gang(0, WAITS), 91);
        bog = Check.taught("gang a at 0 0 { load 20; unload; wait barn * 10 + bricks; }");
        bog.stack(0, 0, 29, 5);
        bog.pass(3);
        CHECK.same("barn and bricks", bog.gang(0, WAITS), 208);
        bog = Check.taught("gang a at 0 0 { load 20; unload; wait barn * 10 + wet; }");
        bog.stack(0, 0, 29, 6);
        bog.pass(3);
        CHECK.same("barn tells dry ones", bog.gang(0, WAITS), 5);
        bog = Check.taught("gang a at 1 1 { wait 120; wait sun * 10 + rain; }");
        bog.setWeather(0, 6, 2);
        bog.pass(121);
        CHECK.same("weather of the day 12", bog.gang(0, WAITS), 25);
    }

    private static void ends() {
        PeatBog bog = Check.taught("gang a at 5 6 { cut 1; }");
        gang("at first", bog, 5, 6, 0, 0, 0, 0, 0, 0, 0);
        bog.pass(1);
        gang("behind the last sentence", bog, 5, 6, 0, 0, 0, 0, 0, 1, 0);
        bog.pass(1);
        gang("done", bog, 5, 6, 0, 0, 1, 1, 0, 2, 0);
        bog.pass(5);
        gang("idle on", bog, 5, 6, 0, 0, 1, 6, 0, 7, 0);
    }

    private static void stack(String what, PeatBog bog, int x, int bricks, int wetness, int turned) {
        CHECK.same(what + ", bricks", bog.cell(x, 6, 2), bricks);
        CHECK.same(what + ", wetness", bog.cell(x, 6, 3), wetness);
        CHECK.same(what + ", turned", bog.cell(x, 6, 4), turned);
    }

    private static void stacksAtNight() {
        PeatBog bog = Check.taught("gang a at 1 6 { turn; wait 9; turn; } gang b at 5 6 { turn; }");
        bog.setWeather(0, 1, 5);
        bog.setWeather(1, 0, 9);
        bog.setWeather(2, 9, 9);
        bog.setWeather(3, 2, 3);
        bog.stack(1, 6, 40, 20);
        bog.stack(2, 6, 40, 20);
        bog.stack(3, 6, 40, 2);
        bog.stack(5, 6, 10, 19);
        bog.pass(9);
        stack("turned, by day", bog, 1, 40, 20, 1);
        bog.pass(1);
        stack("turned", bog, 1, 40, 12, 0);
        stack("not turned", bog, 2, 40, 17, 0);
        stack("not below 0", bog, 3, 40, 0, 0);
        stack("none", bog, 4, 0, 0, 0);
        stack("turned, of another gang", bog, 5, 10, 11, 0);
        bog.pass(10);
        stack("turned again", bog, 1, 40, 0, 0);
        stack("not turned again", bog, 2, 40, 8, 0);
        CHECK.same("none crumbled", bog.count(9), 0);
        bog.stack(6, 6, 9, 20);
        bog.stack(7, 6, 19, 12);
        bog.stack(0, 6, 99, 20);
        bog.pass(10);
        stack("wetter", bog, 1, 40, 9, 0);
        stack("wetter, too", bog, 2, 40, 17, 0);
        stack("less than 10 lose none", bog, 6, 9, 20, 0);
        stack("19 lose 1", bog, 7, 18, 20, 0);
        stack("none, in a night of rain", bog, 4, 0, 0, 0);
        stack("99 lose 9", bog, 0, 90, 20, 0);
        stack("wetter than 5, but not 20", bog, 5, 10, 11, 0);
        CHECK.same("crumbled", bog.count(9), 10);
        bog.pass(10);
        CHECK.same("crumbled again", bog.count(9), 10 + 1 + 9);
        stack("wetter by 1", bog, 1, 40, 10, 0);
        bog = Check.taught("gang a at 1 6 { turn; }");
        bog.setWeather(0, 9, 9);
        bog.stack(1, 6, 20, 20);
        bog.stack(2, 6, 20, 20);
        bog.pass(10);
        stack("held only behind both suns", bog, 1, 18, 20, 0);
        bog = Check.taught("gang a at 1 6 { turn; }");
        bog.setWeather(0, 4, 6);
        bog.stack(1, 6, 20, 20);
        bog.pass(10);
        stack("8 less 12", bog, 1, 20, 16, 0);
    }

    private static void waterAtNight() {
        PeatBog bog = new PeatBog();
        bog.set(1, 0, 0, 3);
        bog.set(2, 0, 1, 9);
        bog.set(3, 0, 0, 0);
        bog.set(4, 0, 1, 0);
        bog.set(0, 0, 0, 3);
        int[][] weather = {{0, 0}, {5, 3}, {9, 9}, {1, 8}, {0, 9}, {9, 0}, {9, 0}};
        // In the night 3 peat rises in the cells 1 and 3, which get no more water for having none then.
        int[][] due = {{3, 4, 9, 1, 0}, {5, 7, 9, 4, 2}, {7, 9, 9, 7, 4}, {5, 8, 7, 6, 2}, {3, 6, 5, 4, 0},
            {7, 9, 9, 8, 4}, {9, 9, 9, 9, 8}};
        for (int day = 0; day < weather.length; day++) {
            bog.setWeather(day, weather[day][0], weather[day][1]);
        }
        for (int day = 0; day < weather.length; day++) {
            bog.pass(10);
            for (int x = 0; x < 5; x++) {
                CHECK.same("water of " + x + " behind the night " + day, bog.cell(x, 0, 1), due[day][x]);
            }
        }
    }

    private static void bogRises() {
        PeatBog bog = new PeatBog();
        for (int i = 1; i < 64; i++) {
            bog.set(i % 8, i / 8, 0, 9);
        }
        for (int day = 0; day < 12; day++) {
            bog.setWeather(day, 0, 0);
        }
        bog.set(0, 0, 0, 9);
        bog.set(1, 0, 60, 9);
        bog.set(0, 1, 59, 9);
        bog.set(3, 1, 5, 9);
        bog.set(5, 1, 5, 3);
        bog.set(7, 7, 1, 4);
        bog.set(4, 6, 7, 9);
        bog.set(5, 7, 7, 9);
        bog.pass(39);
        CHECK.same("peat ahead of the night 3", bog.count(11), 60 + 59 + 5 + 5 + 1 + 7 + 7);
        bog.pass(1);
        peat(bog, 0, 0, 0);
        peat(bog, 1, 0, 60);
        peat(bog, 0, 1, 60);
        peat(bog, 1, 1, 1);
        peat(bog, 2, 0, 0);
        peat(bog, 4, 1, 1);
        peat(bog, 3, 1, 6);
        peat(bog, 5, 1, 5);
        peat(bog, 7, 7, 2);
        peat(bog, 6, 7, 1);
        peat(bog, 5, 6, 1);
        peat(bog, 4, 7, 1);
        peat(bog, 4, 6, 8);
        peat(bog, 4, 5, 0);
        peat(bog, 7, 6, 0);
        peat(bog, 0, 2, 0);
        CHECK.same("peat behind the night 3", bog.count(11), 60 + 60 + 1 + 1 + 6 + 5 + 2 + 1 + 1 + 1 + 8 + 8);
        bog.pass(30);
        peat(bog, 2, 1, 0);
        bog.pass(10);
        peat(bog, 2, 1, 1);
        peat(bog, 2, 0, 0);
        peat(bog, 1, 1, 2);
        peat(bog, 5, 1, 5);
        bog = new PeatBog();
        bog.set(4, 4, 30, 5);
        bog.set(2, 2, 30, 0);
        bog.setWeather(3, 0, 8);
        bog.pass(40);
        peat(bog, 4, 4, 30);
        bog = new PeatBog();
        bog.setWeather(3, 9, 8);
        bog.set(4, 4, 0, 7);
        bog.pass(40);
        peat(bog, 4, 4, 1);
        risesAtTheEdges();
    }

    /** The cells at the ends of a line are no neighbours of those in the next one. */
    private static void risesAtTheEdges() {
        PeatBog bog = new PeatBog();
        for (int i = 1; i < 64; i++) {
            bog.set(i % 8, i / 8, 0, 9);
        }
        for (int day = 0; day < 4; day++) {
            bog.setWeather(day, 0, 0);
        }
        bog.set(7, 2, 9, 9);
        bog.set(1, 3, 9, 9);
        bog.set(0, 6, 9, 9);
        bog.set(6, 5, 9, 9);
        bog.set(7, 4, 9, 9);
        bog.pass(40);
        peat(bog, 0, 3, 0);
        peat(bog, 7, 3, 1);
        peat(bog, 7, 5, 1);
        peat(bog, 7, 6, 0);
        peat(bog, 0, 7, 0);
        peat(bog, 6, 4, 1);
        CHECK.same("peat with neighbours at the edges", bog.count(11), 5 * 10 + 3);
        bog.set(7, 4, 0, 9);
        bog.set(7, 3, 0, 9);
        bog.set(7, 5, 0, 9);
        bog.pass(40);
        peat(bog, 7, 5, 0);
    }

    private static void peat(PeatBog bog, int x, int y, int due) {
        CHECK.same("peat of " + x + ", " + y, bog.cell(x, y, 0), due);
    }
}
