/** Promises 13 to 20. */
public final class ForesightTest {
    private static final Check CHECK = new Check("ForesightTest");

    public static void main(String[] args) {
        foreseeing();
        drying();
        beingDone();
        advising();
        adviceOnWeather();
        drawing();
        sharing();
        checksum();
        nothingIsChanged();
        CHECK.finish();
    }

    private static PeatBog busyBog() {
        PeatBog bog = Check.taught("gang a at 3 2 { repeat 9 { cut 6; turn; wait 4; } load 40; go 0,0; unload; }"
                + " gang b at 0 0 { while day < 20 { if bricks > 0 { load 3; unload; } else { wait 2; } } }");
        bog.stack(0, 0, 99, 9);
        bog.stack(7, 7, 90, 20);
        bog.setWeather(1, 8, 1);
        bog.setWeather(2, 9, 0);
        return bog;
    }

    private static void foreseeing() {
        int[] hours = {1, 9, 10, 11, 40, 41, 99, 180};
        for (int hour : hours) {
            PeatBog bog = busyBog();
            bog.pass(15);
            int crumbled = bog.count(9);
            int[] foreseen = new int[4];
            for (int what = 0; what < 4; what++) {
                foreseen[what] = bog.foresee(hour, what);
            }
            bog.pass(hour);
            CHECK.same("dry ones in " + hour, foreseen[0], bog.count(5));
            CHECK.same("wet ones in " + hour, foreseen[1], bog.count(6));
            CHECK.same("crumbling in " + hour, foreseen[2], bog.count(9) - crumbled);
            CHECK.same("peat in " + hour, foreseen[3], bog.count(11));
        }
        PeatBog bog = busyBog();
        CHECK.same("crumbling: 9 + 6 + 2 in the night 1, 8 + 4 + 2 in the night 2", bog.foresee(30, 2), 31);
        CHECK.same("crumbling ahead of the night 2", bog.foresee(29, 2), 17);
        bog.pass(20);
        CHECK.same("crumbling behind the night 1", bog.foresee(10, 2), 14);
        bog.pass(10);
        CHECK.same("crumbling behind them", bog.foresee(10, 2), 0);
        CHECK.same("wet ones of 200", bog.foresee(200, 1) >= bog.count(6) ? 1 : 0, 1);
        CHECK.same("foresee(300, 3)", bog.foresee(300, 3) > 0 ? 1 : 0, 1);
        bog = Check.taught("gang a at 0 0 { wait 297; load 5; unload; load 4; unload; }");
        bog.stack(0, 0, 20, 0);
        CHECK.same("foresee(298, 0)", bog.foresee(298, 0), 0);
        CHECK.same("foresee(299, 0)", bog.foresee(299, 0), 5);
        CHECK.same("foresee(300, 0)", bog.foresee(300, 0), 5);
        bog.pass(1);
        CHECK.same("foresee(300, 0) later", bog.foresee(300, 0), 9);
        PeatBog same = bog;
        Class<? extends RuntimeException> index = IndexOutOfBoundsException.class;
        Class<? extends RuntimeException> argument = IllegalArgumentException.class;
        CHECK.refused(same, argument, "foresee(0, 0)", () -> same.foresee(0, 0));
        CHECK.refused(same, argument, "foresee(301, 0)", () -> same.foresee(301, 0));
        CHECK.refused(same, argument, "foresee(301, 4)", () -> same.foresee(301, 4));
        CHECK.refused(same, argument, "foresee(-1, -1)", () -> same.foresee(-1, -1));
        CHECK.refused(same, index, "foresee(1, 4)", () -> same.foresee(1, 4));
        CHECK.refused(same, index, "foresee(1, -1)", () -> same.foresee(1, -1));
    }

    private static void drying() {
        PeatBog bog = Check.taught("gang a at 1 1 { turn; turn; load 30; load 30; }");
        CHECK.same("dries() of none", bog.dries(1, 1), 0);
        bog.stack(1, 1, 20, 20);
        bog.stack(2, 1, 20, 20);
        bog.stack(3, 1, 20, 5);
        bog.stack(4, 1, 20, 6);
        bog.stack(0, 0, 9, 9);
        CHECK.same("20 less 4 a night", bog.dries(1, 1), 4);
        CHECK.same("5", bog.dries(3, 1), 0);
        CHECK.same("6", bog.dries(4, 1), 1);
        CHECK.same("9", bog.dries(0, 0), 1);
        CHECK.same("none there", bog.dries(1, 2), 0);
        bog.pass(1);
        CHECK.same("turned: 20 less 8, less 4", bog.dries(1, 1), 3);
        bog.setWeather(0, 3, 9);
        CHECK.same("turned: 20 less 12", bog.dries(1, 1), 2);
        CHECK.same("20 less 3, less 4", bog.dries(2, 1), 4);
        bog.setWeather(1, 9, 0);
        CHECK.same("wetter in between", bog.dries(1, 1), 6);
        CHECK.same("dry ahead of the rain", bog.dries(4, 1), 1);
        bog.pass(2);
        CHECK.same("loaded", bog.dries(1, 1), 0);
        bog.pass(17);
        CHECK.same("from the day 2 on", bog.dries(2, 1), 4);
        for (int day = 0; day < 12; day++) {
            bog.setWeather(day, 0, 0);
        }
        CHECK.same("never", bog.dries(2, 1), -1);
        bog.setWeather(2, 0, 3);
        CHECK.same("at the day 2, 14, 26, 38 and 50: 49 nights", bog.dries(2, 1), 49);
        bog.setWeather(2, 0, 2);
        bog.stack(6, 6, 5, 15);
        bog.stack(5, 6, 5, 16);
        CHECK.same("15 less 2 at these days", bog.dries(6, 6), 49);
        CHECK.same("16 would be dry behind 61 nights", bog.dries(5, 6), -1);
        bog.setWeather(2, 0, 0);
        bog.setWeather(1, 0, 3);
        CHECK.same("at the day 13, 25, 37, 49 and 61: 60 nights", bog.dries(2, 1), 60);
        bog.pass(10);
        CHECK.same("a day later: 59 nights", bog.dries(2, 1), 59);
        bog.setWeather(1, 0, 2);
        CHECK.same("later than 60 nights", bog.dries(2, 1), -1);
        PeatBog same = bog;
        Class<? extends RuntimeException> index = IndexOutOfBoundsException.class;
        CHECK.refused(same, index, "dries(8, 0)", () -> same.dries(8, 0));
        CHECK.refused(same, index, "dries(-1, 0)", () -> same.dries(-1, 0));
        CHECK.refused(same, index, "dries(0, 8)", () -> same.dries(0, 8));
        CHECK.refused(same, index, "dries(0, -1)", () -> same.dries(0, -1));
    }

    private static void beingDone() {
        PeatBog bog = Check.taught("gang a at 1 1 { cut 1; cut 1; } gang b at 0 0 { } gang c at 0 0 { wait 300; }"
                + " gang d at 5 5 { while 1 = 1 { } }");
        CHECK.same("done(0)", bog.done(0), 3);
        CHECK.same("done(1)", bog.done(1), 1);
        CHECK.same("done(2)", bog.done(2), -1);
        CHECK.same("done(3)", bog.done(3), -1);
        bog.pass(1);
        CHECK.same("done(0) later", bog.done(0), 2);
        CHECK.same("done(1) later", bog.done(1), 0);
        CHECK.same("done(2) later", bog.done(2), 300);
        bog.pass(199);
        CHECK.same("done(2) much later", bog.done(2), 101);
        bog.pass(100);
        CHECK.same("done(2), as it is still waiting", bog.done(2), 1);
        CHECK.same("gang(2, 4)", bog.gang(2, 4), 0);
        bog.pass(1);
        CHECK.same("done(2), as it is done", bog.done(2), 0);
        CHECK.same("gang(2, 4) then", bog.gang(2, 4), 1);
        CHECK.refused(bog, IndexOutOfBoundsException.class, "done(4)", () -> bog.done(4));
        CHECK.refused(bog, IndexOutOfBoundsException.class, "done(-1)", () -> bog.done(-1));
        PeatBog empty = new PeatBog();
        CHECK.refused(empty, IndexOutOfBoundsException.class, "done(0) of none", () -> empty.done(0));
    }

    private static void advising() {
        PeatBog bog = Check.taught("gang a at 1 1 { while wet > 5 { wait 10 - hour; } load 40; go 0,0; unload; }");
        bog.stack(1, 1, 30, 18);
        CHECK.same("any of the first days is as good: the first", bog.advise(24), 0);
        CHECK.same("too few hours", bog.advise(23), -1);
        CHECK.same("the fewest hours", bog.advise(1), -1);
        CHECK.same("not yet unloaded without", bog.advise(43), 0);
        CHECK.same("unloaded all the same", bog.advise(44), -1);
        bog.setWeather(0, 0, 8);
        bog.setWeather(1, 2, 6);
        bog.setWeather(2, 0, 5);
        CHECK.same("only one day is enough", bog.advise(24), 1);
        CHECK.same("until it is dry by itself", bog.advise(33), 1);
        CHECK.same("dry by itself", bog.advise(34), -1);
        bog.setWeather(1, 0, 9);
        CHECK.same("a day of 9 gives no more", bog.advise(24), -1);
        CHECK.refused(bog, IllegalArgumentException.class, "advise(0)", () -> bog.advise(0));
        CHECK.refused(bog, IllegalArgumentException.class, "advise(121)", () -> bog.advise(121));
        CHECK.refused(bog, IllegalArgumentException.class, "advise(-5)", () -> bog.advise(-5));
        PeatBog empty = new PeatBog();
        CHECK.same("without gangs", empty.advise(120), -1);
    }

    private static void adviceOnWeather() {
        PeatBog bog = Check.taught("gang a at 0 0 { wait 10; repeat 9 { if wet <= 5 { load 40; unload; } wait 10 - hour; } }");
        bog.stack(0, 0, 90, 20);
        for (int day = 0; day < 12; day++) {
            bog.setWeather(day, 1, 2);
        }
        bog.setWeather(4, 9, 0);
        CHECK.same("without rain in the day of rain", bog.advise(120), -1);
        bog.setWeather(1, 0, 9);
        bog.setWeather(2, 0, 6);
        bog.setWeather(3, 0, 0);
        CHECK.same("the first of those that are enough", bog.advise(60), 0);
        bog.setWeather(0, 0, 8);
        bog.setWeather(2, 2, 0);
        CHECK.same("the day of rain between", bog.advise(60), 2);
        CHECK.same("not within 30 hours", bog.advise(30), -1);
        CHECK.same("behind 33 hours", bog.advise(33), 2);
        bog.pass(12);
        CHECK.same("a bit later", bog.advise(25), 2);
        bog = Check.taught("gang a at 0 0 { wait 125; if wet <= 5 { load 40; unload; } }");
        bog.stack(0, 0, 50, 20);
        for (int day = 0; day < 12; day++) {
            bog.setWeather(day, 0, 0);
        }
        bog.setWeather(3, 0, 6);
        bog.setWeather(9, 9, 9);
        CHECK.same("too early", bog.advise(120), -1);
        bog.pass(10);
        CHECK.same("the last days tell", bog.advise(120), 9);
    }

    private static void drawing() {
        PeatBog bog = Check.taught("gang a at 4 1 { } gang b at 0 7 { }");
        bog.stack(0, 0, 5, 5);
        bog.stack(4, 1, 5, 5);
        bog.stack(5, 1, 5, 5);
        bog.set(0, 0, 0, 9);
        bog.set(5, 1, 60, 9);
        bog.set(6, 1, 60, 9);
        bog.set(0, 3, 60, 8);
        bog.set(1, 3, 40, 8);
        bog.set(2, 3, 39, 8);
        bog.set(3, 3, 20, 8);
        bog.set(4, 3, 19, 8);
        bog.set(5, 3, 1, 8);
        bog.set(6, 3, 0, 8);
        bog.set(7, 3, 0, 9);
        String due = "B+++++++\n" + "++++GS~+\n" + "++++++++\n" + "##++--.~\n"
                + "++++++++\n" + "++++++++\n" + "++++++++\n" + "G+++++++\n";
        CHECK.same("paper at first", bog.count(4), 0);
        CHECK.refused(bog, IndexOutOfBoundsException.class, "byteAt(0) of no paper", () -> bog.byteAt(0));
        CHECK.same("draw()", bog.draw(), 72);
        CHECK.same("paper", bog.count(4), 72);
        compare(bog, due);
        bog.set(1, 1, 0, 0);
        compare(bog, due);
        CHECK.same("draw() again", bog.draw(), 72);
        compare(bog, due.substring(0, 10) + "." + due.substring(11));
        CHECK.refused(bog, IndexOutOfBoundsException.class, "byteAt(72)", () -> bog.byteAt(72));
        CHECK.refused(bog, IndexOutOfBoundsException.class, "byteAt(-1)", () -> bog.byteAt(-1));
        Check.teachText(bog, "gang a at 0 0 { go 7,0; }");
        bog.draw();
        CHECK.same("a gang in the barn", bog.byteAt(0), 'G');
        CHECK.same("no gang any more", bog.byteAt(63), '+');
        bog.pass(8);
        bog.draw();
        CHECK.same("the barn", bog.byteAt(0), 'B');
        CHECK.same("a gang that is done", bog.byteAt(7), 'G');
    }

    private static void compare(PeatBog bog, String due) {
        for (int i = 0; i < due.length(); i++) {
            CHECK.same("byteAt(" + i + ")", bog.byteAt(i), due.charAt(i));
        }
    }

    private static void sharing() {
        PeatBog bog = Check.taught("gang a at 0 0 { load 2; unload; load 2; unload; load 5; unload; } gang b at 1 1 { wait 2; cut 3; cut 4; }");
        bog.stack(0, 0, 9, 0);
        share(bog, 0);
        bog.pass(2);
        CHECK.same("barn", bog.count(5), 2);
        share(bog, 0);
        bog.pass(1);
        share(bog, 2.0 / 3);
        bog.pass(1);
        share(bog, 4.0 / 7);
        bog.pass(2);
        share(bog, 9.0 / 7);
    }

    private static void share(PeatBog bog, double due) {
        if (bog.share() != due) {
            CHECK.complain("share() answered " + bog.share() + ", due is " + due);
        }
    }

    private static long digestOf(PeatBog bog, int[] weather) {
        long d = 701;
        for (int what = 0; what < 13; what++) {
            d = d * 31 + bog.count(what);
        }
        for (int day = 0; day < 12; day++) {
            d = d * 31 + weather[day];
        }
        for (int y = 0; y < 8; y++) {
            for (int x = 0; x < 8; x++) {
                for (int what = 0; what < 5; what++) {
                    d = d * 31 + bog.cell(x, y, what);
                }
            }
        }
        for (int gang = 0; gang < bog.count(2); gang++) {
            for (int what = 0; what < 9; what++) {
                d = d * 31 + bog.gang(gang, what);
            }
        }
        for (int i = 0; i < bog.count(4); i++) {
            d = d * 31 + bog.byteAt(i);
        }
        return d;
    }

    private static void checksum() {
        int[] weather = {4, 4, 4, 4, 4, 4, 4, 4, 4, 4, 4, 4};
        PeatBog bog = new PeatBog();
        CHECK.same("digest() of a new object", bog.digest(), digestOf(bog, weather));
        bog = busyBog();
        weather[1] = 81;
        weather[2] = 90;
        for (int i = 0; i < 12; i++) {
            bog.pass(7);
            if (i % 3 == 1) {
                bog.draw();
                bog.feed(i, i, i, i, i);
            }
            if (i == 6) {
                bog.setWeather(11, 3, 5);
                weather[11] = 35;
            }
            CHECK.same("digest() " + i, bog.digest(), digestOf(bog, weather));
        }
    }

    private static void nothingIsChanged() {
        PeatBog bog = busyBog();
        PeatBog other = busyBog();
        for (int i = 0; i < 12; i++) {
            long before = bog.digest();
            bog.foresee(300, i % 4);
            bog.dries(i % 8, 7);
            bog.done(i % 2);
            bog.advise(120);
            bog.share();
            bog.errorAt();
            CHECK.same("digest() behind foresight", bog.digest(), before);
            bog.pass(17);
            other.pass(17);
            CHECK.same("digest() of one that was not asked", bog.digest(), other.digest());
        }
    }
}
