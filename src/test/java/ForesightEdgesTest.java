/** The edges that the promises 13 to 20 name, sentence by sentence. */
public final class ForesightEdgesTest {
    private static final Check CHECK = new Check("ForesightEdgesTest");
    private static final Class<? extends RuntimeException> INDEX = IndexOutOfBoundsException.class;
    private static final Class<? extends RuntimeException> ARGUMENT = IllegalArgumentException.class;
    private static final int LEAST = Integer.MIN_VALUE;
    private static final int MOST = Integer.MAX_VALUE;

    public static void main(String[] args) {
        foreseeArguments();
        foreseenAsItComes();
        foreseenCrumbling();
        dryNow();
        dryWithinSixtyNights();
        dryWithoutGangs();
        doneNow();
        doneWithinThreeHundredHours();
        adviseArguments();
        adviceOnTheMost();
        adviceOnTies();
        adviceOnSunAndRain();
        foresightChangesNothing();
        signsOfTheDrawing();
        linesOfTheDrawing();
        placesOnThePaper();
        shareOfTheCut();
        checksumOfKnownStates();
        CHECK.finish();
    }

    // ---- foresee

    private static void foreseeArguments() {
        PeatBog bog = Check.taught("gang a at 0 0 { wait 298; load 5; unload; load 4; unload; }");
        bog.stack(0, 0, 20, 0);
        for (int hours : new int[] {LEAST, -300, -1, 0, 301, 302, MOST}) {
            CHECK.sentence("Throws IllegalArgumentException if hours is not 1 to 300");
            CHECK.refused(bog, ARGUMENT, "foresee(" + hours + ", 0)", () -> bog.foresee(hours, 0));
            CHECK.sentence("If several exceptions apply, the one that is named first is thrown.");
            CHECK.refused(bog, ARGUMENT, "foresee(" + hours + ", 4)", () -> bog.foresee(hours, 4));
            CHECK.refused(bog, ARGUMENT, "foresee(" + hours + ", -1)", () -> bog.foresee(hours, -1));
        }
        CHECK.sentence("Throws IndexOutOfBoundsException if what is not 0 to 3");
        for (int what : new int[] {LEAST, -1, 4, 5, MOST}) {
            CHECK.refused(bog, INDEX, "foresee(1, " + what + ")", () -> bog.foresee(1, what));
            CHECK.refused(bog, INDEX, "foresee(300, " + what + ")", () -> bog.foresee(300, what));
        }
        CHECK.sentence("hours: how many, 1 to 300");
        CHECK.same("foresee(1, 3)", bog.foresee(1, 3), 1890);
        CHECK.same("foresee(299, 0)", bog.foresee(299, 0), 0);
        CHECK.same("foresee(300, 0)", bog.foresee(300, 0), 5);
        bog.pass(2);
        CHECK.same("foresee(300, 0) two hours later", bog.foresee(300, 0), 9);
    }

    /** A bog in the midst of a wait, a repeat and a way, with a turned stack, loaded carts and water in the way. */
    private static PeatBog bogInWork() {
        PeatBog bog = Check.taught("gang a at 1 0 { repeat 20 { repeat 3 { load 7; go 0,0; unload; go 1,0; } wait 4; } }"
                + " gang b at 2 2 { while day<9 { cut 3; turn; if wet<=5 { load 40; go 0,0; unload; go 2,2; } } }"
                + " gang c at 5 5 { load 9; go 7,5; unload; go 5,5; load 40; go 0,0; unload; }"
                + " gang d at 0 0 { wait 33; load 40; unload; }");
        for (int day = 0; day < 12; day++) {
            bog.setWeather(day, day * 5 % 7, day * 7 % 10);
        }
        bog.set(6, 5, 30, 9);
        bog.stack(1, 0, 90, 6);
        bog.stack(5, 5, 60, 20);
        bog.stack(7, 7, 99, 20);
        bog.stack(0, 0, 50, 17);
        return bog;
    }

    private static void foreseenAsItComes() {
        CHECK.sentence("Returns this, if nothing is done (nothing is changed).");
        for (int start = 1; start <= 91; start += 9) {
            for (int hours : new int[] {1, 2, 7, 10, 23, 57, 100, 199, 200, 201, 300}) {
                PeatBog bog = bogInWork();
                bog.pass(start);
                bog.set(6, 5, 30, start % 2 == 0 ? 9 : 0);
                int crumbled = bog.count(9);
                int[] foreseen = new int[4];
                for (int what = 0; what < 4; what++) {
                    foreseen[what] = bog.foresee(hours, what);
                }
                CHECK.same("what crumbled so far", bog.count(9), crumbled);
                bog.pass(Math.min(hours, 150));
                if (hours > 150) {
                    bog.pass(hours - 150);
                }
                String when = " from " + start + " in " + hours;
                CHECK.same("dry ones" + when, foreseen[0], bog.count(5));
                CHECK.same("wet ones" + when, foreseen[1], bog.count(6));
                CHECK.same("crumbling ones" + when, foreseen[2], bog.count(9) - crumbled);
                CHECK.same("peat" + when, foreseen[3], bog.count(11));
            }
        }
    }

    private static void foreseenCrumbling() {
        CHECK.sentence("2 bricks that crumble in them");
        PeatBog bog = Check.withWeather("", 0, 0);
        bog.stack(5, 6, 99, 20);
        CHECK.same("foresee(9, 2)", bog.foresee(9, 2), 0);
        CHECK.same("foresee(10, 2)", bog.foresee(10, 2), 9);
        CHECK.same("foresee(19, 2)", bog.foresee(19, 2), 9);
        CHECK.same("foresee(20, 2)", bog.foresee(20, 2), 18);
        bog.pass(15);
        CHECK.same("foresee(4, 2) later", bog.foresee(4, 2), 0);
        CHECK.same("foresee(5, 2) later, without those so far", bog.foresee(5, 2), 9);
        CHECK.sentence("3 all peat then");
        PeatBog turned = Check.taught("gang a at 5 6 { turn; wait 9; load 9; go 0,0; unload; }");
        turned.setWeather(0, 0, 8);
        turned.stack(5, 6, 9, 20);
        turned.pass(1);
        CHECK.same("a stack that is turned now is drier then", turned.foresee(30, 0), 9);
        PeatBog water = Check.taught("gang a at 5 6 { go 4,6; cut 6; }");
        water.set(4, 6, 30, 9);
        CHECK.same("water in the way", water.foresee(9, 3), 1890);
        water.set(4, 6, 30, 8);
        CHECK.same("no more", water.foresee(9, 3), 1884);
    }

    // ---- dries

    private static void dryNow() {
        CHECK.sentence("0 if it has now");
        for (int wetness = 0; wetness <= 20; wetness++) {
            PeatBog bog = Check.withWeather("", 0, 4);
            bog.stack(5, 6, 9, wetness);
            int nights = 0;
            for (int then = wetness; then > 5; then -= 4) {
                nights++;
            }
            CHECK.same("dries() of wetness " + wetness, bog.dries(5, 6), nights);
        }
        CHECK.sentence("(or there is none)");
        PeatBog bog = Check.taught("gang a at 5 6 { load 9; }");
        CHECK.same("no stack", bog.dries(5, 6), 0);
        bog.stack(5, 6, 9, 20);
        CHECK.same("a stack", bog.dries(5, 6), 4);
        bog.pass(1);
        CHECK.same("no stack any more", bog.dries(5, 6), 0);
        bog.stack(0, 0, 1, 6);
        CHECK.same("a stack at the barn", bog.dries(0, 0), 1);
    }

    private static void dryWithinSixtyNights() {
        CHECK.sentence("at most 60; -1 if not by then");
        PeatBog bog = Check.withWeather("", 0, 0);
        bog.stack(5, 6, 9, 20);
        bog.stack(4, 6, 9, 6);
        CHECK.same("never", bog.dries(5, 6), -1);
        bog.setWeather(11, 0, 3);
        CHECK.same("behind the night 59: 20 less 5 * 3", bog.dries(5, 6), 60);
        CHECK.same("behind the night 11", bog.dries(4, 6), 12);
        bog.setWeather(11, 0, 2);
        CHECK.same("only behind the night 95", bog.dries(5, 6), -1);
        bog.setWeather(11, 0, 0);
        bog.setWeather(0, 0, 2);
        bog.stack(3, 6, 9, 15);
        bog.stack(2, 6, 9, 16);
        CHECK.same("15 less 5 * 2 behind the night 48", bog.dries(3, 6), 49);
        CHECK.same("16 less 6 * 2 behind the night 60", bog.dries(2, 6), -1);
        bog.pass(10);
        CHECK.same("14 less 5 * 2 behind the night 60, from the day 1 on", bog.dries(2, 6), 60);
        bog.pass(7);
        CHECK.same("in the midst of the day", bog.dries(2, 6), 60);
        bog.pass(3);
        CHECK.same("from the day 2 on", bog.dries(2, 6), 59);
        bog = Check.withWeather("", 9, 0);
        bog.stack(5, 6, 9, 6);
        bog.setWeather(11, 0, 9);
        CHECK.same("held at 20 in the rain: 20 less 9", bog.dries(5, 6), -1);
        bog.setWeather(10, 0, 6);
        CHECK.same("20 less 6, less 9", bog.dries(5, 6), 12);
    }

    private static void dryWithoutGangs() {
        CHECK.sentence("if no gang did anything");
        PeatBog bog = Check.withWeather("gang a at 5 6 { turn; wait 2; turn; load 9; unload; } gang b at 4 6 { load 9; } gang c at 3 6 { cut 6; }", 0, 3);
        bog.stack(5, 6, 9, 20);
        bog.stack(4, 6, 9, 20);
        bog.stack(3, 6, 9, 6);
        CHECK.same("one that would be turned", bog.dries(5, 6), 5);
        CHECK.same("one that would be loaded", bog.dries(4, 6), 5);
        CHECK.same("one that would get others", bog.dries(3, 6), 1);
        bog.pass(1);
        CHECK.same("one that is turned: 20 less 6, 3 and 3 and 3", bog.dries(5, 6), 4);
        CHECK.same("one that got others: (9 * 6 + 6 * 20) / 15", bog.dries(3, 6), 2);
        PeatBog other = Check.withWeather("gang a at 5 6 { turn; }", 3, 6);
        other.stack(5, 6, 9, 9);
        CHECK.same("not turned: 9 and no less", other.dries(5, 6), -1);
        other.pass(1);
        CHECK.same("turned: 9 less 6", other.dries(5, 6), 1);
    }

    // ---- done

    private static void doneNow() {
        CHECK.sentence("Throws IndexOutOfBoundsException if there is no such gang");
        PeatBog bog = Check.taught("gang a at 5 6 { } gang b at 5 6 { cut 1; }");
        for (int gang : new int[] {LEAST, -1, 2, 3, 4, MOST}) {
            CHECK.refused(bog, INDEX, "done(" + gang + ")", () -> bog.done(gang));
        }
        CHECK.sentence("Returns behind how many hours it is done, if nothing is done: 0 if it is");
        CHECK.same("without sentences, at first", bog.done(0), 1);
        CHECK.same("with one, at first", bog.done(1), 2);
        bog.pass(1);
        CHECK.same("without sentences", bog.done(0), 0);
        CHECK.same("with one", bog.done(1), 1);
        bog.pass(1);
        CHECK.same("with one, that is done", bog.done(1), 0);
        PeatBog counted = Check.taught("gang a at 5 6 {" + "if 1=2{}".repeat(51) + "} gang b at 5 6 {while bricks=0{wait 1;}} gang c at 5 6 {wait 7; cut 1;}");
        CHECK.same("behind 51 that are counted", counted.done(0), 2);
        CHECK.same("when another one has cut", counted.done(1), 9);
        CHECK.same("that one", counted.done(2), 9);
    }

    private static void doneWithinThreeHundredHours() {
        CHECK.sentence("at most 300; -1 if not by then (nothing is changed)");
        PeatBog bog = Check.taught("gang a at 5 6 { wait 299; } gang b at 5 6 { wait 300; } gang c at 5 6 { while 1=1 { } }");
        CHECK.same("done in the hour 300", bog.done(0), 300);
        CHECK.same("done in the hour 301", bog.done(1), -1);
        CHECK.same("never", bog.done(2), -1);
        bog.pass(1);
        CHECK.same("an hour later", bog.done(0), 299);
        CHECK.same("an hour later", bog.done(1), 300);
        bog.pass(200);
        bog.pass(98);
        CHECK.same("in the next hour", bog.done(0), 1);
        bog.pass(1);
        CHECK.same("now", bog.done(0), 0);
        CHECK.same("in the next hour", bog.done(1), 1);
    }

    // ---- advise

    private static void adviseArguments() {
        CHECK.sentence("Throws IllegalArgumentException if hours is not 1 to 120");
        PeatBog bog = Check.withWeather("gang a at 0 0 { wait 118; if wet<=5 { load 9; } unload; }", 0, 0);
        bog.stack(0, 0, 9, 13);
        for (int hours : new int[] {LEAST, -120, -1, 0, 121, 122, MOST}) {
            CHECK.refused(bog, ARGUMENT, "advise(" + hours + ")", () -> bog.advise(hours));
        }
        CHECK.same("advise(1)", bog.advise(1), -1);
        CHECK.same("advise(119)", bog.advise(119), -1);
        CHECK.same("advise(120)", bog.advise(120), 0);
        CHECK.sentence("-1 if it has no more by any");
        CHECK.same("without gangs", new PeatBog().advise(120), -1);
        bog.setWeather(5, 0, 9);
        CHECK.same("dry all the same", bog.advise(120), -1);
        PeatBog less = Check.withWeather("gang a at 0 0 { wait 10; if wet>5 { load 1; wait 15; unload; } }", 0, 4);
        less.setWeather(2, 0, 9);
        less.stack(0, 0, 9, 9);
        CHECK.same("less by the first day", less.advise(30), -1);
    }

    private static void adviceOnTheMost() {
        CHECK.sentence("so that the barn has the most dry bricks behind so many hours");
        String text = "gang a at 0 0 { wait 10; while cart=0 { if wet<=5 { load 5*day*day; } else { wait 10-hour; } } unload; }";
        PeatBog bog = Check.withWeather(text, 0, 0);
        bog.stack(0, 0, 99, 14);
        CHECK.same("5 behind the night 0", bog.advise(12), 0);
        CHECK.same("5 or 20 behind the night 1", bog.advise(22), 1);
        CHECK.same("at most 40 behind the night 2", bog.advise(120), 2);
        CHECK.same("not within 32 hours", bog.advise(31), 1);
        CHECK.same("within 32 hours", bog.advise(32), 2);
        bog.pass(10);
        CHECK.same("the day 0 is gone", bog.advise(12), 1);
        PeatBog early = Check.withWeather("gang a at 0 0 { wait 10; while cart=0 { if wet<=5 { load 30-10*day; } else { wait 10-hour; } } unload; }", 0, 0);
        early.stack(0, 0, 99, 14);
        CHECK.same("20 ahead of 10", early.advise(120), 0);
        early.pass(10);
        CHECK.same("the day 1 then", early.advise(110), 1);
    }

    private static void adviceOnTies() {
        CHECK.sentence("of several the one with the smallest number");
        PeatBog bog = Check.withWeather("gang a at 0 0 { while wet>5 { wait 10-hour; } load 40; unload; }", 0, 0);
        bog.stack(0, 0, 40, 14);
        CHECK.same("each day is as good", bog.advise(120), 0);
        bog.pass(10);
        CHECK.same("from the day 1 on, behind the night 12, but ahead of the day 13", bog.advise(120), 1);
        bog.setWeather(1, 0, 8);
        bog.setWeather(3, 0, 1);
        CHECK.same("dry on the day 4 all the same", bog.advise(112), -1);
        CHECK.same("dry on the day 4, but not before", bog.advise(31), 1);
        bog.setWeather(1, 0, 0);
        bog.setWeather(3, 0, 0);
        bog.pass(9);
        CHECK.same("120 hours that end on the day 13: the day 12 is 0 in the table", bog.advise(120), 0);
    }

    private static void adviceOnSunAndRain() {
        CHECK.sentence("the day of the table that had best have a sun of 9 and no rain");
        String text = "gang a at 0 0 { wait 20; if wet<=5 { load 40; unload; } }";
        int[][] cases = {{0, 8, 0, 0, 14, 0}, {1, 9, 0, 0, 14, 0}, {0, 9, 0, 0, 15, 1}, {0, 0, 1, 9, 15, 0}, {0, 0, 1, 9, 12, -1},
            {9, 0, 0, 0, 14, 0}, {9, 0, 0, 0, 15, -1}, {0, 0, 0, 0, 5, -1}, {0, 4, 9, 9, 14, 1}, {0, 4, 9, 9, 19, -1},
            {0, 4, 9, 9, 18, 1}};
        for (int[] one : cases) {
            PeatBog bog = Check.withWeather(text, 0, 0);
            bog.setWeather(0, one[0], one[1]);
            bog.setWeather(1, one[2], one[3]);
            bog.stack(0, 0, 40, one[4]);
            String what = "rain " + one[0] + ", sun " + one[1] + "; rain " + one[2] + ", sun " + one[3] + "; wetness " + one[4];
            CHECK.same(what, bog.advise(30), one[5]);
            CHECK.same(what + ", the table stays", bog.setWeather(0, 0, 0), 10 * one[0] + one[1]);
        }
    }

    private static void foresightChangesNothing() {
        CHECK.sentence("(nothing is changed)");
        PeatBog one = bogInWork();
        PeatBog other = bogInWork();
        for (int i = 0; i < 12; i++) {
            long before = one.digest();
            one.foresee(1 + 27 * i, i % 4);
            CHECK.same("digest() behind foresee()", one.digest(), before);
            one.dries(i % 8, 5);
            CHECK.same("digest() behind dries()", one.digest(), before);
            one.done(i % 4);
            CHECK.same("digest() behind done()", one.digest(), before);
            one.advise(10 + 10 * i - i);
            CHECK.same("digest() behind advise()", one.digest(), before);
            CHECK.same("pass(13)", one.pass(13), other.pass(13));
            CHECK.same("digest() of one that was not asked", one.digest(), other.digest());
        }
    }

    // ---- draw, byteAt

    private static char signAt(PeatBog bog, int x, int y) {
        bog.draw();
        return (char) bog.byteAt(9 * y + x);
    }

    private static void signsOfTheDrawing() {
        CHECK.sentence("the first of these that applies");
        PeatBog bog = Check.taught("gang a at 0 0 { go 5,6; }");
        bog.stack(0, 0, 1, 1);
        bog.set(0, 0, 0, 9);
        CHECK.same("a gang ahead of the barn", signAt(bog, 0, 0), 'G');
        bog.pass(11);
        CHECK.same("the barn ahead of a stack and water", signAt(bog, 0, 0), 'B');
        bog.set(5, 6, 60, 9);
        bog.stack(5, 6, 1, 1);
        CHECK.same("a gang ahead of a stack and water", signAt(bog, 5, 6), 'G');
        Check.teachText(bog, "gang a at 1 1 {} gang b at 1 1 {}");
        CHECK.same("a stack ahead of water", signAt(bog, 5, 6), 'S');
        CHECK.same("two gangs", signAt(bog, 1, 1), 'G');
        bog.set(4, 6, 60, 9);
        CHECK.same("water ahead of peat", signAt(bog, 4, 6), '~');
        bog.set(4, 6, 0, 9);
        CHECK.same("water without peat", signAt(bog, 4, 6), '~');
        CHECK.sentence("~ for a water of 9, # for peat of 40 and more, + for peat of 20 and more, - for peat of 1 and more");
        for (int peat = 0; peat <= 60; peat++) {
            bog.set(4, 6, peat, 8);
            CHECK.same("peat " + peat, signAt(bog, 4, 6), peat >= 40 ? '#' : peat >= 20 ? '+' : peat >= 1 ? '-' : '.');
        }
    }

    private static void linesOfTheDrawing() {
        CHECK.sentence("for each y from 0 on a line of 8 characters, by x, and a line end (10)");
        PeatBog bog = Check.taught("gang a at 6 1 {} gang b at 0 7 {} gang c at 7 7 {}");
        bog.stack(7, 0, 1, 1);
        bog.set(1, 0, 0, 0);
        bog.set(0, 1, 1, 0);
        bog.set(3, 5, 40, 0);
        bog.set(7, 4, 0, 9);
        String due = "B.+++++S\n-+++++G+\n++++++++\n++++++++\n+++++++~\n+++#++++\n++++++++\nG++++++G\n";
        CHECK.sentence("Returns how many bytes.");
        CHECK.same("draw()", bog.draw(), 72);
        for (int i = 0; i < 72; i++) {
            CHECK.same("byteAt(" + i + ")", bog.byteAt(i), due.charAt(i));
        }
        CHECK.sentence("in the place of what was there");
        bog.set(1, 0, 60, 0);
        CHECK.same("ahead of draw()", bog.byteAt(1), '.');
        CHECK.same("draw()", bog.draw(), 72);
        CHECK.same("behind it", bog.byteAt(1), '#');
        CHECK.same("bytes of the paper", bog.count(4), 72);
    }

    private static void placesOnThePaper() {
        CHECK.sentence("Throws IndexOutOfBoundsException if there is no such place");
        PeatBog bog = new PeatBog();
        for (int index : new int[] {LEAST, -1, 0, 1, 71, 72, MOST}) {
            CHECK.refused(bog, INDEX, "byteAt(" + index + ") of an empty paper", () -> bog.byteAt(index));
        }
        bog.draw();
        for (int index : new int[] {LEAST, -1, 72, 73, MOST}) {
            CHECK.refused(bog, INDEX, "byteAt(" + index + ")", () -> bog.byteAt(index));
        }
        CHECK.same("byteAt(0)", bog.byteAt(0), 'B');
        CHECK.same("byteAt(71)", bog.byteAt(71), 10);
    }

    // ---- share, digest

    private static void share(String what, PeatBog bog, double due) {
        if (bog.share() != due) {
            CHECK.complain(what + ": share() answered " + bog.share() + ", due is " + due);
        }
    }

    private static void shareOfTheCut() {
        CHECK.sentence("Returns dry bricks of the barn, divided by all bricks that were cut; 0 if none was.");
        PeatBog bog = Check.taught("gang a at 0 0 { load 5; unload; wait 1; load 2; unload; } gang b at 5 6 { wait 2; cut 3; wait 1; cut 6; }");
        bog.stack(0, 0, 5, 5);
        share("at first", bog, 0);
        bog.pass(2);
        CHECK.same("dry ones", bog.count(5), 5);
        share("none was cut", bog, 0);
        bog.pass(1);
        share("5 of 3", bog, 5.0 / 3);
        bog.stack(0, 0, 2, 6);
        bog.pass(2);
        CHECK.same("wet ones", bog.count(6), 2);
        share("5 of 9, without the wet ones", bog, 5.0 / 9);
        PeatBog none = Check.taught("gang a at 5 6 { cut 6; }");
        none.pass(1);
        share("0 of 6", none, 0);
    }

    private static long add(long d, int... numbers) {
        for (int number : numbers) {
            d = d * 31 + number;
        }
        return d;
    }

    private static void checksumOfKnownStates() {
        CHECK.sentence("A number d starts with 701; for each of the following numbers x, d becomes d * 31 + x");
        long d = add(701, 0, 0, 0, 0, 0, 0, 0, 0, 0, 0, 0, 1890, 0);
        d = add(d, 4, 4, 4, 4, 4, 4, 4, 4, 4, 4, 4, 4);
        for (int cell = 0; cell < 64; cell++) {
            d = add(d, cell == 0 ? 0 : 30, 3, 0, 0, 0);
        }
        CHECK.same("digest() of a new object", new PeatBog().digest(), d);
        CHECK.sentence("what count() tells; 10 * rain and sun of each day of the table; for each cell, by y, then by x, what cell() tells");
        PeatBog bog = Check.taught("gang a at 2 1 { turn; load 3; wait 7; } gang b at 0 0 { cut 1; } gang c at 7 7 { cut 4; }");
        bog.stack(2, 1, 8, 6);
        bog.setWeather(0, 9, 8);
        bog.setWeather(11, 0, 0);
        bog.set(1, 2, 60, 9);
        bog.set(7, 7, 4, 2);
        bog.pass(3);
        bog.draw();
        Check.feedText(bog, "gang ??");
        d = add(701, 0, 3, 3, 7, 72, 0, 0, 9, 3, 0, 4, 1890 + 30 - 26 - 4, 1);
        d = add(d, 98, 4, 4, 4, 4, 4, 4, 4, 4, 4, 4, 0);
        for (int y = 0; y < 8; y++) {
            for (int x = 0; x < 8; x++) {
                int at = 10 * x + y;
                d = at == 0 ? add(d, 0, 3, 0, 0, 0) : at == 21 ? add(d, 30, 3, 5, 6, 1) : at == 12 ? add(d, 60, 9, 0, 0, 0)
                        : at == 77 ? add(d, 0, 2, 4, 20, 0) : add(d, 30, 3, 0, 0, 0);
            }
        }
        CHECK.sentence("for each gang what gang() tells; the bytes of the paper (all in their order)");
        d = add(d, 2, 1, 3, 6, 0, 0, 0, 3, 6);
        d = add(d, 0, 0, 0, 0, 1, 2, 1, 3, 0);
        d = add(d, 7, 7, 0, 0, 1, 2, 0, 3, 0);
        String paper = "G+++++++\n++G+++++\n+~++++++\n++++++++\n++++++++\n++++++++\n++++++++\n+++++++G\n";
        for (int i = 0; i < 72; i++) {
            d = add(d, paper.charAt(i));
        }
        CHECK.same("digest() of a known state", bog.digest(), d);
    }
}
