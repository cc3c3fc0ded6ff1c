/** Promises 2 to 5, and the part 1 of the terms. */
public final class LanguageTest {
    private static final Check CHECK = new Check("LanguageTest");
    private static final String HEAD = "gang a at 0 0 {";

    public static void main(String[] args) {
        feeding();
        trimming();
        teaching();
        tokens();
        grammar();
        rangesAndNames();
        depth();
        mostTokens();
        meaningOfSums();
        meaningOfTests();
        CHECK.finish();
    }

    private static void error(int error, String marked) {
        CHECK.text(error, marked);
    }

    private static void right(String text) {
        error(0, text);
    }

    private static void inBlock(int error, String marked) {
        error(error, HEAD + marked + "}");
    }

    private static void feeding() {
        PeatBog bog = new PeatBog();
        CHECK.same("first feed", bog.feed(0x67616e67, 0x20616220, 0x61742033, 0x20347b7d, 0x20202020), 20);
        CHECK.same("count(3)", bog.count(3), 20);
        CHECK.same("teach() of fed bytes", bog.teach(), 0);
        CHECK.same("x", bog.gang(0, 0), 3);
        CHECK.same("y", bog.gang(0, 1), 4);
        bog.feed(0x20202020, 0x20202020, 0x20202020, 0x20202020, 0x202020ff);
        CHECK.same("teach() of a byte 255", bog.teach(), 1);
        CHECK.same("errorAt() of it", bog.errorAt(), 19);
        bog.feed(-1, 0, 0, 0, 0);
        CHECK.same("teach() of bytes 255", bog.teach(), 1);
        CHECK.same("errorAt() of them", bog.errorAt(), 0);
        for (int i = 1; i <= 100; i++) {
            CHECK.same("feed " + i, bog.feed(0x20202020, 0x20202020, 0x0a0a0a0a, 0x20202020, 0x20202020), 20 * i);
        }
        CHECK.refused(bog, IllegalStateException.class, "feed of 2020 bytes", () -> bog.feed(0, 0, 0, 0, 0));
        bog.trim(1981);
        CHECK.refused(bog, IllegalStateException.class, "feed of 2001 bytes", () -> bog.feed(0, 0, 0, 0, 0));
        bog.trim(1980);
        CHECK.same("feed of 2000 bytes", bog.feed(0x20202020, 0x20202020, 0x20202020, 0x20202020, 0x2020203f), 2000);
        CHECK.same("teach() of a wrong last byte", bog.teach(), 1);
        CHECK.same("errorAt() of it", bog.errorAt(), 1999);
        CHECK.same("tape behind teach()", bog.count(3), 0);
    }

    private static void trimming() {
        PeatBog bog = new PeatBog();
        CHECK.same("trim(0) of nothing", bog.trim(0), 0);
        CHECK.refused(bog, IllegalArgumentException.class, "trim(1) of nothing", () -> bog.trim(1));
        bog.feed(0x20202020, 0x20202020, 0x78202020, 0x20202020, 0x20202020);
        CHECK.refused(bog, IllegalArgumentException.class, "trim(21)", () -> bog.trim(21));
        CHECK.refused(bog, IllegalArgumentException.class, "trim(-1)", () -> bog.trim(-1));
        CHECK.same("trim(20)", bog.trim(20), 20);
        CHECK.same("trim(8)", bog.trim(8), 8);
        CHECK.same("count(3)", bog.count(3), 8);
        CHECK.same("teach() of the first bytes", bog.teach(), 0);
        bog.feed(0x20202020, 0x20202020, 0x78202020, 0x20202020, 0x20202020);
        bog.trim(9);
        CHECK.same("teach() of one byte more", bog.teach(), 1);
        CHECK.same("errorAt() of it", bog.errorAt(), 8);
    }

    private static void teaching() {
        PeatBog bog = new PeatBog();
        CHECK.same("errorAt() ahead of teach()", bog.errorAt(), -1);
        Check.teachText(bog, "gang a at 1 0 { load 9; load 0; wait 20; } gang b at 2 2 { }");
        bog.stack(1, 0, 20, 7);
        bog.pass(2);
        CHECK.same("cart", bog.count(8), 9);
        CHECK.same("teach() of an error", Check.teachText(bog, "gang c at 0 9 { }"), 3);
        CHECK.same("errorAt()", bog.errorAt(), 12);
        CHECK.same("tape behind an error", bog.count(3), 0);
        CHECK.same("gangs stay", bog.count(2), 2);
        CHECK.same("missed hours stay", bog.gang(0, 6), 1);
        CHECK.same("carts stay", bog.gang(0, 2), 9);
        CHECK.same("hours stay", bog.gang(1, 7), 2);
        bog.feed(0, 0, 0, 0, 0);
        CHECK.same("errorAt() stays", bog.errorAt(), 12);
        bog.pass(1);
        CHECK.same("programs stay", bog.gang(0, 8), 19);
        CHECK.same("teach() of another text", Check.teachText(bog, "gang c at 3 4 { wait 2; }"), 0);
        CHECK.same("errorAt() of it", bog.errorAt(), -1);
        CHECK.same("gangs", bog.count(2), 1);
        CHECK.same("carts are gone", bog.count(8), 0);
        int[] fresh = {3, 4, 0, 0, 0, 0, 0, 0, 0};
        for (int what = 0; what < 9; what++) {
            CHECK.same("new gang, " + what, bog.gang(0, what), fresh[what]);
        }
        CHECK.same("stack stays", bog.cell(1, 0, 2), 11);
        CHECK.same("hour stays", bog.count(1), 3);
        bog.pass(3);
        CHECK.same("it is the new program", bog.gang(0, 4), 1);
        CHECK.same("teach() of nothing", bog.teach(), 0);
        CHECK.same("gangs of nothing", bog.count(2), 0);
        teachingOften();
    }

    /** No text leaves anything to the next one but the gangs, and those only if it is right. */
    private static void teachingOften() {
        PeatBog bog = new PeatBog();
        for (int i = 1; i <= 20; i++) {
            String text = HEAD + many("repeat 1 { repeat 0 { } }", 40) + "wait " + i + "; }";
            CHECK.same("teach() " + i, Check.teachText(bog, text), 0);
            CHECK.same("not done, whatever the gang ahead of it was", bog.gang(0, 4), 0);
            CHECK.same("teach() of an error " + i, Check.teachText(bog, text + "gang b at 0 0 { repeat 1 { ; } }"), 1);
            bog.pass(8);
            CHECK.same("still to wait " + i, bog.gang(0, 8), Math.max(0, i - 6));
            CHECK.same("idle " + i, bog.gang(0, 5), 2 + Math.max(0, 6 - i));
        }
    }

    private static void tokens() {
        right("");
        right(" \n \n");
        right("gang a at 0 0{}gang b at 7 7{}");
        right("\n gang\nabcdefghij\nat\n0 0\n{\n}\n ");
        right("gang a1b2 at 000007 000000 {}");
        right("gang a at 0 0{go 1,2;go x,y;wait 999999;if 1<=2{}if 2>=x{}if 1<-2{}if x=-1{}}");
        right("gang repeat1 at 0 0{repeat 3{}repeat 0{}}");
        right("gang z0zyz9 at 0 0{}");
        right("gang azz at 0 0{}");
        right("gang a at 0 0{if 1<2and 2<3or not 4<5{turn;}else{turn;}}");
        error(1, "gang ^abcdefghijk at 0 0 {}");
        error(1, "gang a at ^0000007 0 {}");
        error(1, "gang ^A at 0 0 {}");
        error(1, "gang ^1a at 0 0 {}");
        error(1, "^Gang a at 0 0 {}");
        error(1, "^gangs a at 0 0 {}");
        error(1, "gang a ^at0 0 {}");
        error(1, "gang a at 00 ^{}");
        error(1, "gang a at 0 0 {}^\t");
        error(1, "gang a at 0 0 {} ^\r\n");
        error(1, "gang a at 0 0 {}^\0");
        error(1, "gang a at 0 0 {} ^\u00e9");
        error(1, "gang a at 0 0 {} ^_");
        inBlock(1, "wait ^1000000;");
        inBlock(1, "if 1 < ^= 2 {}");
        inBlock(1, "if 1 = ^< 2 {}");
        inBlock(1, "if 1 <^> 2 {}");
        inBlock(1, "go 1^.5, 2;");
        inBlock(1, "^turnx;");
        inBlock(1, "go ^x1, 2;");
        inBlock(1, "go x ^y, 2;");
    }

    private static void grammar() {
        for (int cut = 1; cut < HEAD.length(); cut++) {
            String part = HEAD.substring(0, cut);
            boolean inWord = "gang a at".startsWith(part) && !part.endsWith(" ")
                    && !part.equals("gang") && !part.equals("gang a") && !part.equals("gang a at");
            if (!inWord) {
                error(1, part + "^");
            }
        }
        error(1, HEAD + " ^");
        error(1, HEAD + "if x <=^");
        error(1, HEAD + "if x < ^");
        error(1, HEAD + "if x ^<=".replace("^<=", "<=") + " ^}");
        error(1, HEAD + "} ^}");
        error(1, HEAD + "} ^turn;");
        error(1, HEAD + "} ^b at 0 0 {}");
        error(1, "gang ^gang at 0 0 {}");
        error(1, "gang ^gang a at 0 0 {} ?");
        error(1, "gang a ^gang b at 0 0 {} ?");
        error(1, "gang a at ^gang b at 0 0 {} ?");
        error(1, "gang a at 0 ^gang b at 0 0 {} ?");
        error(1, "gang a at 0 0 ^gang b at 0 0 {} ?");
        error(1, HEAD + "if x ^turn; ?");
        error(1, HEAD + "while ^turn; ?");
        error(1, HEAD + "repeat ^turn; ?");
        error(1, HEAD + "repeat 2 ^turn; ?");
        error(1, HEAD + "if x ^{ ?");
        error(1, HEAD + "if 1 = 1 { ^} else ?".replace("^} else ", "} else ^"));
        error(1, HEAD + "if 1 = 1 { ^else } ?");
        error(1, HEAD + "while 1 = 1 { ^else } ?");
        error(1, HEAD + "repeat 1 { ^else } ?");
        error(1, "gang ^at 0 0 {}");
        error(1, "gang ^x at 0 0 {}");
        error(1, "gang a ^0 0 {}");
        error(1, "gang a at ^x 0 {}");
        error(1, "gang a at ^-1 0 {}");
        error(1, "gang a at 0^, 0 {}");
        error(1, "gang a at 0 0 ^turn;");
        right(HEAD + "go x+1,y-1;cut peat;turn;load bricks*2;unload;wait 10-hour;}");
        right(HEAD + "go wet,water;go cart,damp;go day,hour;go rain,sun;go barn,0;}");
        right(HEAD + "if x<1{if y>2{}else{turn;}}else{while x=y{repeat 3{}}}}");
        right(HEAD + "if not[x<1 and[y<2 or 1=1]]or[[1=1]]and not not 2<=3{}}");
        right(HEAD + "go min(1,max(2,3)*4),-(-x);}");
        inBlock(1, "^;");
        inBlock(1, "^foo;");
        inBlock(1, "^else {}");
        inBlock(1, "^gang");
        inBlock(1, "^{}");
        inBlock(1, "go 1^;");
        inBlock(1, "go ^,1;");
        inBlock(1, "go 1,2^,3;");
        inBlock(1, "go 1,2 ^");
        inBlock(1, "cut^;");
        inBlock(1, "cut 1 ^turn;");
        inBlock(1, "cut 1^)");
        inBlock(1, "turn ^1;");
        inBlock(1, "turn;^;");
        inBlock(1, "load ^;");
        inBlock(1, "unload ^5;");
        inBlock(1, "wait^;");
        inBlock(1, "wait 1 ^2;");
        inBlock(1, "if ^{}");
        inBlock(1, "if x ^{}");
        inBlock(1, "if x < 1 ^turn;");
        inBlock(1, "if x < 1 < 2 {}".replace("1 <", "1 ^<"));
        inBlock(1, "if (x ^< 1) {}");
        inBlock(1, "if [x ^] {}");
        inBlock(1, "if [x < 1^) {}");
        inBlock(1, "if x < 1 and ^{}");
        inBlock(1, "if not ^{}");
        inBlock(1, "if x < [^y] {}".replace("[^", "^["));
        inBlock(1, "if x < ^not 1 {}");
        inBlock(1, "if 1 = 1 {} else ^turn;");
        inBlock(1, "if 1 = 1 {} else {} ^else {}");
        inBlock(1, "if 1 = 1 {} else ^if 1 = 1 {}");
        inBlock(1, "repeat ^x {}");
        inBlock(1, "repeat ^(3) {}");
        inBlock(1, "repeat 3 ^turn;");
        inBlock(1, "while 1 = 1 ^;");
        inBlock(1, "cut ^+1;");
        inBlock(1, "cut 1 + ^* 2;");
        inBlock(1, "cut 1 - ^;");
        inBlock(1, "cut (1^;");
        inBlock(1, "cut (^);");
        inBlock(1, "cut min^;");
        inBlock(1, "cut min(1^);");
        inBlock(1, "cut max(1,2^,3);");
        inBlock(1, "cut max(1,^);");
        inBlock(1, "cut ^a;");
        inBlock(1, "cut [1];".replace("[", "^["));
    }

    private static void rangesAndNames() {
        error(3, "gang a at ^8 9 {}");
        error(3, "gang a at 7 ^8 {}");
        error(3, "gang a at 7 7 { repeat ^21 {} }");
        right("gang a at 7 7 { repeat 20 { repeat 0 {} } }");
        error(2, "gang a at 0 0 {} gang ^a at 9 9 {}");
        error(2, "gang abc1 at 0 0 {} gang b at 0 0 {}\n\ngang ^abc1 at 0 0 {}");
        right("gang abc1 at 0 0 {} gang abc2 at 0 0 {} gang bbc1 at 0 0 {} gang abc at 0 0 {}");
        error(2, "gang a at 0 0 {} gang b at 0 0 {} gang ^a at 0 0 {} gang b at 0 0 {}");
        right("gang a at 0 0 {} gang aa at 0 0 {} gang ab at 0 0 {} gang b at 0 0 {}");
        String four = "gang a at 0 0 {} gang b at 0 0 {} gang c at 0 0 {} gang d at 0 0 {}";
        right(four);
        error(4, four + " gang ^e at 9 0 {}");
        error(4, four + " gang ^e at 0 0 {} gang f at 0 0 {} gang a at 0 0 {}");
        error(2, four + " gang ^d at 0 0 {}");
        error(3, "gang a at 0 ^10 {} gang a at 0 0 {}");
        error(3, "gang a at 0 0 { while 1 = 1 { repeat ^100 { repeat 21 {} } } } gang a at 0 0 {}");
        error(1, "gang a at 8 8 {} gang a at 0 0 { repeat 21 {} ^");
        error(1, four + " gang e at 8 8 { ^cut }".replace("^cut ", "cut ^"));
    }

    private static String many(String text, int times) {
        StringBuilder all = new StringBuilder();
        for (int i = 0; i < times; i++) {
            all.append(text);
        }
        return all.toString();
    }

    private static void depth() {
        right(HEAD + many("while 1=1{", 7) + many("}", 8));
        error(1, HEAD + many("while 1=1{", 7) + "while 1=1^{" + many("}", 9));
        inBlock(0, "cut " + many("(", 7) + "1" + many(")", 7) + ";");
        inBlock(1, "cut " + many("(", 7) + "^(1" + many(")", 8) + ";");
        inBlock(0, "cut " + many("-", 7) + "1*(1)-(2);");
        inBlock(1, "cut " + many("-", 7) + "^-1;");
        inBlock(1, "cut " + many("-", 7) + "^(1);");
        inBlock(0, "if " + many("not ", 7) + "1=1{}");
        inBlock(1, "if " + many("not ", 7) + "^not 1=1{}");
        inBlock(1, "if " + many("not ", 7) + "^-1=1{}");
        inBlock(0, "if " + many("[", 7) + "1=1" + many("]", 7) + "{}");
        inBlock(1, "if " + many("[", 7) + "^[1=1" + many("]", 8) + "{}");
        inBlock(0, "cut " + many("min(1,", 7) + "1" + many(")", 7) + ";");
        inBlock(1, "cut " + many("min(1,", 7) + "max^(1,1)" + many(")", 7) + ";");
        inBlock(1, "cut " + many("max(", 7) + "^-1,1" + many(")", 7) + ";");
        inBlock(0, many("cut -(1)-(2-(3));repeat 1{}if not[1=1]and not 1=1{}", 5));
        error(1, HEAD + many("repeat 1{", 7) + "cut 1-1; cut ^-1;" + many("}", 8));
        error(1, HEAD + many("if 1=1{", 7) + "if ^not 1=1{}" + many("}", 8));
    }

    private static void mostTokens() {
        String most = HEAD + "cut 1;" + many("turn;", 195) + "}";
        right(most);
        right(most + " ");
        error(1, most + "^?");
        error(1, most + " ^gang b at 0 0 {}");
        error(1, HEAD + many("turn;", 197) + "^}");
        error(1, HEAD + many("turn;", 198).replaceFirst("^(.*)turn;$", "$1^turn;") + "}");
        inBlock(0, "cut 1" + many("+1", 195) + ";");
    }

    /** The value of a sum, in a cell with peat 30, water 3 and 7 bricks of wetness 4, as a wait tells it. */
    private static void sum(String sum, int due) {
        PeatBog bog = Check.taught("gang a at 5 6 { wait (" + sum + ") - 1000 * (0 - 1); wait 9; }");
        bog.stack(5, 6, 7, 4);
        bog.pass(1);
        CHECK.same(sum, bog.gang(0, 8) + 1 - 1000, due);
    }

    private static void meaningOfSums() {
        sum("2 + 3 * 4", 14);
        sum("(2 + 3) * 4", 20);
        sum("20 - 3 - 4", 13);
        sum("100 / 10 / 5", 2);
        sum("100 / 10 * 5", 50);
        sum("7 / 2", 3);
        sum("-7 / 2", -3);
        sum("7 / -2", -3);
        sum("7 / 0", 0);
        sum("0 / 0", 0);
        sum("- 3 + 5", 2);
        sum("-3 * -5", 15);
        sum("--3", 3);
        sum("-(3 + 5)", -8);
        sum("min(3, 5) + 10 * max(3, 5)", 53);
        sum("min(-3, 5) + 10 * max(-3, 5)", 47);
        sum("min(5, 3)", 3);
        sum("max(5, 3)", 5);
        sum("x", 5);
        sum("y", 6);
        sum("peat", 30);
        sum("bricks", 7);
        sum("wet", 4);
        sum("water", 3);
        sum("cart", 0);
        sum("damp", 0);
        sum("day", 0);
        sum("hour", 0);
        sum("rain", 0);
        sum("sun", 4);
        sum("barn", 0);
        sum("999999 - 999998", 1);
        sum("(65536 * 65536 + 3)", 3);
        sum("(32768 * 65536 + 1) / (65536 * 32768)", 0);
        sum("(32768 * 65536) / -1 / 32768 / 256", -256);
        sum("(32768 * 65536 - 1) / 32768 / 256", 255);
        sum("-(32768 * 65536) / 32768 / 256", -256);
        sum("0 - 3 / 2", -1);
    }

    private static void test(String test, boolean holds) {
        PeatBog bog = Check.taught("gang a at 5 6 { if " + test + " { wait 5; } else { wait 8; } }");
        bog.pass(1);
        CHECK.same("if " + test, bog.gang(0, 8), holds ? 4 : 7);
    }

    private static void meaningOfTests() {
        String[] comparisons = {"<", ">", "=", "<=", ">="};
        boolean[][] holds = {{true, false, false}, {false, false, true}, {false, true, false},
            {true, true, false}, {false, true, true}};
        for (int i = 0; i < comparisons.length; i++) {
            test("3" + comparisons[i] + "4", holds[i][0]);
            test("4" + comparisons[i] + "4", holds[i][1]);
            test("5" + comparisons[i] + "4", holds[i][2]);
            test("-5" + comparisons[i] + "4", holds[i][0]);
        }
        test("32768 * 65536 < 0", true);
        test("32768 * 65536 < 1", true);
        test("1 = 1 or 1 = 2", true);
        test("1 = 2 or 1 = 1", true);
        test("1 = 2 or 2 = 1", false);
        test("1 = 1 and 1 = 2", false);
        test("1 = 2 and 1 = 1", false);
        test("1 = 2 and 1 = 3", false);
        test("1 = 1 and 2 = 2", true);
        test("1 = 1 or 1 = 1 and 1 = 2", true);
        test("1 = 2 and 1 = 1 or 1 = 1", true);
        test("[1 = 1 or 1 = 1] and 1 = 2", false);
        test("not 1 = 2 and 1 = 2", false);
        test("not [1 = 2 and 1 = 2]", true);
        test("not 1 = 1 or 1 = 1", true);
        test("not [1 = 1 or 1 = 1]", false);
        test("not not 1 = 1", true);
    }
}
