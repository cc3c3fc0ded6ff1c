/** The edges that the terms' opening words, their part 1 and the promises 2 to 5 name, sentence by sentence. */
public final class LanguageEdgesTest {
    private static final Check CHECK = new Check("LanguageEdgesTest");
    private static final String HEAD = "gang a at 0 0 {";
    private static final String[] KEYWORDS = {"gang", "at", "go", "cut", "turn", "load", "unload", "wait", "if", "else",
        "repeat", "while", "x", "y", "peat", "bricks", "wet", "water", "cart", "damp", "day", "hour", "rain", "sun", "barn",
        "not", "and", "or", "min", "max"};
    private static final String LEAST = "-32768*65536";
    private static final String MOST = "(32768*65535+32767)";
    private static final String FOUR_GANGS = "gang a at 0 0{}gang b at 0 0{}gang c at 0 0{}gang d at 0 0{}";

    public static void main(String[] args) {
        wrapAround();
        quotients();
        blanks();
        separation();
        longestTokens();
        words();
        numbers();
        bytes();
        keywords();
        depthOfEach();
        depthEnds();
        firstWrongToken();
        endOfTape();
        tooManyTokens();
        errorOneGoesFirst();
        toldNames();
        ranges();
        fifthGang();
        tapeOfFeed();
        tapeOfTrim();
        bytesBehindTheTape();
        teachReplaces();
        errorOfTheLatest();
        CHECK.finish();
    }

    private static String many(String text, int times) {
        return text.repeat(times);
    }

    private static void right(String text) {
        CHECK.text(0, text);
    }

    private static void error(int error, String marked) {
        CHECK.text(error, marked);
    }

    private static void holds(String test) {
        PeatBog bog = Check.taught("gang a at 5 6 { if " + test + " { wait 5; } else { wait 9; } }");
        bog.pass(1);
        CHECK.same("if " + test, bog.gang(0, 8), 4);
    }

    // ---- the opening words

    private static void wrapAround() {
        CHECK.sentence("sums, differences and products of the language wrap around in 32 bits");
        holds(LEAST + " < -999999*2000");
        holds(MOST + " > 999999*2000");
        holds(MOST + "+1=" + LEAST);
        holds(MOST + "+" + MOST + "=-2");
        holds(LEAST + "-1=" + MOST);
        holds("0-(" + LEAST + ")=" + LEAST);
        holds("-(" + LEAST + ")=" + LEAST);
        holds("65536*65536=0");
        holds("65537*65537=131073");
        holds("46340*46340>0");
        holds("46341*46341<0");
        holds("999999*999999=-(729379*1000+967)");
        holds("min(" + MOST + "+1,0)=" + LEAST);
        holds("max(" + MOST + "+1,-5)=-5");
        PeatBog bog = Check.taught("gang a at 5 6 { cut " + MOST + "+1; cut 65536*65536+2; wait " + MOST + "+1; cut 1; }");
        bog.pass(1);
        CHECK.same("a cut of less than 0 is missed", bog.gang(0, 6), 1);
        bog.pass(1);
        CHECK.same("a cut of 2", bog.count(10), 2);
        bog.pass(2);
        CHECK.same("a wait of less than 0 takes an hour", bog.count(10), 3);
    }

    private static void quotients() {
        CHECK.sentence("/ is cut towards 0");
        holds("7/2=3");
        holds("-7/2=-3");
        holds("7/-2=-3");
        holds("-7/-2=3");
        holds("1/2=0");
        holds("-1/2=0");
        holds("999999/1000=999");
        holds("(0-999999)/1000=-999");
        holds(LEAST + "/2=-32768*32768");
        CHECK.sentence("a division by 0 gives 0");
        holds("5/0=0");
        holds("-5/0=0");
        holds("0/0=0");
        holds(LEAST + "/0=0");
        holds("5/(x-5)+4=4");
        CHECK.sentence("-2147483648 / -1 gives -2147483648");
        holds("(" + LEAST + ")/-1=" + LEAST);
        holds("(" + LEAST + ")/(0-1)<0");
        holds(MOST + "/-1=" + LEAST + "+1");
    }

    // ---- tokens

    private static void blanks() {
        CHECK.sentence("Blanks (32) and line ends (10) can stand between tokens, at the beginning and at the end");
        String[] tokens = {"gang", "a", "at", "1", "2", "{", "if", "x", "<=", "3", "{", "cut", "min", "(", "1", ",", "2", ")",
            ";", "}", "}"};
        for (String blank : new String[] {" ", "\n", "  ", "\n\n", " \n "}) {
            right(blank);
            StringBuilder text = new StringBuilder(blank);
            for (String token : tokens) {
                text.append(token).append(blank);
            }
            right(text.toString());
        }
        for (char sign : new char[] {0, 9, 11, 12, 13, 31, 127, 133, 160}) {
            error(1, "^" + sign);
            error(1, "gang^" + sign + "a at 1 2 {}");
            error(1, "gang a at 1^" + sign + "2 {}");
            error(1, "gang a at 1 2 {}^" + sign);
        }
    }

    private static void separation() {
        CHECK.sentence("and have to stand between two tokens that would otherwise be read as one");
        error(1, "^ganga at 1 2 {}");
        error(1, "gang aat ^1 2 {}");
        error(1, "gang a ^at1 2 {}");
        error(1, "gang a at 12 ^{}");
        error(1, HEAD + "^wait5; }");
        error(1, HEAD + "^repeat2 {} }");
        error(1, HEAD + "if ^not1=1 {} }");
        error(1, HEAD + "if 1=1 ^and2=2 {} }");
        error(1, HEAD + "if 1< ^= 2 {} }");
        error(1, HEAD + "if 1>\n^= 2 {} }");
        error(1, HEAD + "wait 5 ^5; }");
        error(1, HEAD + "cut ^minmax(1,2); }");
        right("gang a at 1 2{if 1=1and 2=2or 3=3{}else{}repeat 3{turn;}while not-1=1{wait-5;}}gang b at 3 4{}");
    }

    private static void longestTokens() {
        CHECK.sentence("The longest possible token is always read.");
        right(HEAD + "if 1<=2{}if 1>=2{}if 1<-2{}if 1=-2{} }");
        error(1, HEAD + "if 1<=^=2{} }");
        error(1, HEAD + "if 1=^<2{} }");
        error(1, HEAD + "if 1=^>2{} }");
        error(1, HEAD + "if 1<^>2{} }");
        right("gang gangs at 1 2 {}");
        right("gang x1 at 1 2 {}");
        error(1, HEAD + "^unloads; }");
        error(1, HEAD + "^turn0; }");
        PeatBog bog = Check.taught(HEAD + "wait 12; }");
        bog.pass(1);
        CHECK.same("12 is one number", bog.gang(0, 8), 11);
    }

    private static void words() {
        CHECK.sentence("A word: a letter a to z, followed by letters a to z and digits, at most 10 bytes.");
        for (char letter = 'a'; letter <= 'z'; letter++) {
            if (letter != 'x' && letter != 'y') {
                right("gang " + letter + " at 1 2 {}");
            }
            right("gang q" + letter + " at 1 2 {}");
        }
        for (char digit = '0'; digit <= '9'; digit++) {
            right("gang q" + digit + "z at 1 2 {}");
            error(1, "gang ^" + digit + "q at 1 2 {}");
        }
        right("gang abcdefghij at 1 2 {}");
        right("gang a234567890 at 1 2 {}");
        error(1, "gang ^abcdefghijk at 1 2 {}");
        error(1, "gang ^a2345678901 at 1 2 {}");
        error(1, "gang ^" + many("z", 300) + " at 1 2 {}");
        error(1, "^ganggangganggang a at 1 2 {}");
        error(1, HEAD + "cut ^peatpeatpeat; }");
    }

    private static void numbers() {
        CHECK.sentence("A number: 1 to 6 digits.");
        right("gang a at 7 0 {}");
        right("gang a at 000007 000000 { wait 999999; repeat 000020 {} }");
        error(1, "gang a at ^0000007 0 {}");
        error(1, HEAD + "wait ^1000000; }");
        error(1, HEAD + "wait ^0999999; }");
        error(1, HEAD + "wait ^" + many("9", 300) + "; }");
        error(1, HEAD + "repeat ^0000020 {} }");
        PeatBog bog = Check.taught(HEAD + "wait 999999; }");
        bog.pass(1);
        CHECK.same("the greatest number", bog.gang(0, 8), 999998);
        bog = Check.taught(HEAD + "wait 000012; }");
        bog.pass(1);
        CHECK.same("a number with zeros in front", bog.gang(0, 8), 11);
    }

    /** Each byte in three places: within a word, between two numbers of a sum, and between those of a test. */
    private static void bytes() {
        CHECK.sentence("a byte with which no token begins");
        for (int code = 0; code < 256; code++) {
            char sign = (char) code;
            boolean isBlank = sign == ' ' || sign == '\n';
            boolean isDigit = sign >= '0' && sign <= '9';
            boolean isLetter = sign >= 'a' && sign <= 'z';
            if (isBlank || isDigit || isLetter) {
                right("gang q" + sign + " at 1 2 {}");
            } else {
                error(1, "gang q^" + sign + " at 1 2 {}");
            }
            if (isDigit || "+-*/".indexOf(sign) >= 0) {
                right(HEAD + "cut 1" + sign + "1;}");
            } else if (isBlank) {
                error(1, HEAD + "cut 1" + sign + "^1;}");
            } else if (sign == ';') {
                error(1, HEAD + "cut 1" + sign + "^1;}");
            } else {
                error(1, HEAD + "cut 1^" + sign + "1;}");
            }
            if ("<>=".indexOf(sign) >= 0) {
                right(HEAD + "if 1" + sign + "1{}}");
            } else if (isDigit) {
                error(1, HEAD + "if 1" + sign + "1^{}}");
            } else if (isBlank) {
                error(1, HEAD + "if 1" + sign + "^1{}}");
            } else if ("+-*/".indexOf(sign) >= 0) {
                error(1, HEAD + "if 1" + sign + "1^{}}");
            } else {
                error(1, HEAD + "if 1^" + sign + "1{}}");
            }
        }
    }

    private static void keywords() {
        CHECK.sentence("All other words are names.");
        for (String keyword : KEYWORDS) {
            error(1, "gang ^" + keyword + " at 1 2 {}");
            right("gang " + keyword + "q at 1 2 {}");
            right("gang " + keyword + "0 at 1 2 {}");
            right("gang q" + keyword + " at 1 2 {}");
            String shorter = keyword.substring(0, keyword.length() - 1);
            if (!shorter.isEmpty()) {
                right("gang " + shorter + " at 1 2 {}");
            }
            error(1, HEAD + "cut 1 + ^" + keyword + "q; }");
        }
    }

    // ---- depth

    private static void depthOfEach() {
        CHECK.sentence("It may be at most 8.");
        right(HEAD + many("repeat 1{", 7) + many("}", 8));
        error(1, HEAD + many("repeat 1{", 7) + "repeat 1^{" + many("}", 9));
        error(1, HEAD + many("repeat 1{", 7) + "if 1=1^{" + many("}", 9));
        error(1, HEAD + many("repeat 1{", 7) + "while 1=1^{" + many("}", 9));
        error(1, HEAD + many("if 1=1{}else{", 7) + "if 1=1^{}else{" + many("}", 9));
        for (int blocks = 1; blocks <= 8; blocks++) {
            String before = HEAD + many("repeat 1{", blocks - 1);
            String after = many("}", blocks);
            int rest = 8 - blocks;
            right(before + "wait " + many("(", rest) + "1" + many(")", rest) + ";" + after);
            error(1, before + "wait " + many("(", rest) + "^(1" + many(")", rest + 1) + ";" + after);
            right(before + "wait " + many("-", rest) + "1;" + after);
            error(1, before + "wait " + many("-", rest) + "^-1;" + after);
            right(before + "wait " + many("max(2,", rest) + "1" + many(")", rest) + ";" + after);
            error(1, before + "wait " + many("min(2,", rest) + "max^(2,1" + many(")", rest + 1) + ";" + after);
            error(1, before + "wait " + many("(", rest) + "^-1" + many(")", rest) + ";" + after);
            error(1, before + "wait " + many("-", rest) + "^(1);" + after);
        }
        for (int blocks = 1; blocks <= 7; blocks++) {
            String before = HEAD + many("repeat 1{", blocks - 1);
            String after = many("}", blocks);
            int rest = 8 - blocks;
            right(before + "if " + many("not ", rest) + "1=1{}" + after);
            error(1, before + "if " + many("not ", rest) + "^not 1=1{}" + after);
            right(before + "while " + many("[", rest) + "1=1" + many("]", rest) + "{}" + after);
            error(1, before + "while " + many("[", rest) + "^[1=1" + many("]", rest + 1) + "{}" + after);
            error(1, before + "if " + many("not ", rest) + "^[1=1]{}" + after);
            error(1, before + "if " + many("[", rest) + "^not 1=1" + many("]", rest) + "{}" + after);
            error(1, before + "if " + many("[", rest) + "^-1=1" + many("]", rest) + "{}" + after);
            error(1, before + "if " + many("not ", rest) + "1=^(1){}" + after);
        }
    }

    private static void depthEnds() {
        CHECK.sentence("1 greater between a { and its }, a ( and its ), a [ and its ], behind a - in front (of a value) for what it turns");
        String deepest = HEAD + many("repeat 1{", 6);
        String after = many("}", 7);
        right(deepest + "repeat 1{} repeat 1{turn;} if 1=1{} else{} while 1=1{}" + after);
        right(deepest + "cut (1)+(2)*(3)-(4);" + after);
        right(deepest + "cut -1-(2)--3*-4/-x;" + after);
        right(deepest + "cut min(1,2)+max(3,4);" + after);
        right(deepest + "go (1),-2; go min(1,2),(3); if [1=1]and[1=1]or not 1=1 and not 1=1{}" + after);
        right(deepest + "if not 1=1{} if (1)=(2){} if -1=-1{} if [1=1]{}" + after);
        error(1, deepest + "cut -^(1);" + after);
        error(1, deepest + "if not ^-1=1{}" + after);
        error(1, deepest + "if [^(1)=1]{}" + after);
        error(1, deepest + "cut min(^-1,2);" + after);
        error(1, deepest + "cut max(1,^(2));" + after);
        right(HEAD + "} gang b at 1 1 {" + many("repeat 1{", 7) + many("}", 8));
    }

    // ---- error 1

    private static void firstWrongToken() {
        CHECK.sentence("Error 1: the first token with which the tokens so far are not the beginning of a text.");
        String[] firsts = {"gang a at 0 0 {if 1=1 ^turn; ", "gang a at 0 0 {if 1=1 {} else ^turn; ", "gang a at 0 0 {while ^{ ",
            "gang a at 0 0 {while 1=1 ^turn; ", "gang a at 0 0 {repeat ^turn; ", "gang a at 0 0 {repeat 2 ^cut 1; ",
            "gang a at 0 0 {if [1=1 ^turn; ", "gang a at 0 0 {if x ^turn; ", "gang a at 0 0 {cut (1 ^; ",
            "gang a at 0 0 {go 1 ^; ", "gang a ^{ ", "gang ^{ ", "gang a at ^{ ", "gang a at 1 ^{ ", "^{ ", "^a ", "^at ",
            "^turn; ", "gang a at 0 0 ^; ", "gang a at 0 0 {} ^{ "};
        for (String first : firsts) {
            error(1, first);
            error(1, first + "}");
            error(1, first + "if 1=1 turn; }");
            error(1, first + "} gang b at 9 9 {}");
            error(1, first + "? }");
            error(1, first + "gang gang gang");
        }
        CHECK.sentence("The position is that of its first byte.");
        error(1, "\n\n  ^unload");
        error(1, HEAD + "cut \n ^<= 2; }");
        error(1, HEAD + "\n\n^1234567; }");
        CHECK.sentence("Positions are counted from 0, in bytes.");
        error(1, "^?");
        error(1, many(" ", 1999) + "^?");
        error(1, many("\n", 1000) + "^?" + many(" ", 999));
    }

    private static void endOfTape() {
        CHECK.sentence("the end of the tape (at its length)");
        error(1, "gang^");
        error(1, "gang  \n ^");
        error(1, HEAD + "^");
        error(1, HEAD + "   ^");
        error(1, HEAD + "cut 5^");
        error(1, HEAD + "if 1 <^");
        error(1, HEAD + "if 1 <=^");
        error(1, HEAD + many(" ", 1985) + "^");
        error(1, HEAD + many("turn;", 190) + many(" ", 1000) + "^");
        right(many(" ", 1985 - 1) + HEAD + "}");
        right(HEAD + many(" ", 1985 - 1) + "}");
        right(HEAD + "}" + many("\n", 1985 - 1));
        error(1, many(" ", 1996) + "gang^");
        error(1, many(" ", 1985 - 7) + HEAD + "if 1 <=^");
    }

    private static void tooManyTokens() {
        CHECK.sentence("the token that would be the 401st (the end of the tape not counted)");
        String of397 = HEAD + "wait 1;" + many("turn;", 194);
        right(of397 + "turn;}");
        right(of397 + "turn;}\n ");
        error(1, of397 + "turn;} ^}");
        error(1, of397 + "turn;} ^gang b at 0 0 {}");
        error(1, of397 + "turn;} ^?");
        error(1, of397 + "turn;}\n^1");
        error(1, of397 + "turn;}\n^abcdefghijkl");
        error(1, of397 + "cut 1;^}");
        error(1, of397 + "turn; turn ^;}");
        error(1, of397 + "cut ^;}");
        error(1, of397 + "cut 1;  ^");
        error(1, of397 + "turn;^");
        error(1, HEAD + many("turn;", 197) + "^" + many("turn;", 103) + "}");
        right(HEAD + "wait 1" + many("+1", 194) + ";}");
        right(HEAD + "wait 1" + many("+1", 195) + ";}");
        error(1, HEAD + "wait 1" + many("+1", 196) + "^;}");
        error(1, HEAD + "wait 1" + many("*1", 196) + "^+1;}");
    }

    private static void errorOneGoesFirst() {
        CHECK.sentence("Only if there is no error 1, names and numbers are looked at from left to right");
        error(1, "gang a at 8 8 {} gang a at 0 0 { repeat 21 {} ^");
        error(1, "gang a at 0 0 {} gang a at 0 0 {} ^?");
        error(1, FOUR_GANGS + "gang e at 0 0 {} ^}");
        error(1, "gang a at 999999 ^1000000 {}");
        error(1, HEAD + "repeat 21 { repeat ^1000000 {} } }");
        CHECK.sentence("and the first error is told, at its token");
        error(3, "gang a at ^8 0 {} gang a at 0 0 {}");
        error(3, HEAD + "repeat ^21 {} } gang a at 0 0 {}");
        error(2, "gang a at 0 0 {} gang ^a at 8 8 { repeat 21 {} }");
        error(2, "gang a at 0 0 {} gang ^a at 0 0 {} gang b at 0 0 {} gang c at 0 0 {} gang e at 0 0 {}");
        error(4, FOUR_GANGS + "gang ^e at 8 8 { repeat 21 {} } gang a at 0 0 {}");
        error(3, FOUR_GANGS.replace("d at 0 0", "d at 0 ^9") + "gang e at 0 0 {}");
        CHECK.sentence("of errors at one token the one with the smallest number");
        for (char name = 'a'; name <= 'd'; name++) {
            error(2, FOUR_GANGS + "gang ^" + name + " at 0 0 {}");
        }
    }

    // ---- errors 2 to 4

    private static void toldNames() {
        CHECK.sentence("Error 2: the name of a gang is that of one told ahead.");
        error(2, "gang ab at 0 0 {} gang ^ab at 0 0 {}");
        error(2, "gang\nab\nat 0 0 {} gang ^ab at 0 0 {}");
        error(2, "gang ab\nat 0 0 {} gang\n^ab at 0 0 {}");
        error(2, "gang ab at 0 0 {} gang b at 0 0 {} gang c at 0 0 {} gang ^ab at 0 0 {}");
        error(2, "gang c at 0 0 {} gang b at 0 0 {} gang ^b at 0 0 {}");
        error(2, "gang abcdefghij at 0 0 {} gang ^abcdefghij at 0 0 {}");
        right("gang abcdefghij at 0 0 {} gang abcdefghik at 0 0 {} gang bbcdefghij at 0 0 {} gang abcdefghi at 0 0 {}");
        right("gang a at 0 0 {} gang a0 at 0 0 {} gang a00 at 0 0 {} gang a1 at 0 0 {}");
        right("gang ba at 0 0 {} gang a at 0 0 {} gang b at 0 0 {} gang ab at 0 0 {}");
    }

    private static void ranges() {
        CHECK.sentence("Error 3: a number is out of its range: both behind at 0 to 7, that behind repeat 0 to 20.");
        right("gang a at 0 7 {} gang b at 7 0 {}");
        error(3, "gang a at ^8 7 {}");
        error(3, "gang a at 7 ^8 {}");
        error(3, "gang a at ^8 8 {}");
        error(3, "gang a at ^999999 0 {}");
        error(3, "gang a at 0 ^000008 {}");
        error(3, "gang a at 0 0 {} gang b at 0 ^70 {}");
        right(HEAD + "repeat 0 {} repeat 20 { repeat 20 {} } }");
        error(3, HEAD + "repeat ^21 {} }");
        error(3, HEAD + "repeat 20 { if 1=1 {} else { repeat ^21 {} } } }");
        error(3, HEAD + "repeat ^999999 {} }");
        right(HEAD + "go 8,9; cut 999999; wait 21; if 21>20 {} }");
    }

    private static void fifthGang() {
        CHECK.sentence("Error 4: the name is that of the 5th gang.");
        right(FOUR_GANGS);
        error(4, FOUR_GANGS + "gang ^e at 0 0 {}");
        error(4, FOUR_GANGS + "gang ^e at 0 0 {} gang f at 0 0 {}");
        error(4, FOUR_GANGS + "gang ^aa at 0 0 {} gang a at 0 0 {}");
    }

    // ---- the tape

    private static void tapeOfFeed() {
        CHECK.sentence("the four bytes of each number, the highest one first");
        PeatBog bog = new PeatBog();
        CHECK.same("a new tape", bog.count(3), 0);
        CHECK.same("feed()", bog.feed(0x67616e67, 0x20712061, 0x7420330a, 0x34207b77, 0x61697420), 20);
        CHECK.same("feed()", bog.feed(0x37363534, 0x33323b7d, 0x20200a0a, 0x0a202020, 0x0a0a2020), 40);
        CHECK.same("teach()", bog.teach(), 0);
        bog.pass(1);
        CHECK.same("x", bog.gang(0, 0), 3);
        CHECK.same("y", bog.gang(0, 1), 4);
        CHECK.same("wait 765432", bog.gang(0, 8), 765431);
        for (int at = 0; at < 20; at++) {
            int[] numbers = {0x20202020, 0x20202020, 0x20202020, 0x20202020, 0x20202020};
            numbers[at / 4] ^= 0x80 << 8 * (3 - at % 4);
            bog.feed(numbers[0], numbers[1], numbers[2], numbers[3], numbers[4]);
            CHECK.same("teach() of a byte 160", bog.teach(), 1);
            CHECK.same("errorAt() of it", bog.errorAt(), at);
        }
        CHECK.sentence("Throws IllegalStateException if there would be more than 2000");
        bog = new PeatBog();
        for (int i = 1; i <= 100; i++) {
            CHECK.same("feed()", bog.feed(0x20202020, 0x20202020, 0x20202020, 0x20202020, 0x20202020), 20 * i);
        }
        PeatBog full = bog;
        Class<? extends RuntimeException> state = IllegalStateException.class;
        CHECK.refused(full, state, "feed() at 2000", () -> full.feed(-1, -1, -1, -1, -1));
        for (int length : new int[] {1999, 1990, 1982, 1981}) {
            bog.trim(length);
            CHECK.refused(full, state, "feed() at " + length, () -> full.feed(-1, -1, -1, -1, -1));
            CHECK.same("the tape then", bog.count(3), length);
        }
        bog.trim(1980);
        CHECK.same("feed() at 1980", bog.feed(0x20202020, 0x20202020, 0x20202020, 0x20202020, 0x20202020), 2000);
        CHECK.same("nothing of a refused feed() is on the tape", bog.teach(), 0);
        CHECK.sentence("and it is empty behind it");
        CHECK.same("the tape", bog.count(3), 0);
        CHECK.same("feed() then", bog.feed(0, 0, 0, 0, 0), 20);
    }

    private static void tapeOfTrim() {
        CHECK.sentence("Throws IllegalArgumentException if n is not 0 to the number of bytes of the tape");
        PeatBog bog = new PeatBog();
        Class<? extends RuntimeException> argument = IllegalArgumentException.class;
        CHECK.same("trim(0) of an empty tape", bog.trim(0), 0);
        CHECK.refused(bog, argument, "trim(1) of an empty tape", () -> bog.trim(1));
        CHECK.refused(bog, argument, "trim(-1) of an empty tape", () -> bog.trim(-1));
        Check.feedText(bog, "gang a at 0 0 {} gang b at 0 0 {}");
        CHECK.refused(bog, argument, "trim(34)", () -> bog.trim(34));
        CHECK.refused(bog, argument, "trim(-1)", () -> bog.trim(-1));
        CHECK.refused(bog, argument, "trim(the least)", () -> bog.trim(Integer.MIN_VALUE));
        CHECK.refused(bog, argument, "trim(the most)", () -> bog.trim(Integer.MAX_VALUE));
        CHECK.same("trim(33)", bog.trim(33), 33);
        CHECK.same("trim(17)", bog.trim(17), 17);
        CHECK.refused(bog, argument, "trim(18), which were there", () -> bog.trim(18));
        CHECK.same("the tape", bog.count(3), 17);
        CHECK.same("teach()", bog.teach(), 0);
        CHECK.same("its first bytes are kept", bog.count(2), 1);
        CHECK.refused(bog, argument, "trim(1) behind teach()", () -> bog.trim(1));
    }

    private static void trimmed(String text, int length, int error, int errorAt) {
        PeatBog bog = new PeatBog();
        Check.feedText(bog, text);
        bog.trim(length);
        CHECK.same("teach() of " + length + " bytes of " + text, bog.teach(), error);
        CHECK.same("errorAt() of them", bog.errorAt(), errorAt);
    }

    private static void bytesBehindTheTape() {
        CHECK.sentence("Shortens the tape to its first bytes.");
        trimmed("gang a at 0 77", 13, 1, 13);
        trimmed("gang a at 0 777 {}", 13, 1, 13);
        trimmed("gang ab at 0 0 {}", 6, 1, 6);
        trimmed("gang a         ", 7, 1, 7);
        trimmed("gang a at 0 0 {if x<=1", 20, 1, 20);
        trimmed("gang a at 0 0 {if x<=1", 21, 1, 21);
        trimmed("gang a at 0 0 {} ?", 17, 0, -1);
        trimmed("gang a at 0 0 {} ?", 16, 0, -1);
        trimmed("gang a at 0 0 {} ?", 15, 1, 15);
        trimmed("gang abcdefghijk at 0 0 {}", 15, 1, 15);
        trimmed("gang a at 1234567", 16, 1, 16);
        PeatBog bog = new PeatBog();
        Check.feedText(bog, "gang a at 0 0 { repeat 1 {} }");
        bog.teach();
        Check.feedText(bog, "gang b at 0 0 {");
        CHECK.same("teach() of less than before", bog.teach(), 1);
        CHECK.same("errorAt() of it", bog.errorAt(), 15);
    }

    // ---- teach and errorAt

    private static PeatBog workingBog() {
        PeatBog bog = Check.taught("gang a at 1 0 { load 9; cut 0; wait 20; cut 1; } gang b at 2 2 { } gang c at 3 3 { cut 2; load 2; }");
        bog.stack(1, 0, 20, 7);
        bog.pass(4);
        bog.draw();
        return bog;
    }

    private static void teachReplaces() {
        CHECK.sentence("its gangs come in the place of those that there were, with all that was in their carts");
        PeatBog bog = workingBog();
        CHECK.same("bricks in carts", bog.count(8), 11);
        CHECK.same("bricks in stacks", bog.count(7), 11);
        CHECK.same("teach()", Check.teachText(bog, "gang z at 5 4 { cut 3; } gang y0 at 0 7 { }"), 0);
        CHECK.same("gangs", bog.count(2), 2);
        CHECK.same("bricks in carts then", bog.count(8), 0);
        CHECK.same("bricks in stacks then", bog.count(7), 11);
        CHECK.same("bricks of the barn", bog.count(5) + bog.count(6), 0);
        CHECK.same("cut in all", bog.count(10), 2);
        int[][] due = {{5, 4, 0, 0, 0, 0, 0, 0, 0}, {0, 7, 0, 0, 0, 0, 0, 0, 0}};
        for (int gang = 0; gang < 2; gang++) {
            for (int what = 0; what < 9; what++) {
                CHECK.same("gang(" + gang + ", " + what + ")", bog.gang(gang, what), due[gang][what]);
            }
        }
        CHECK.throwsOf(IndexOutOfBoundsException.class, "gang(2, 0)", () -> bog.gang(2, 0));
        CHECK.same("teach() of nothing", bog.teach(), 0);
        CHECK.same("gangs of nothing", bog.count(2), 0);
        CHECK.sentence("If it has an error, all stays (but the tape is empty).");
        String[] texts = {"gang z at 5 4 { cut 3 }", "gang z at 5 4 {} gang z at 5 4 {}", "gang z at 5 8 {}",
            "gang e at 0 0 {}" + FOUR_GANGS};
        for (int error = 1; error <= 4; error++) {
            PeatBog one = workingBog();
            PeatBog other = workingBog();
            CHECK.same("teach() of " + texts[error - 1], Check.teachText(one, texts[error - 1]), error);
            CHECK.same("the tape", one.count(3), 0);
            CHECK.same("digest()", one.digest(), other.digest());
            one.pass(100);
            other.pass(100);
            CHECK.same("digest() behind 100 hours", one.digest(), other.digest());
            CHECK.same("the cut behind the wait", one.count(10), 3);
        }
    }

    private static void errorOfTheLatest() {
        CHECK.sentence("Returns the position of the error of the latest teach(); -1 if it had none, or there was none.");
        PeatBog bog = new PeatBog();
        CHECK.same("errorAt() of a new object", bog.errorAt(), -1);
        Check.feedText(bog, "gang a at 9 0 {}");
        CHECK.same("errorAt() ahead of teach()", bog.errorAt(), -1);
        bog.teach();
        CHECK.same("errorAt() of an error 3", bog.errorAt(), 10);
        bog.pass(1);
        Check.feedText(bog, "?");
        CHECK.same("errorAt() until the next teach()", bog.errorAt(), 10);
        bog.teach();
        CHECK.same("errorAt() of an error 1", bog.errorAt(), 0);
        bog.teach();
        CHECK.same("errorAt() of none", bog.errorAt(), -1);
        Check.teachText(bog, FOUR_GANGS + "gang e at 0 0 {}");
        CHECK.same("errorAt() of an error 4", bog.errorAt(), FOUR_GANGS.length() + 5);
        Check.teachText(bog, FOUR_GANGS);
        CHECK.same("errorAt() of none again", bog.errorAt(), -1);
    }
}
