/** Long runs of calls on texts and bogs made by chance (the same ones each time), against the Model. */
public final class RandomRunsTest {
    private static final Check CHECK = new Check("RandomRunsTest");
    private static final String[] READINGS = {"x", "y", "peat", "bricks", "wet", "water", "cart", "damp", "day", "hour",
        "rain", "sun", "barn"};
    private static final String[] SPOILERS = {"gang", "at", "go", "cut", "turn", ";", ",", "{", "}", "(", ")", "[", "]",
        "-", "not", "<", "<=", "?", "1234567", "abcdefghijk", "21", "min", "else", "repeat", "9", "a", "b", "\t"};

    private final Chance chance;
    private final PeatBog bog = new PeatBog();
    private final Model model = new Model();
    private String paper = "";

    /** Numbers that look like chance, the same ones for the same seed. */
    private static final class Chance {
        private long state;

        Chance(long seed) {
            state = seed * 0x9E3779B97F4A7C15L + 1;
        }

        int below(int bound) {
            state = state * 6364136223846793005L + 1442695040888963407L;
            return (int) ((state >>> 33) % bound);
        }
    }

    private RandomRunsTest(long seed) {
        chance = new Chance(seed);
    }

    public static void main(String[] args) {
        for (int seed = 1; seed <= 150; seed++) {
            new RandomRunsTest(seed).run();
        }
        for (int seed = 1; seed <= 3000; seed++) {
            new RandomRunsTest(1000 + seed).spoiledText();
        }
        CHECK.finish();
    }

    private void run() {
        teach(text());
        for (int i = 0; i < 60; i++) {
            change();
            ask();
            compare();
        }
    }

    private void spoiledText() {
        String text = text();
        int times = 1 + chance.below(2);
        for (int i = 0; i < times; i++) {
            int from = chance.below(text.length());
            int to = Math.min(text.length(), from + chance.below(4));
            String spoiler = chance.below(3) == 0 ? "" : " " + SPOILERS[chance.below(SPOILERS.length)] + " ";
            text = text.substring(0, from) + spoiler + text.substring(to);
        }
        teach(text);
    }

    private void teach(String text) {
        String fed = text.length() > 1990 ? text.substring(0, 1990) : text;
        Model.Reader reader = model.teach(fed);
        CHECK.same("teach() of " + fed, Check.teachText(bog, fed), reader.error);
        CHECK.same("errorAt() of " + fed, bog.errorAt(), reader.errorAt);
        CHECK.same("gangs of " + fed, bog.count(2), model.gangs.size());
    }

    // ---- texts

    private String text() {
        StringBuilder text = new StringBuilder();
        int gangs = 1 + chance.below(4);
        for (int i = 0; i < gangs; i++) {
            text.append("gang ").append((char) ('a' + i)).append(" at ").append(chance.below(8)).append(' ')
                    .append(chance.below(8)).append(' ');
            block(text, 3, 3 + chance.below(5));
        }
        return text.toString();
    }

    private void block(StringBuilder text, int levels, int most) {
        text.append("{ ");
        int sentences = chance.below(most + 1);
        for (int i = 0; i < sentences; i++) {
            sentence(text, levels);
        }
        text.append("} ");
    }

    private void sentence(StringBuilder text, int levels) {
        switch (chance.below(levels > 0 ? 15 : 10)) {
            case 0: text.append("go ").append(sum(1)).append(',').append(sum(1)).append("; "); break;
            case 1: text.append("go 0,0; unload; "); break;
            case 2: text.append("go ").append(chance.below(8)).append(',').append(chance.below(8)).append("; "); break;
            case 3: text.append("cut ").append(chance.below(8)).append("; "); break;
            case 4: text.append("cut ").append(sum(2)).append("; "); break;
            case 5: text.append("turn; "); break;
            case 6: text.append("load ").append(chance.below(50)).append("; "); break;
            case 7: text.append("load ").append(sum(1)).append("; "); break;
            case 8: text.append("unload; "); break;
            case 9: text.append("wait ").append(chance.below(4) * chance.below(4)).append("; "); break;
            case 10: case 11:
                text.append("if ").append(test(2));
                block(text, levels - 1, 3);
                if (chance.below(2) == 0) {
                    text.append("else ");
                    block(text, levels - 1, 3);
                }
                break;
            case 12: case 13:
                text.append("repeat ").append(chance.below(chance.below(2) == 0 ? 4 : 21)).append(' ');
                block(text, levels - 1, 3);
                break;
            default:
                text.append("while ").append(test(2));
                block(text, levels - 1, 3);
                break;
        }
    }

    private String test(int levels) {
        switch (levels > 0 ? chance.below(7) : 6) {
            case 0: return test(levels - 1) + "and " + test(levels - 1);
            case 1: return test(levels - 1) + "or " + test(levels - 1);
            case 2: return "not " + test(levels - 1);
            case 3: return "[" + test(levels - 1) + "] ";
            default:
                String[] comparisons = {"<", ">", "=", "<=", ">="};
                return sum(1) + comparisons[chance.below(5)] + sum(1) + " ";
        }
    }

    private String sum(int levels) {
        switch (levels > 0 ? chance.below(9) : 4 + chance.below(5)) {
            case 0: return sum(levels - 1) + "+" + sum(levels - 1);
            case 1: return sum(levels - 1) + "-" + sum(levels - 1);
            case 2: return sum(levels - 1) + "*" + sum(levels - 1) + "/" + sum(levels - 1);
            case 3: return (chance.below(2) == 0 ? "min(" : "max(") + sum(levels - 1) + "," + sum(levels - 1) + ")";
            case 4: return "-" + (levels > 0 ? sum(levels - 1) : "7");
            case 5: return levels > 0 ? "(" + sum(levels - 1) + ")" : "3";
            case 6: return "" + chance.below(chance.below(9) == 0 ? 1000000 : 12);
            default: return READINGS[chance.below(READINGS.length)];
        }
    }

    // ---- calls

    private void change() {
        int x = chance.below(8);
        int y = chance.below(8);
        int number = chance.below(100);
        switch (chance.below(12)) {
            case 0:
                int rain = chance.below(10) * chance.below(2);
                int sun = chance.below(10);
                int at = chance.below(12);
                CHECK.same("setWeather()", bog.setWeather(at, rain, sun), 10 * model.rain[at] + model.sun[at]);
                model.rain[at] = rain;
                model.sun[at] = sun;
                break;
            case 1:
                int[] cell = model.cells[x][y];
                int peat = x + y == 0 ? 0 : chance.below(3) * chance.below(31);
                int water = chance.below(10);
                CHECK.same("set()", bog.set(x, y, peat, water), 10 * cell[0] + cell[1]);
                cell[0] = peat;
                cell[1] = water;
                break;
            case 2: case 3:
                int bricks = 1 + number % 50;
                if (model.cells[x][y][2] + bricks <= 99) {
                    model.add(model.cells[x][y], bricks, number % 21);
                    CHECK.same("stack()", bog.stack(x, y, bricks, number % 21), model.cells[x][y][2]);
                }
                break;
            case 4:
                if (number < 30) {
                    teach(text());
                }
                break;
            case 5:
                paper = model.paper();
                CHECK.same("draw()", bog.draw(), 72);
                break;
            default:
                int hours = 1 + chance.below(chance.below(3) == 0 ? 60 : 8);
                int before = model.dry;
                model.pass(hours);
                CHECK.same("pass()", bog.pass(hours), model.dry - before);
                break;
        }
    }

    private void ask() {
        int x = chance.below(8);
        int y = chance.below(8);
        switch (chance.below(6)) {
            case 0:
                int hours = 1 + chance.below(300);
                int what = chance.below(4);
                CHECK.same("foresee()", bog.foresee(hours, what), model.foresee(hours, what));
                break;
            case 1:
                CHECK.same("dries()", bog.dries(x, y), model.dries(x, y));
                break;
            case 2:
                if (chance.below(4) == 0 && !model.gangs.isEmpty()) {
                    int gang = chance.below(model.gangs.size());
                    CHECK.same("done()", bog.done(gang), model.done(gang));
                }
                break;
            case 3:
                int advised = 1 + chance.below(120);
                CHECK.same("advise()", bog.advise(advised), model.advise(advised));
                break;
            default:
                double due = model.cut == 0 ? 0 : 1.0 * model.dry / model.cut;
                if (bog.share() != due) {
                    CHECK.complain("share() answered " + bog.share() + ", due is " + due);
                }
                break;
        }
    }

    private void compare() {
        long d = 701;
        for (int what = 0; what < 13; what++) {
            d = d * 31 + (what == 4 ? paper.length() : model.count(what));
        }
        for (int day = 0; day < 12; day++) {
            d = d * 31 + 10 * model.rain[day] + model.sun[day];
        }
        for (int y = 0; y < 8; y++) {
            for (int x = 0; x < 8; x++) {
                for (int number : model.cells[x][y]) {
                    d = d * 31 + number;
                }
            }
        }
        for (Model.Gang gang : model.gangs) {
            for (int number : gang.told) {
                d = d * 31 + number;
            }
        }
        for (int i = 0; i < paper.length(); i++) {
            d = d * 31 + paper.charAt(i);
        }
        CHECK.same("digest()", bog.digest(), d);
    }
}
