import java.util.ArrayDeque;
import java.util.ArrayList;
import java.util.Deque;
import java.util.HashSet;
import java.util.List;
import java.util.Set;
import java.util.regex.Matcher;
import java.util.regex.Pattern;

/** A second, plain reading of the document: trees instead of instructions, copies made anew, no limits of its own. */
final class Model {
    // ---- the language

    /** The error 1 of a text. */
    static final class WrongText extends RuntimeException {
        private static final long serialVersionUID = 1;
        final int position;

        WrongText(int position) {
            this.position = position;
        }
    }

    /** A sum or test: a number, a word of the bog, or an operator with its operands. */
    static final class Sum {
        final String head;
        final List<Sum> parts;

        Sum(String head, Sum... parts) {
            this.head = head;
            this.parts = List.of(parts);
        }
    }

    static final class Sentence {
        String kind;
        Sum first;
        Sum second;
        int times;
        List<Sentence> block = new ArrayList<>();
        List<Sentence> otherwise = new ArrayList<>();
    }

    static final class Told {
        int x;
        int y;
        List<Sentence> block;
    }

    private static final Pattern TOKEN = Pattern.compile("[a-z][a-z0-9]*|[0-9]+|<=|>=|[{}()\\[\\];,+*/<>=-]");
    private static final Set<String> KEYWORDS = Set.of("gang", "at", "go", "cut", "turn", "load", "unload", "wait", "if",
            "else", "repeat", "while", "x", "y", "peat", "bricks", "wet", "water", "cart", "damp", "day", "hour", "rain",
            "sun", "barn", "not", "and", "or", "min", "max");
    private static final Set<String> READINGS = Set.of("x", "y", "peat", "bricks", "wet", "water", "cart", "damp", "day",
            "hour", "rain", "sun", "barn");

    static final class Reader {
        final String text;
        int at = 0;
        int tokens = 0;
        int depth = 0;
        int error = 0;
        int errorAt = -1;
        final List<Told> gangs = new ArrayList<>();
        final Set<String> names = new HashSet<>();

        Reader(String text) {
            this.text = text;
            try {
                while (!peek().isEmpty()) {
                    gang();
                }
            } catch (WrongText e) {
                error = 1;
                errorAt = e.position;
            }
        }

        /** The next token, empty at the end. */
        String peek() {
            while (at < text.length() && (text.charAt(at) == ' ' || text.charAt(at) == '\n')) {
                at++;
            }
            if (at == text.length()) {
                return "";
            }
            Matcher matcher = TOKEN.matcher(text).region(at, text.length());
            if (!matcher.lookingAt() || tokens == 400) {
                throw new WrongText(at);
            }
            String token = matcher.group();
            int most = Character.isDigit(token.charAt(0)) ? 6 : 10;
            if (token.length() > most) {
                throw new WrongText(at);
            }
            return token;
        }

        String next() {
            String token = peek();
            if (token.isEmpty()) {
                throw new WrongText(at);
            }
            at += token.length();
            tokens++;
            return token;
        }

        void need(String due) {
            if (!peek().equals(due)) {
                throw new WrongText(at);
            }
            next();
        }

        void deeper(String due) {
            if (!peek().equals(due) || depth == 8) {
                throw new WrongText(at);
            }
            next();
            depth++;
        }

        void note(int newError, int position) {
            if (error == 0) {
                error = newError;
                errorAt = position;
            }
        }

        void gang() {
            need("gang");
            String name = peek();
            if (!name.matches("[a-z].*") || KEYWORDS.contains(name)) {
                throw new WrongText(at);
            }
            if (names.contains(name)) {
                note(2, at);
            } else if (names.size() >= 4) {
                note(4, at);
            }
            names.add(name);
            next();
            need("at");
            Told told = new Told();
            told.x = number(7);
            told.y = number(7);
            told.block = block();
            gangs.add(told);
        }

        int number(int most) {
            String token = peek();
            if (!token.matches("[0-9]+")) {
                throw new WrongText(at);
            }
            int number = Integer.parseInt(token);
            if (number > most) {
                note(3, at);
            }
            next();
            return number;
        }

        List<Sentence> block() {
            List<Sentence> block = new ArrayList<>();
            deeper("{");
            while (!peek().equals("}")) {
                block.add(sentence());
            }
            next();
            depth--;
            return block;
        }

        Sentence sentence() {
            Sentence sentence = new Sentence();
            sentence.kind = peek();
            if (!Set.of("go", "cut", "turn", "load", "unload", "wait", "if", "repeat", "while").contains(sentence.kind)) {
                throw new WrongText(at);
            }
            next();
            if (sentence.kind.equals("repeat")) {
                sentence.times = number(20);
                sentence.block = block();
            } else if (sentence.kind.equals("if") || sentence.kind.equals("while")) {
                sentence.first = test();
                sentence.block = block();
                if (sentence.kind.equals("if") && peek().equals("else")) {
                    next();
                    sentence.otherwise = block();
                }
            } else {
                if (!sentence.kind.equals("turn") && !sentence.kind.equals("unload")) {
                    sentence.first = sum();
                }
                if (sentence.kind.equals("go")) {
                    need(",");
                    sentence.second = sum();
                }
                need(";");
            }
            return sentence;
        }

        Sum test() {
            Sum test = both();
            while (peek().equals("or")) {
                test = new Sum(next(), test, both());
            }
            return test;
        }

        Sum both() {
            Sum both = single();
            while (peek().equals("and")) {
                both = new Sum(next(), both, single());
            }
            return both;
        }

        Sum single() {
            if (peek().equals("not")) {
                deeper("not");
                Sum not = new Sum("not", single());
                depth--;
                return not;
            }
            if (peek().equals("[")) {
                deeper("[");
                Sum test = test();
                need("]");
                depth--;
                return test;
            }
            Sum left = sum();
            if (!Set.of("<", ">", "=", "<=", ">=").contains(peek())) {
                throw new WrongText(at);
            }
            return new Sum(next(), left, sum());
        }

        Sum sum() {
            Sum sum = product();
            while (peek().equals("+") || peek().equals("-")) {
                sum = new Sum(next(), sum, product());
            }
            return sum;
        }

        Sum product() {
            Sum product = value();
            while (peek().equals("*") || peek().equals("/")) {
                product = new Sum(next(), product, value());
            }
            return product;
        }

        Sum value() {
            String token = peek();
            if (token.matches("[0-9]+") || READINGS.contains(token)) {
                return new Sum(next());
            }
            if (token.equals("-")) {
                deeper("-");
                Sum value = new Sum("negative", value());
                depth--;
                return value;
            }
            if (token.equals("min") || token.equals("max")) {
                next();
                deeper("(");
                Sum one = sum();
                need(",");
                Sum extreme = new Sum(token, one, sum());
                need(")");
                depth--;
                return extreme;
            }
            deeper("(");
            Sum sum = sum();
            need(")");
            depth--;
            return sum;
        }
    }

    // ---- the bog

    /** A block that a gang is in: the next sentence in it, and what it is the block of. */
    static final class Frame {
        final List<Sentence> block;
        int next;
        int left;

        Frame(List<Sentence> block, int next, int left) {
            this.block = block;
            this.next = next;
            this.left = left;
        }
    }

    static final class Gang {
        final int[] told = new int[9];
        final Deque<Frame> frames = new ArrayDeque<>();

        Gang copy() {
            Gang copy = new Gang();
            System.arraycopy(told, 0, copy.told, 0, 9);
            for (Frame frame : frames) {
                copy.frames.addLast(new Frame(frame.block, frame.next, frame.left));
            }
            return copy;
        }
    }

    private static final int X = 0;
    private static final int Y = 1;
    private static final int CART = 2;
    private static final int DAMP = 3;
    private static final int DONE = 4;
    private static final int IDLE = 5;
    private static final int MISSED = 6;
    private static final int HOURS = 7;
    private static final int WAITS = 8;
    private static final int PEAT = 0;
    private static final int WATER = 1;
    private static final int BRICKS = 2;
    private static final int WET = 3;
    private static final int TURNED = 4;

    final int[][][] cells = new int[8][8][5];
    final int[] rain = new int[12];
    final int[] sun = new int[12];
    List<Gang> gangs = new ArrayList<>();
    int day = 0;
    int hour = 0;
    int dry = 0;
    int wet = 0;
    int crumbled = 0;
    int cut = 0;

    Model() {
        for (int x = 0; x < 8; x++) {
            for (int y = 0; y < 8; y++) {
                cells[x][y][PEAT] = x + y == 0 ? 0 : 30;
                cells[x][y][WATER] = 3;
            }
        }
        for (int i = 0; i < 12; i++) {
            sun[i] = 4;
        }
    }

    Model copy() {
        Model copy = new Model();
        for (int x = 0; x < 8; x++) {
            for (int y = 0; y < 8; y++) {
                copy.cells[x][y] = cells[x][y].clone();
            }
        }
        System.arraycopy(rain, 0, copy.rain, 0, 12);
        System.arraycopy(sun, 0, copy.sun, 0, 12);
        for (Gang gang : gangs) {
            copy.gangs.add(gang.copy());
        }
        copy.day = day;
        copy.hour = hour;
        copy.dry = dry;
        copy.wet = wet;
        copy.crumbled = crumbled;
        copy.cut = cut;
        return copy;
    }

    /** The reader tells the error. */
    Reader teach(String text) {
        Reader reader = new Reader(text);
        if (reader.error == 0) {
            gangs = new ArrayList<>();
            for (Told told : reader.gangs) {
                Gang gang = new Gang();
                gang.told[X] = told.x;
                gang.told[Y] = told.y;
                gang.frames.push(new Frame(told.block, 0, 0));
                gangs.add(gang);
            }
        }
        return reader;
    }

    void add(int[] cell, int bricks, int wetness) {
        int all = cell[BRICKS] + bricks;
        cell[WET] = (cell[BRICKS] * cell[WET] + bricks * wetness) / all;
        cell[BRICKS] = all;
    }

    void pass(int hours) {
        for (int i = 0; i < hours; i++) {
            for (Gang gang : gangs) {
                gang.told[HOURS]++;
                if (gang.told[WAITS] > 0) {
                    gang.told[WAITS]--;
                } else {
                    work(gang);
                }
            }
            hour++;
            if (hour == 10) {
                night();
                hour = 0;
                day++;
            }
        }
    }

    private void work(Gang gang) {
        int counted = 0;
        while (true) {
            while (!gang.frames.isEmpty() && gang.frames.peek().next == gang.frames.peek().block.size()) {
                gang.frames.pop();
            }
            if (gang.frames.isEmpty()) {
                gang.told[DONE] = 1;
                gang.told[IDLE]++;
                return;
            }
            Frame frame = gang.frames.peek();
            Sentence sentence = frame.block.get(frame.next);
            boolean isThere = sentence.kind.equals("go")
                    && value(gang, sentence.first) == gang.told[X] && value(gang, sentence.second) == gang.told[Y];
            if (isThere || List.of("if", "repeat", "while").contains(sentence.kind)) {
                if (counted == 50) {
                    gang.told[IDLE]++;
                    return;
                }
                counted++;
                control(gang, frame, sentence);
            } else {
                hourOf(gang, frame, sentence);
                return;
            }
        }
    }

    /** The frame stays at a loop as long as its block goes on; left is 0 as the loop is not begun. */
    private void control(Gang gang, Frame frame, Sentence sentence) {
        if (sentence.kind.equals("go")) {
            frame.next++;
        } else if (sentence.kind.equals("if")) {
            frame.next++;
            gang.frames.push(new Frame(value(gang, sentence.first) != 0 ? sentence.block : sentence.otherwise, 0, 0));
        } else if (sentence.kind.equals("while")) {
            if (value(gang, sentence.first) != 0) {
                gang.frames.push(new Frame(sentence.block, 0, 0));
            } else {
                frame.next++;
            }
        } else {
            frame.left = frame.left == 0 ? sentence.times : frame.left - 1;
            boolean isOver = frame.left == 0;
            if (isOver) {
                frame.next++;
            } else {
                gang.frames.push(new Frame(sentence.block, 0, 0));
            }
        }
    }

    private void hourOf(Gang gang, Frame frame, Sentence sentence) {
        int[] told = gang.told;
        int[] cell = cells[told[X]][told[Y]];
        int wanted = sentence.first == null ? 0 : value(gang, sentence.first);
        int moved = 1;
        if (sentence.kind.equals("go")) {
            go(gang, frame, wanted, value(gang, sentence.second));
            return;
        } else if (sentence.kind.equals("cut")) {
            moved = least(wanted, 6, cell[PEAT], 99 - cell[BRICKS]);
            if (moved > 0) {
                cell[PEAT] -= moved;
                cut += moved;
                add(cell, moved, 20);
            }
        } else if (sentence.kind.equals("turn")) {
            moved = cell[BRICKS];
            cell[TURNED] = moved > 0 ? 1 : 0;
        } else if (sentence.kind.equals("load")) {
            moved = least(wanted, cell[BRICKS], 40 - told[CART], 40);
            if (moved > 0) {
                told[DAMP] = (told[DAMP] * told[CART] + cell[WET] * moved) / (told[CART] + moved);
                told[CART] += moved;
                cell[BRICKS] -= moved;
            }
            if (cell[BRICKS] == 0) {
                cell[WET] = 0;
                cell[TURNED] = 0;
            }
        } else if (sentence.kind.equals("unload")) {
            moved = unload(gang, cell);
        } else {
            told[WAITS] = wanted > 1 ? wanted - 1 : 0;
        }
        if (moved <= 0) {
            told[MISSED]++;
        }
        frame.next++;
    }

    private static int least(int... numbers) {
        int least = numbers[0];
        for (int number : numbers) {
            least = number < least ? number : least;
        }
        return least;
    }

    private int unload(Gang gang, int[] cell) {
        int[] told = gang.told;
        boolean inBarn = told[X] == 0 && told[Y] == 0;
        int moved = inBarn ? told[CART] : least(told[CART], 99 - cell[BRICKS]);
        if (inBarn && told[DAMP] <= 5) {
            dry += moved;
        } else if (inBarn) {
            wet += moved;
        } else if (moved > 0) {
            add(cell, moved, told[DAMP]);
        }
        told[CART] -= moved;
        if (told[CART] == 0) {
            told[DAMP] = 0;
        }
        return moved;
    }

    private void go(Gang gang, Frame frame, int x, int y) {
        int[] told = gang.told;
        if (x < 0 || x > 7 || y < 0 || y > 7) {
            told[MISSED]++;
            frame.next++;
            return;
        }
        int newX = told[X];
        int newY = told[Y];
        if (x < newX) {
            newX--;
        } else if (x > newX) {
            newX++;
        } else if (y < newY) {
            newY--;
        } else {
            newY++;
        }
        if (cells[newX][newY][WATER] == 9) {
            told[MISSED]++;
        } else {
            told[X] = newX;
            told[Y] = newY;
        }
    }

    private int value(Gang gang, Sum sum) {
        if (Character.isDigit(sum.head.charAt(0))) {
            return Integer.parseInt(sum.head);
        }
        if (READINGS.contains(sum.head)) {
            return read(gang, sum.head);
        }
        int left = value(gang, sum.parts.get(0));
        int right = value(gang, sum.parts.get(sum.parts.size() - 1));
        switch (sum.head) {
            case "negative": return (int) -(long) left;
            case "not": return 1 - left;
            case "+": return (int) ((long) left + right);
            case "-": return (int) ((long) left - right);
            case "*": return (int) ((long) left * right);
            case "/": return right == 0 ? 0 : (int) ((long) left / right);
            case "min": return left < right ? left : right;
            case "max": return left > right ? left : right;
            case "<": return left < right ? 1 : 0;
            case ">": return left > right ? 1 : 0;
            case "=": return left == right ? 1 : 0;
            case "<=": return left <= right ? 1 : 0;
            case ">=": return left >= right ? 1 : 0;
            case "and": return left * right;
            default: return left + right > 0 ? 1 : 0;
        }
    }

    private int read(Gang gang, String word) {
        int[] cell = cells[gang.told[X]][gang.told[Y]];
        switch (word) {
            case "x": return gang.told[X];
            case "y": return gang.told[Y];
            case "peat": return cell[PEAT];
            case "bricks": return cell[BRICKS];
            case "wet": return cell[WET];
            case "water": return cell[WATER];
            case "cart": return gang.told[CART];
            case "damp": return gang.told[DAMP];
            case "day": return day;
            case "hour": return hour;
            case "rain": return rain[day % 12];
            case "sun": return sun[day % 12];
            default: return dry;
        }
    }

    private static int held(int number, int most) {
        return number < 0 ? 0 : number > most ? most : number;
    }

    void night() {
        int rainNow = rain[day % 12];
        int sunNow = sun[day % 12];
        int[][] peat = new int[10][10];
        for (int x = 0; x < 8; x++) {
            for (int y = 0; y < 8; y++) {
                int[] cell = cells[x][y];
                if (cell[BRICKS] > 0) {
                    cell[WET] = held(cell[WET] + 2 * rainNow - sunNow * (1 + cell[TURNED]), 20);
                    cell[TURNED] = 0;
                    int lost = cell[WET] == 20 ? cell[BRICKS] / 10 : 0;
                    cell[BRICKS] -= lost;
                    crumbled += lost;
                }
                boolean isBare = cell[PEAT] == 0 && x + y > 0;
                cell[WATER] = held(cell[WATER] + rainNow / 2 - sunNow / 4 + (isBare ? 1 : 0), 9);
                peat[x + 1][y + 1] = cell[PEAT];
            }
        }
        for (int x = 0; x < 8 && (day + 1) % 4 == 0; x++) {
            for (int y = 0; y < 8; y++) {
                int[] cell = cells[x][y];
                int near = Integer.signum(peat[x][y + 1]) + Integer.signum(peat[x + 2][y + 1])
                        + Integer.signum(peat[x + 1][y]) + Integer.signum(peat[x + 1][y + 2]);
                if (x + y > 0 && cell[WATER] >= 4 && cell[PEAT] < 60 && (cell[PEAT] > 0 || near >= 2)) {
                    cell[PEAT]++;
                }
            }
        }
    }

    // ---- what will be

    int foresee(int hours, int what) {
        Model then = copy();
        then.pass(hours);
        return what == 0 ? then.dry : what == 1 ? then.wet : what == 2 ? then.crumbled - crumbled : then.sum(PEAT);
    }

    int sum(int what) {
        int sum = 0;
        for (int[][] column : cells) {
            for (int[] cell : column) {
                sum += cell[what];
            }
        }
        return sum;
    }

    int dries(int x, int y) {
        Model then = copy();
        then.gangs.clear();
        for (int nights = 0; nights <= 60; nights++) {
            if (then.cells[x][y][WET] <= 5) {
                return nights;
            }
            then.pass(10);
        }
        return -1;
    }

    int done(int gang) {
        for (int hours = 0; hours <= 300; hours++) {
            Model then = copy();
            then.pass(hours);
            if (then.gangs.get(gang).told[DONE] == 1) {
                return hours;
            }
        }
        return -1;
    }

    int advise(int hours) {
        int best = -1;
        int most = foresee(hours, 0);
        for (int i = 0; i < 12; i++) {
            Model then = copy();
            then.rain[i] = 0;
            then.sun[i] = 9;
            then.pass(hours);
            if (then.dry > most) {
                most = then.dry;
                best = i;
            }
        }
        return best;
    }

    String paper() {
        StringBuilder paper = new StringBuilder();
        for (int y = 0; y < 8; y++) {
            for (int x = 0; x < 8; x++) {
                paper.append(sign(x, y));
            }
            paper.append('\n');
        }
        return paper.toString();
    }

    private char sign(int x, int y) {
        for (Gang gang : gangs) {
            if (gang.told[X] == x && gang.told[Y] == y) {
                return 'G';
            }
        }
        int[] cell = cells[x][y];
        if (x + y == 0) {
            return 'B';
        }
        if (cell[BRICKS] > 0) {
            return 'S';
        }
        if (cell[WATER] == 9) {
            return '~';
        }
        return ".-++####".charAt(cell[PEAT] == 0 ? 0 : 1 + cell[PEAT] / 20 * 2 - cell[PEAT] / 40);
    }

    int count(int what) {
        int carts = 0;
        for (Gang gang : gangs) {
            carts += gang.told[CART];
        }
        int flooded = 0;
        for (int[][] column : cells) {
            for (int[] cell : column) {
                flooded += cell[WATER] == 9 ? 1 : 0;
            }
        }
        int[] counts = {day, hour, gangs.size(), 0, 0, dry, wet, sum(BRICKS), carts, crumbled, cut, sum(PEAT), flooded};
        return counts[what];
    }
}
