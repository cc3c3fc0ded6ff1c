import java.util.ArrayList;
import java.util.List;

/** Each token put at each place of a text, in the place of one and between two, against the Model's reading. */
public final class TokensInPlaceTest {
    private static final Check CHECK = new Check("TokensInPlaceTest");
    private static final String[] TOKENS = {"gang", "at", "go", "cut", "turn", "load", "unload", "wait", "if", "else",
        "repeat", "while", "x", "y", "peat", "bricks", "wet", "water", "cart", "damp", "day", "hour", "rain", "sun", "barn",
        "not", "and", "or", "min", "max", "{", "}", "(", ")", "[", "]", ";", ",", "+", "-", "*", "/", "<", ">", "=", "<=",
        ">=", "a", "b", "0", "8", "21", "999999", "1234567", "abcdefghijk", "?", "A"};
    private static final String[] TEXTS = {
        "gang a at 1 2 { go x , - 3 ; cut 1 ; turn ; load 4 ; unload ; wait min ( 5 , 6 ) ; } gang b at 3 4 { }",
        "gang a at 1 2 { if x < 1 and not [ y = 2 or 3 >= ( 4 ) ] { turn ; } else { } repeat 5 { } }",
        "gang a at 1 2 { while - x * 2 + y / 3 - 4 <= max ( 1 , - 1 ) { if 1 = 1 { } } }",
    };

    public static void main(String[] args) {
        for (String text : TEXTS) {
            for (int at = 0; at <= text.split(" ").length; at++) {
                spoil(text, at);
            }
        }
        CHECK.finish();
    }

    private static void spoil(String text, int at) {
        List<String> tokens = List.of(text.split(" "));
        for (String token : TOKENS) {
            List<String> longer = new ArrayList<>(tokens);
            longer.add(at, token);
            compare(String.join(" ", longer));
            if (at < tokens.size()) {
                List<String> other = new ArrayList<>(tokens);
                other.set(at, token);
                compare(String.join(" ", other));
            }
        }
        List<String> shorter = new ArrayList<>(tokens.subList(0, at));
        compare(String.join(" ", shorter));
        shorter.addAll(tokens.subList(Math.min(at + 1, tokens.size()), tokens.size()));
        compare(String.join("\n", shorter));
    }

    private static void compare(String text) {
        Model.Reader reader = new Model.Reader(text);
        PeatBog fresh = new PeatBog();
        CHECK.same("teach() of " + text, Check.teachText(fresh, text), reader.error);
        CHECK.same("errorAt() of " + text, fresh.errorAt(), reader.errorAt);
    }
}
