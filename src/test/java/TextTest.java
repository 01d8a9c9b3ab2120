import java.util.ArrayList;
import java.util.List;
import java.util.regex.Matcher;
import java.util.regex.Pattern;

/** Descriptions, right ones and spoilt ones, against a reading of them by patterns. */
public final class TextTest {
    private static final Pattern TOKEN = Pattern.compile("[a-z]+|[0-9]+|;|[ \n]+|.", Pattern.DOTALL);

    private final List<String> tokens = new ArrayList<>();
    private final List<Integer> positions = new ArrayList<>();
    private final Model model = new Model();
    private int code;
    private int position = -1;

    private TextTest(String text) {
        boolean tight = false;
        Matcher matcher = TOKEN.matcher(text);
        while (matcher.find()) {
            String token = matcher.group();
            if (token.charAt(0) == ' ' || token.charAt(0) == '\n') {
                tight = false;
                continue;
            }
            boolean run = token.matches("[a-z]+|[0-9]+");
            boolean good = run ? !tight && !token.matches("[0-9]{4,}") : token.equals(";");
            tokens.add(good ? token : "?");
            positions.add(matcher.start());
            tight = run;
        }
        tokens.add("end");
        positions.add(text.length());
        read();
    }

    private void error(int at, int found) {
        if (code == 0) {
            code = found;
            position = positions.get(at);
        }
    }

    private boolean isNumber(int at) {
        return tokens.get(at).matches("[0-9]+");
    }

    private int number(int at) {
        return Integer.parseInt(tokens.get(at));
    }

    private void read() {
        int laid = 0;
        int last = tokens.size() - 1;
        if (!tokens.get(0).equals("game")) {
            error(0, 1);
            return;
        }
        int at = 1;
        while (at < last && code == 0) {
            if (!tokens.get(at).equals(";")) {
                error(at, 1);
                return;
            }
            at++;
            String word = at == last ? "" : tokens.get(at);
            if (!List.of("even", "odd", "move", "token").contains(word)) {
                error(at, 1);
                return;
            }
            at++;
            int count = 0;
            int first = -1;
            while (at < last && isNumber(at) && code == 0 && !(word.equals("token") && count == 1)) {
                int value = number(at);
                if (word.equals("even") || word.equals("odd")) {
                    if (value > 9) {
                        error(at, 2);
                    } else if (model.places() == 20) {
                        error(at, 5);
                    } else {
                        model.owners.add(word.equals("even") ? 0 : 1);
                        model.calls.add(value);
                    }
                } else if (value >= model.places()) {
                    error(at, 3);
                } else if (word.equals("token")) {
                    laid = value;
                } else if (count == 0) {
                    first = value;
                } else if (model.between(first, value) >= 0) {
                    error(at, 4);
                } else if (model.moves.size() == 60) {
                    error(at, 5);
                } else {
                    model.moves.add(new int[] {first, value});
                }
                count++;
                at++;
            }
            if (count < (word.equals("move") ? 2 : 1)) {
                error(at, 1);
            }
        }
        if (model.places() == 0) {
            error(last, 6);
        }
        if (code == 0) {
            model.lay(laid);
        }
    }

    public static void main(String[] args) {
        Chance chance = new Chance(5);
        int good = 0;
        int[] codes = new int[7];
        for (int i = 0; i < 60000 && Due.wrong() < 20; i++) {
            String text = text(chance);
            int spoilt = chance.below(3);
            for (int k = 0; k < spoilt; k++) {
                text = spoilt(text, chance);
            }
            if (text.length() <= 600) {
                codes[ask(i, text)]++;
                good++;
            }
        }
        System.out.println("TextTest: " + good + " texts, errors " + java.util.Arrays.toString(codes));
        for (int code = 0; code <= 6; code++) {
            int one = code;
            Due.is("texts with error " + code, true, () -> codes[one] > 50);
        }
        Due.end("TextTest");
    }

    private static int ask(int i, String text) {
        TextTest due = new TextTest(text);
        ParityGame game = new ParityGame();
        Due.feed(game, text);
        String before = Due.state(game);
        String name = "text " + i + " \"" + text + "\" ";
        Object answer = due.code == 0 ? (Object) due.model.places() : "throws.IllegalStateException";
        Due.is(name + "load", answer, () -> game.load(text.length()));
        Due.is(name + "errorCode", due.code, () -> game.errorCode());
        Due.is(name + "errorPosition", due.position, () -> game.errorPosition());
        String state = due.code == 0 ? Due.state(RandomTest.built(due.model)) : before;
        if (due.code == 0) {
            ParityGame other = RandomTest.built(due.model);
            other.lay(due.model.token);
            state = Due.state(other);
        }
        String expected = state;
        Due.is(name + "state", expected, () -> Due.state(game));
        return due.code;
    }

    private static String text(Chance chance) {
        StringBuilder text = new StringBuilder(blank(chance, false)).append("game");
        int places = 0;
        int lines = chance.below(5) == 0 ? chance.below(16) : chance.below(6);
        for (int line = 0; line < lines; line++) {
            text.append(blank(chance, false)).append(';').append(blank(chance, false));
            int what = places == 0 ? chance.below(2) : chance.below(6);
            int numbers = 1 + chance.below(chance.below(4) == 0 ? 12 : 4);
            if (what < 2) {
                text.append(what == 0 ? "even" : "odd");
                for (int i = 0; i < numbers; i++) {
                    text.append(blank(chance, true)).append(number(chance, 10));
                    places++;
                }
            } else if (what == 2) {
                text.append("token").append(blank(chance, true)).append(number(chance, places));
            } else {
                text.append("move").append(blank(chance, true)).append(number(chance, places));
                int to = chance.below(places);
                for (int i = 0; i < numbers && i < places; i++) {
                    text.append(blank(chance, true)).append((to + i) % places);
                }
            }
        }
        return text.append(blank(chance, false)).toString();
    }

    private static String number(Chance chance, int bound) {
        int value = chance.below(40) == 0 ? bound + chance.below(3) : chance.below(bound);
        int form = chance.below(30);
        return form == 0 ? "0" + value : form == 1 ? String.format("%03d", value) : "" + value;
    }

    private static String blank(Chance chance, boolean needed) {
        int form = chance.below(12);
        if (form == 0) {
            return "\n";
        }
        if (form == 1) {
            return " \n ";
        }
        return needed || form < 5 ? " " : "";
    }

    private static String spoilt(String text, Chance chance) {
        int at = chance.below(text.length() + 1);
        int end = Math.min(text.length(), at + chance.below(3));
        String[] parts = {"", " ", ";", "0", "9", "12", "a", "even", "odd 3", "move 0 0", "token 0", "game", "x",
            "?", "\n", "\t", "A", "0000", "" + (char) 0, "" + (char) 255, ";;", "; move 0 1 2", "-1", "+"};
        return text.substring(0, at) + parts[chance.below(parts.length)] + text.substring(end);
    }
}
