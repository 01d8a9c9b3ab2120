import java.util.ArrayList;
import java.util.List;

/** What the tests share: due answers, due exceptions, texts for a workbench. */
final class Due {
    interface Call {
        Object answer();
    }

    private static int wrong = 0;
    private static int asked = 0;

    private Due() {
    }

    static void is(String what, Object due, Call call) {
        Object got;
        try {
            got = call.answer();
        } catch (RuntimeException e) {
            got = "throws." + e.getClass().getSimpleName();
        }
        asked++;
        if (!due.equals(got)) {
            wrong++;
            System.out.println(what + ": answered " + got + ", due is " + due);
        }
    }

    static void missing(String what, Call call) {
        is(what, "throws.NoSuchElementException", call);
    }

    static void illegal(String what, Call call) {
        is(what, "throws.IllegalArgumentException", call);
    }

    static void refused(String what, Call call) {
        is(what, "throws.IllegalStateException", call);
    }

    static void outside(String what, Call call) {
        is(what, "throws.IndexOutOfBoundsException", call);
    }

    static int wrong() {
        return wrong;
    }

    /** Ends the test: with exit code 1 if an answer was wrong. */
    static void end(String test) {
        System.out.println(test + ": " + asked + " answers, " + wrong + " not as due");
        if (wrong != 0) {
            System.exit(1);
        }
    }

    /** The bytes of a text, filled up with letters that would be an error if they were read. */
    static List<int[]> feeds(String text) {
        List<int[]> rows = new ArrayList<>();
        for (int at = 0; at < text.length(); at += 20) {
            int[] row = new int[5];
            for (int i = 0; i < 20; i++) {
                int sign = at + i < text.length() ? text.charAt(at + i) : 'a';
                row[i / 4] = row[i / 4] << 8 | sign;
            }
            rows.add(row);
        }
        return rows;
    }

    static void feed(ParityGame game, String text) {
        for (int[] row : feeds(text)) {
            game.feed(row[0], row[1], row[2], row[3], row[4]);
        }
    }

    static ParityGame loaded(String text) {
        ParityGame game = new ParityGame();
        feed(game, text);
        game.load(text.length());
        return game;
    }

    static String written(ParityGame game) {
        StringBuilder text = new StringBuilder();
        int length = game.writePlaces();
        for (int i = 0; i < length; i++) {
            text.append((char) game.outputByte(i));
        }
        return text.toString();
    }

    /** All that undo() brings back, as the calls tell it. */
    static String state(ParityGame game) {
        StringBuilder text = new StringBuilder();
        for (int place = 0; place < game.size(0); place++) {
            text.append(game.place(place, 0) == 0 ? 'e' : 'o').append(game.place(place, 1)).append(' ');
        }
        for (int move = 0; move < game.size(1); move++) {
            text.append(game.move(move, 0)).append('>').append(game.move(move, 1)).append(' ');
        }
        text.append('@').append(game.size(6)).append('+').append(game.size(7));
        for (int call = 0; call < 10; call++) {
            text.append(' ').append(game.heard(call));
        }
        return text.toString();
    }
}
